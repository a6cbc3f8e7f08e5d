theorem okX5_has : okY yX5_has 1 := ⟨by decide +kernel, by decide +kernel, by decide +kernel⟩
set_option maxRecDepth 100000 in
set_option maxHeartbeats 4000000 in
theorem tX5_has (l : Launch) (D : va_G) (y : Nat → ClassId) (a_this a_this_told : Nat) (v1 : Int32) (x_held : Int32) (z0 : Int32) (hp : pX5_has v1 x_held = some z0) : CZ D y l yX5_has (Cond.code yX5_has cX5_has 2 (some .boolean) :: tbG) { frames := 0, cells := 0, slots := 0, locals := 0 } [.ref a_this, .int (v1)] [(a_this, .inr (5, [.ref a_this_told, .int (x_held)]))] [(a_this, .inr (5, [.ref a_this_told, .int (x_held)]))] (z0) := by
  refine CZ.of (own := RX5) (by decide) rfl (Nat.le_of_ble_eq_true rfl) ?_
  intro p e s m args below meth c A H locs ls C hw hl
  have hl : lv_has ls 2 [(0, .ref a_this), (1, .int (v1))] := hl
  unfold pX5_has at hp
  refine lv_iload_n C.x C.b dX5_has_0 rfl (lv_at hl 1 rfl) ?_
  refine lv_if_lt (tgt := 16) C.x C.b dX5_has_1 (by decide) (fun c9 => ?_) (fun c9 => ?_)
  · replace hp := it_t c9 hp
    refine lv_iconst (v := 0) C.x C.b dX5_has_16 (by decide) ?_
    obtain rfl := Option.some.inj hp
    exact q_zret C hw (by decide) rfl dX5_has_17
  · replace hp := it_f c9 hp
    refine lv_iload_n C.x C.b dX5_has_4 rfl (lv_at hl 1 rfl) ?_
    refine lv_aload_n C.x C.b dX5_has_5 rfl (lv_at hl 0 rfl) ?_
    refine q_get (v := .int (x_held)) (T := TX5) C hw 0 1 rfl rfl rfl inX5 (by decide) kw154 rfl dX5_has_6 ?_
    refine lv_icmp_ge (tgt := 16) C.x C.b dX5_has_9 (by decide) (fun c9 => ?_) (fun c9 => ?_)
    · replace hp := it_t c9 hp
      refine lv_iconst (v := 0) C.x C.b dX5_has_16 (by decide) ?_
      obtain rfl := Option.some.inj hp
      exact q_zret C hw (by decide) rfl dX5_has_17
    · replace hp := it_f c9 hp
      refine lv_iconst (v := 1) C.x C.b dX5_has_12 (by decide) ?_
      refine lv_goto (tgt := 17) C.x C.b dX5_has_13 (by decide) ?_
      obtain rfl := Option.some.inj hp
      exact q_zret C hw (by decide) rfl dX5_has_17
theorem okX5_isFull : okY yX5_isFull 1 := ⟨by decide +kernel, by decide +kernel, by decide +kernel⟩
set_option maxRecDepth 100000 in
set_option maxHeartbeats 4000000 in
theorem tX5_isFull (l : Launch) (D : va_G) (y : Nat → ClassId) (a_this a_this_told : Nat) (n_this_told : Nat) (v1 : Int32) (x_held : Int32) (x_told : Nat → Int64) (z0 : Int32) (hp : pX5_isFull n_this_told v1 x_held x_told = some z0) : CZ D y l yX5_isFull (Cond.code yX5_isFull cX5_isFull 2 (some .boolean) :: tbG) { frames := 1, cells := 0, slots := 0, locals := 21 } [.ref a_this, .int (v1)] [(a_this, .inr (5, [.ref a_this_told, .int (x_held)])), (a_this_told, .inl (y 1, n_this_told, .inr (.inl (x_told))))] [(a_this, .inr (5, [.ref a_this_told, .int (x_held)])), (a_this_told, .inl (y 1, n_this_told, .inr (.inl (x_told))))] (z0) := by
  refine CZ.of (own := RX5) (by decide) rfl (Nat.le_of_ble_eq_true rfl) ?_
  intro p e s m args below meth c A H locs ls C hw hl
  have hl : lv_has ls 2 [(0, .ref a_this), (1, .int (v1))] := hl
  unfold pX5_isFull at hp
  refine lv_aload_n C.x C.b dX5_isFull_0 rfl (lv_at hl 0 rfl) ?_
  refine lv_iload_n C.x C.b dX5_isFull_1 rfl (lv_at hl 1 rfl) ?_
  obtain ⟨k2, hk, hp⟩ := bd_some hp
  refine q_aftZ (wc := [(a_this, .inr (5, [.ref a_this_told, .int (x_held)]))]) (wr := [(a_this_told, .inl (y 1, n_this_told, .inr (.inl (x_told))))]) (w1 := [(a_this, .inr (5, [.ref a_this_told, .int (x_held)]))]) (w2 := [(a_this, .inr (5, [.ref a_this_told, .int (x_held)])), (a_this_told, .inl (y 1, n_this_told, .inr (.inl (x_told))))]) C hw [0] [1] [1, 0] rfl rfl (by decide) (by decide) (by decide) rfl (q_runV (As := [.int (v1)]) (rest := []) (q0 := 0) (ci := 5) C hw (tX5_has l D y a_this a_this_told v1 x_held k2 hk H.size) [0] rfl (by decide) rfl rfl kw509 kw510 kw511 kw115 kw512 okX5_has ⟨rfl, rfl⟩ ⟨Nat.le_of_ble_eq_true rfl, Nat.le_of_ble_eq_true rfl⟩ rfl hl.1 rfl (Nat.le_of_ble_eq_true rfl) dX5_isFull_2 ⟨Nat.zero_le _, Nat.zero_le _⟩) (fun H locs hz2 hw => ?_)
  refine lv_if_eq (tgt := 25) C.x C.b dX5_isFull_5 (by decide) (fun c9 => ?_) (fun c9 => ?_)
  · replace hp := it_t c9 hp
    refine lv_iconst (v := 0) C.x C.b dX5_isFull_25 (by decide) ?_
    obtain rfl := Option.some.inj hp
    exact q_zret C hw (by decide) rfl dX5_isFull_26
  · replace hp := it_f c9 hp
    refine lv_aload_n C.x C.b dX5_isFull_8 rfl (lv_at hl 0 rfl) ?_
    refine q_get (v := .ref a_this_told) (T := TX5) C hw 0 0 rfl rfl rfl inX5 (by decide) kw152 rfl dX5_isFull_9 ?_
    refine lv_iload_n C.x C.b dX5_isFull_12 rfl (lv_at hl 1 rfl) ?_
    obtain ⟨hi, hp⟩ := ck_some hp
    refine q_lald C hw 1 rfl hi dX5_isFull_13 ?_
    refine lv_ldc2 C.x C.b C.ow (C.ts _ (List.mem_cons_of_mem _ kw705)) dX5_isFull_14 ?_
    refine W.lcmp C.x C.b dX5_isFull_17 ?_
    refine lv_if_eq (tgt := 25) C.x C.b dX5_isFull_18 (by decide) (fun c9 => ?_) (fun c9 => ?_)
    · replace hp := it_t c9 hp
      refine lv_iconst (v := 0) C.x C.b dX5_isFull_25 (by decide) ?_
      obtain rfl := Option.some.inj hp
      exact q_zret C hw (by decide) rfl dX5_isFull_26
    · replace hp := it_f c9 hp
      refine lv_iconst (v := 1) C.x C.b dX5_isFull_21 (by decide) ?_
      refine lv_goto (tgt := 26) C.x C.b dX5_isFull_22 (by decide) ?_
      obtain rfl := Option.some.inj hp
      exact q_zret C hw (by decide) rfl dX5_isFull_26
theorem okX5_spans : okY yX5_spans 2 := ⟨by decide +kernel, by decide +kernel, by decide +kernel⟩
set_option maxRecDepth 100000 in
set_option maxHeartbeats 4000000 in
theorem tX5_spans (l : Launch) (D : va_G) (y : Nat → ClassId) (a_this a_this_told : Nat) (v1 : Int32) (v2 : Int32) (x_held : Int32) (z0 : Int32) (hp : pX5_spans v1 v2 x_held = some z0) : CZ D y l yX5_spans (Cond.code yX5_spans cX5_spans 3 (some .boolean) :: tbG) { frames := 0, cells := 0, slots := 0, locals := 0 } [.ref a_this, .int (v1), .int (v2)] [(a_this, .inr (5, [.ref a_this_told, .int (x_held)]))] [(a_this, .inr (5, [.ref a_this_told, .int (x_held)]))] (z0) := by
  refine CZ.of (own := RX5) (by decide) rfl (Nat.le_of_ble_eq_true rfl) ?_
  intro p e s m args below meth c A H locs ls C hw hl
  have hl : lv_has ls 3 [(0, .ref a_this), (1, .int (v1)), (2, .int (v2))] := hl
  unfold pX5_spans at hp
  refine lv_iload_n C.x C.b dX5_spans_0 rfl (lv_at hl 1 rfl) ?_
  refine lv_if_lt (tgt := 21) C.x C.b dX5_spans_1 (by decide) (fun c9 => ?_) (fun c9 => ?_)
  · replace hp := it_t c9 hp
    refine lv_iconst (v := 0) C.x C.b dX5_spans_21 (by decide) ?_
    obtain rfl := Option.some.inj hp
    exact q_zret C hw (by decide) rfl dX5_spans_22
  · replace hp := it_f c9 hp
    refine lv_iload_n C.x C.b dX5_spans_4 rfl (lv_at hl 1 rfl) ?_
    refine lv_iload_n C.x C.b dX5_spans_5 rfl (lv_at hl 2 rfl) ?_
    refine lv_icmp_gt (tgt := 21) C.x C.b dX5_spans_6 (by decide) (fun c9 => ?_) (fun c9 => ?_)
    · replace hp := it_t c9 hp
      refine lv_iconst (v := 0) C.x C.b dX5_spans_21 (by decide) ?_
      obtain rfl := Option.some.inj hp
      exact q_zret C hw (by decide) rfl dX5_spans_22
    · replace hp := it_f c9 hp
      refine lv_iload_n C.x C.b dX5_spans_9 rfl (lv_at hl 2 rfl) ?_
      refine lv_aload_n C.x C.b dX5_spans_10 rfl (lv_at hl 0 rfl) ?_
      refine q_get (v := .int (x_held)) (T := TX5) C hw 0 1 rfl rfl rfl inX5 (by decide) kw154 rfl dX5_spans_11 ?_
      refine lv_icmp_gt (tgt := 21) C.x C.b dX5_spans_14 (by decide) (fun c9 => ?_) (fun c9 => ?_)
      · replace hp := it_t c9 hp
        refine lv_iconst (v := 0) C.x C.b dX5_spans_21 (by decide) ?_
        obtain rfl := Option.some.inj hp
        exact q_zret C hw (by decide) rfl dX5_spans_22
      · replace hp := it_f c9 hp
        refine lv_iconst (v := 1) C.x C.b dX5_spans_17 (by decide) ?_
        refine lv_goto (tgt := 22) C.x C.b dX5_spans_18 (by decide) ?_
        obtain rfl := Option.some.inj hp
        exact q_zret C hw (by decide) rfl dX5_spans_22
theorem okX5_tellAt : okY yX5_tellAt 1 := ⟨by decide +kernel, by decide +kernel, by decide +kernel⟩
set_option maxRecDepth 100000 in
set_option maxHeartbeats 4000000 in
theorem tX5_tellAt (l : Launch) (D : va_G) (y : Nat → ClassId) (a_this a_this_told : Nat) (n_this_told : Nat) (v1 : Int32) (x_held : Int32) (x_told : Nat → Int64) (z0 : Int64) (hp : pX5_tellAt n_this_told v1 x_held x_told = some z0) : CL D y l yX5_tellAt (Cond.code yX5_tellAt cX5_tellAt 2 (some .long) :: tbG) { frames := 1, cells := 0, slots := 0, locals := 21 } [.ref a_this, .int (v1)] [(a_this, .inr (5, [.ref a_this_told, .int (x_held)])), (a_this_told, .inl (y 1, n_this_told, .inr (.inl (x_told))))] [(a_this, .inr (5, [.ref a_this_told, .int (x_held)])), (a_this_told, .inl (y 1, n_this_told, .inr (.inl (x_told))))] (z0) := by
  refine CL.of (own := RX5) (by decide) rfl (Nat.le_of_ble_eq_true rfl) ?_
  intro p e s m args below meth c A H locs ls C hw hl
  have hl : lv_has ls 2 [(0, .ref a_this), (1, .int (v1))] := hl
  unfold pX5_tellAt at hp
  refine lv_aload_n C.x C.b dX5_tellAt_0 rfl (lv_at hl 0 rfl) ?_
  refine lv_iload_n C.x C.b dX5_tellAt_1 rfl (lv_at hl 1 rfl) ?_
  obtain ⟨k2, hk, hp⟩ := bd_some hp
  refine q_aftZ (wc := [(a_this, .inr (5, [.ref a_this_told, .int (x_held)]))]) (wr := [(a_this_told, .inl (y 1, n_this_told, .inr (.inl (x_told))))]) (w1 := [(a_this, .inr (5, [.ref a_this_told, .int (x_held)]))]) (w2 := [(a_this, .inr (5, [.ref a_this_told, .int (x_held)])), (a_this_told, .inl (y 1, n_this_told, .inr (.inl (x_told))))]) C hw [0] [1] [1, 0] rfl rfl (by decide) (by decide) (by decide) rfl (q_runV (As := [.int (v1)]) (rest := []) (q0 := 0) (ci := 5) C hw (tX5_has l D y a_this a_this_told v1 x_held k2 hk H.size) [0] rfl (by decide) rfl rfl kw509 kw510 kw511 kw115 kw512 okX5_has ⟨rfl, rfl⟩ ⟨Nat.le_of_ble_eq_true rfl, Nat.le_of_ble_eq_true rfl⟩ rfl hl.1 rfl (Nat.le_of_ble_eq_true rfl) dX5_tellAt_2 ⟨Nat.zero_le _, Nat.zero_le _⟩) (fun H locs hz2 hw => ?_)
  refine lv_if_eq (tgt := 17) C.x C.b dX5_tellAt_5 (by decide) (fun c9 => ?_) (fun c9 => ?_)
  · replace hp := it_t c9 hp
    refine lv_ldc2 C.x C.b C.ow (C.ts _ (List.mem_cons_of_mem _ kw559)) dX5_tellAt_17 ?_
    obtain rfl := Option.some.inj hp
    exact q_lret C hw rfl dX5_tellAt_20
  · replace hp := it_f c9 hp
    refine lv_aload_n C.x C.b dX5_tellAt_8 rfl (lv_at hl 0 rfl) ?_
    refine q_get (v := .ref a_this_told) (T := TX5) C hw 0 0 rfl rfl rfl inX5 (by decide) kw152 rfl dX5_tellAt_9 ?_
    refine lv_iload_n C.x C.b dX5_tellAt_12 rfl (lv_at hl 1 rfl) ?_
    obtain ⟨hi, hp⟩ := ck_some hp
    refine q_lald C hw 1 rfl hi dX5_tellAt_13 ?_
    refine lv_goto (tgt := 20) C.x C.b dX5_tellAt_14 (by decide) ?_
    obtain rfl := Option.some.inj hp
    exact q_lret C hw rfl dX5_tellAt_20
theorem okX5_append : okY yX5_append 1 := ⟨by decide +kernel, by decide +kernel, by decide +kernel⟩
set_option maxRecDepth 100000 in
set_option maxHeartbeats 4000000 in
theorem tX5_append (l : Launch) (D : va_G) (y : Nat → ClassId) (a_this a_this_told : Nat) (n_this_told : Nat) (v1 : Int64) (x_held : Int32) (x_told : Nat → Int64) (z0 : Int32 × Int32 × (Nat → Int64)) (hp : pX5_append n_this_told v1 x_held x_told = some z0) : CZ D y l yX5_append (Cond.code yX5_append cX5_append 3 (some .boolean) :: tbG) { frames := 0, cells := 0, slots := 0, locals := 0 } [.ref a_this, .long (v1)] [(a_this, .inr (5, [.ref a_this_told, .int (x_held)])), (a_this_told, .inl (y 1, n_this_told, .inr (.inl (x_told))))] [(a_this, .inr (5, [.ref a_this_told, .int (z0.2.1)])), (a_this_told, .inl (y 1, n_this_told, .inr (.inl (z0.2.2))))] (z0.1) := by
  refine CZ.of (own := RX5) (by decide) rfl (Nat.le_of_ble_eq_true rfl) ?_
  intro p e s m args below meth c A H locs ls C hw hl
  have hl : lv_has ls 3 [(0, .ref a_this), (1, .long (v1))] := hl
  unfold pX5_append at hp
  refine lv_aload_n C.x C.b dX5_append_0 rfl (lv_at hl 0 rfl) ?_
  refine q_get (v := .int (x_held)) (T := TX5) C hw 0 1 rfl rfl rfl inX5 (by decide) kw154 rfl dX5_append_1 ?_
  refine lv_aload_n C.x C.b dX5_append_4 rfl (lv_at hl 0 rfl) ?_
  refine q_get (v := .ref a_this_told) (T := TX5) C hw 0 0 rfl rfl rfl inX5 (by decide) kw152 rfl dX5_append_5 ?_
  refine va_alen C.x C.b C.k.1 hw.1 1 1 rfl rfl rfl dX5_append_8 ?_
  refine lv_icmp_lt (tgt := 14) C.x C.b dX5_append_9 (by decide) (fun c9 => ?_) (fun c9 => ?_)
  · replace hp := it_t c9 hp
    refine lv_aload_n C.x C.b dX5_append_14 rfl (lv_at hl 0 rfl) ?_
    refine q_get (v := .ref a_this_told) (T := TX5) C hw 0 0 rfl rfl rfl inX5 (by decide) kw152 rfl dX5_append_15 ?_
    refine lv_aload_n C.x C.b dX5_append_18 rfl (lv_at hl 0 rfl) ?_
    refine q_get (v := .int (x_held)) (T := TX5) C hw 0 1 rfl rfl rfl inX5 (by decide) kw154 rfl dX5_append_19 ?_
    refine lv_lload_n C.x C.b dX5_append_22 rfl (lv_at hl 1 rfl) ?_
    obtain ⟨hi, hp⟩ := ck_some hp
    refine q_last (w2 := [(a_this, .inr (5, [.ref a_this_told, .int (x_held)])), (a_this_told, .inl (y 1, n_this_told, .inr (.inl ((vp_updL x_told x_held.toNatClampNeg v1)))))]) C hw 1 rfl rfl hi dX5_append_23 (fun H locs hw => ?_)
    refine lv_aload_n C.x C.b dX5_append_24 rfl (lv_at hl 0 rfl) ?_
    refine lv_dup C.x C.b dX5_append_25 rfl ?_
    refine q_get (v := .int (x_held)) (T := TX5) C hw 0 1 rfl rfl rfl inX5 (by decide) kw154 rfl dX5_append_26 ?_
    refine lv_iconst (v := 1) C.x C.b dX5_append_29 (by decide) ?_
    refine lv_iadd C.x C.b dX5_append_30 ?_
    refine q_pf (v := .int ((x_held + 1))) (w2 := [(a_this, .inr (5, [.ref a_this_told, .int ((x_held + 1))])), (a_this_told, .inl (y 1, n_this_told, .inr (.inl ((vp_updL x_told x_held.toNatClampNeg v1)))))]) (T := TX5) (ty0 := tyX5) (ty := .int) C hw 0 1 rfl rfl (Nat.le_of_ble_eq_true rfl) rfl inX5 tyX5_ok nmX5 (by decide) kw154 rfl rfl rfl rfl rfl dX5_append_31 (fun H locs hw => ?_)
    refine lv_iconst (v := 1) C.x C.b dX5_append_34 (by decide) ?_
    obtain rfl := Option.some.inj hp
    exact q_zret C hw (by decide) rfl dX5_append_35
  · replace hp := it_f c9 hp
    refine lv_iconst (v := 0) C.x C.b dX5_append_12 (by decide) ?_
    obtain rfl := Option.some.inj hp
    exact q_zret C hw (by decide) rfl dX5_append_13
theorem okX5_appendFrom : okY yX5_appendFrom 3 := ⟨by decide +kernel, by decide +kernel, by decide +kernel⟩
set_option maxRecDepth 100000 in
set_option maxHeartbeats 4000000 in
theorem wX5_appendFrom_b3j30 {D : va_G} {y : Nat → ClassId} {p : Program} {l : Launch} {e : Env} {s : State} {m : MethodId} {args : Array Value} {below : List Frame} {meth : Method} {c : Code} {A : Nat → Prop} (a_this a_p1 a_this_told a_p1_told : Nat) (n_this_told n_p1_told : Nat) (v3 : Int32) (v4 : Int32)   (x_held : Int32) (x_told : Nat → Int64) (x_p1_held : Int32) (x_p1_told : Nat → Int64) (o : (Int32 × Int32 × (Nat → Int64)) ⊕ (Int32 × Int32 × (Nat → Int64))) (C : Cx D y p s m args meth c A RX5 cX5_appendFrom (Cond.code yX5_appendFrom cX5_appendFrom 5 none) none 5) {Q : State → Prop} (H : Heap) (locs : List Loc) (ls : Array Slot) (hp : pX5_appendFrom_b3j30 n_this_told n_p1_told v4 x_held x_told = some o) (hw : St D A s H locs [(a_this, .inr (5, [.ref a_this_told, .int (x_held)])), (a_this_told, .inl (y 1, n_this_told, .inr (.inl (x_told)))), (a_p1, .inr (5, [.ref a_p1_told, .int (x_p1_held)])), (a_p1_told, .inl (y 1, n_p1_told, .inr (.inl (x_p1_told))))]) (hl : lv_has ls 5 [(0, .ref a_this), (1, .ref a_p1), (3, .int (v3)), (4, .int (v4))]) (kb : ∀ (z9 : Int32 × Int32 × (Nat → Int64)) (H : Heap) (locs : List Loc) (ls : Array Slot), o = .inl z9 → St D A s H locs [(a_this, .inr (5, [.ref a_this_told, .int (z9.2.1)])), (a_this_told, .inl (y 1, n_this_told, .inr (.inl (z9.2.2)))), (a_p1, .inr (5, [.ref a_p1_told, .int (x_p1_held)])), (a_p1_told, .inl (y 1, n_p1_told, .inr (.inl (x_p1_told))))] → lv_has ls 5 [(0, .ref a_this), (1, .ref a_p1), (3, .int (v3)), (4, .int (z9.1))] → W p l e { frames := 1, cells := 0, slots := 0, locals := 22 } s m args below meth c H locs 0 0 Q (F0 m 3 ls [])) (kx : ∀ (z9 : Int32 × Int32 × (Nat → Int64)) (H : Heap) (locs : List Loc) (ls : Array Slot), o = .inr z9 → St D A s H locs [(a_this, .inr (5, [.ref a_this_told, .int (z9.2.1)])), (a_this_told, .inl (y 1, n_this_told, .inr (.inl (z9.2.2)))), (a_p1, .inr (5, [.ref a_p1_told, .int (x_p1_held)])), (a_p1_told, .inl (y 1, n_p1_told, .inr (.inl (x_p1_told))))] → lv_has ls 5 [] → W p l e { frames := 1, cells := 0, slots := 0, locals := 22 } s m args below meth c H locs 0 0 Q (F0 m 36 ls [])) : W p l e { frames := 1, cells := 0, slots := 0, locals := 22 } s m args below meth c H locs 0 0 Q (F0 m 30 ls []) := by
  unfold pX5_appendFrom_b3j30 at hp
  refine lv_iinc (v := (v4 + 1)) (lv' := [(4, .int ((v4 + 1))), (0, .ref a_this), (1, .ref a_p1), (3, .int (v3))]) C.x C.b dX5_appendFrom_30 hl (k := 3) rfl rfl (by decide) rfl (fun ls hl => ?_)
  refine lv_goto (tgt := 3) C.x C.b dX5_appendFrom_33 (by decide) ?_
  exact kb _ H locs ls (Option.some.inj hp).symm hw (lv_sub hl [1, 2, 3, 0] rfl)
set_option maxRecDepth 100000 in
set_option maxHeartbeats 4000000 in
theorem wX5_appendFrom_b3 {D : va_G} {y : Nat → ClassId} {p : Program} {l : Launch} {e : Env} {s : State} {m : MethodId} {args : Array Value} {below : List Frame} {meth : Method} {c : Code} {A : Nat → Prop} (a_this a_p1 a_this_told a_p1_told : Nat) (n_this_told n_p1_told : Nat) (v3 : Int32) (x_p1_held : Int32) (x_p1_told : Nat → Int64)  (C : Cx D y p s m args meth c A RX5 cX5_appendFrom (Cond.code yX5_appendFrom cX5_appendFrom 5 none) none 5) {Q : State → Prop} : ∀ (k : Nat) (z3 : Int32 × Int32 × (Nat → Int64)) (o3 : Int32 × Int32 × (Nat → Int64)) (H : Heap) (locs : List Loc) (ls : Array Slot), lp (pX5_appendFrom_b3 n_this_told n_p1_told v3 x_p1_held x_p1_told) k z3 = some o3 → St D A s H locs [(a_this, .inr (5, [.ref a_this_told, .int (z3.2.1)])), (a_this_told, .inl (y 1, n_this_told, .inr (.inl (z3.2.2)))), (a_p1, .inr (5, [.ref a_p1_told, .int (x_p1_held)])), (a_p1_told, .inl (y 1, n_p1_told, .inr (.inl (x_p1_told))))] → lv_has ls 5 [(0, .ref a_this), (1, .ref a_p1), (3, .int (v3)), (4, .int (z3.1))] → (∀ (H : Heap) (locs : List Loc) (ls : Array Slot), St D A s H locs [(a_this, .inr (5, [.ref a_this_told, .int (o3.2.1)])), (a_this_told, .inl (y 1, n_this_told, .inr (.inl (o3.2.2)))), (a_p1, .inr (5, [.ref a_p1_told, .int (x_p1_held)])), (a_p1_told, .inl (y 1, n_p1_told, .inr (.inl (x_p1_told))))] → lv_has ls 5 [] → W p l e { frames := 1, cells := 0, slots := 0, locals := 22 } s m args below meth c H locs 0 0 Q (F0 m 36 ls [])) → W p l e { frames := 1, cells := 0, slots := 0, locals := 22 } s m args below meth c H locs 0 0 Q (F0 m 3 ls []) := by
  intro k
  induction k with
  | zero => intro z3 o9 H locs ls hp; exact lp_zero hp
  | succ k ih =>
    intro z3 o3 H locs ls hlp hw hl kx0
    obtain ⟨o, hp, hk1, hk2⟩ := lp_succ hlp
    have kb : ∀ (z9 : Int32 × Int32 × (Nat → Int64)) (H : Heap) (locs : List Loc) (ls : Array Slot), o = .inl z9 → St D A s H locs [(a_this, .inr (5, [.ref a_this_told, .int (z9.2.1)])), (a_this_told, .inl (y 1, n_this_told, .inr (.inl (z9.2.2)))), (a_p1, .inr (5, [.ref a_p1_told, .int (x_p1_held)])), (a_p1_told, .inl (y 1, n_p1_told, .inr (.inl (x_p1_told))))] → lv_has ls 5 [(0, .ref a_this), (1, .ref a_p1), (3, .int (v3)), (4, .int (z9.1))] → W p l e { frames := 1, cells := 0, slots := 0, locals := 22 } s m args below meth c H locs 0 0 Q (F0 m 3 ls []) := fun z9 H locs ls ho hw hl => ih z9 o3 H locs ls (hk1 z9 ho) hw hl kx0
    have kx : ∀ (z9 : Int32 × Int32 × (Nat → Int64)) (H : Heap) (locs : List Loc) (ls : Array Slot), o = .inr z9 → St D A s H locs [(a_this, .inr (5, [.ref a_this_told, .int (z9.2.1)])), (a_this_told, .inl (y 1, n_this_told, .inr (.inl (z9.2.2)))), (a_p1, .inr (5, [.ref a_p1_told, .int (x_p1_held)])), (a_p1_told, .inl (y 1, n_p1_told, .inr (.inl (x_p1_told))))] → lv_has ls 5 [] → W p l e { frames := 1, cells := 0, slots := 0, locals := 22 } s m args below meth c H locs 0 0 Q (F0 m 36 ls []) := fun z9 H locs ls ho hw hl => by obtain rfl := hk2 z9 ho; exact kx0 H locs ls hw hl
    clear ih hk1 hk2 hlp kx0
    unfold pX5_appendFrom_b3 at hp
    refine lv_iload C.x C.b dX5_appendFrom_3 (lv_at hl 3 rfl) ?_
    refine lv_iload_n C.x C.b dX5_appendFrom_5 rfl (lv_at hl 2 rfl) ?_
    refine lv_icmp_ge (tgt := 36) C.x C.b dX5_appendFrom_6 (by decide) (fun c9 => ?_) (fun c9 => ?_)
    · replace hp := it_t c9 hp
      exact kx _ H locs ls (Option.some.inj hp).symm hw (lv_sub hl [] rfl)
    · replace hp := it_f c9 hp
      refine lv_aload_n C.x C.b dX5_appendFrom_9 rfl (lv_at hl 1 rfl) ?_
      refine lv_iload C.x C.b dX5_appendFrom_10 (lv_at hl 3 rfl) ?_
      obtain ⟨k12, hk, hp⟩ := bd_some hp
      refine q_aftZ (wc := [(a_p1, .inr (5, [.ref a_p1_told, .int (x_p1_held)]))]) (wr := [(a_this, .inr (5, [.ref a_this_told, .int (z3.2.1)])), (a_this_told, .inl (y 1, n_this_told, .inr (.inl (z3.2.2)))), (a_p1_told, .inl (y 1, n_p1_told, .inr (.inl (x_p1_told))))]) (w1 := [(a_p1, .inr (5, [.ref a_p1_told, .int (x_p1_held)]))]) (w2 := [(a_this, .inr (5, [.ref a_this_told, .int (z3.2.1)])), (a_this_told, .inl (y 1, n_this_told, .inr (.inl (z3.2.2)))), (a_p1, .inr (5, [.ref a_p1_told, .int (x_p1_held)])), (a_p1_told, .inl (y 1, n_p1_told, .inr (.inl (x_p1_told))))]) C hw [2] [0, 1, 3] [0, 1, 3, 2] rfl rfl (by decide) (by decide) (by decide) rfl (q_runV (As := [.int (z3.1)]) (rest := []) (q0 := 2) (ci := 5) C hw (tX5_has l D y a_p1 a_p1_told z3.1 x_p1_held k12 hk H.size) [2] rfl (by decide) rfl rfl kw509 kw510 kw511 kw115 kw512 okX5_has ⟨rfl, rfl⟩ ⟨Nat.le_of_ble_eq_true rfl, Nat.le_of_ble_eq_true rfl⟩ rfl hl.1 rfl (Nat.le_of_ble_eq_true rfl) dX5_appendFrom_12 ⟨Nat.zero_le _, Nat.zero_le _⟩) (fun H locs hz12 hw => ?_)
      refine lv_if_eq (tgt := 30) C.x C.b dX5_appendFrom_15 (by decide) (fun c9 => ?_) (fun c9 => ?_)
      · replace hp := it_t c9 hp
        exact wX5_appendFrom_b3j30 a_this a_p1 a_this_told a_p1_told n_this_told n_p1_told (v3) (z3.1) (z3.2.1) (z3.2.2) (x_p1_held) (x_p1_told) o C H locs ls hp hw (lv_sub hl [0, 1, 2, 3] rfl) kb kx
      · replace hp := it_f c9 hp
        refine lv_aload_n C.x C.b dX5_appendFrom_18 rfl (lv_at hl 0 rfl) ?_
        refine lv_aload_n C.x C.b dX5_appendFrom_19 rfl (lv_at hl 1 rfl) ?_
        refine q_get (v := .ref a_p1_told) (T := TX5) C hw 2 0 rfl rfl rfl inX5 (by decide) kw152 rfl dX5_appendFrom_20 ?_
        refine lv_iload C.x C.b dX5_appendFrom_23 (lv_at hl 3 rfl) ?_
        obtain ⟨hi, hp⟩ := ck_some hp
        refine q_lald C hw 3 rfl hi dX5_appendFrom_25 ?_
        obtain ⟨k26, hk, hp⟩ := bd_some hp
        refine q_aftZ (wc := [(a_this, .inr (5, [.ref a_this_told, .int (z3.2.1)])), (a_this_told, .inl (y 1, n_this_told, .inr (.inl (z3.2.2))))]) (wr := [(a_p1, .inr (5, [.ref a_p1_told, .int (x_p1_held)])), (a_p1_told, .inl (y 1, n_p1_told, .inr (.inl (x_p1_told))))]) (w1 := [(a_this, .inr (5, [.ref a_this_told, .int (k26.2.1)])), (a_this_told, .inl (y 1, n_this_told, .inr (.inl (k26.2.2))))]) (w2 := [(a_this, .inr (5, [.ref a_this_told, .int (k26.2.1)])), (a_this_told, .inl (y 1, n_this_told, .inr (.inl (k26.2.2)))), (a_p1, .inr (5, [.ref a_p1_told, .int (x_p1_held)])), (a_p1_told, .inl (y 1, n_p1_told, .inr (.inl (x_p1_told))))]) C hw [0, 1] [2, 3] [2, 3, 0, 1] rfl rfl (by decide) (by decide) (by decide) rfl (q_runV (As := [.long ((x_p1_told z3.1.toNatClampNeg))]) (rest := []) (q0 := 0) (ci := 5) C hw (tX5_append l D y a_this a_this_told n_this_told (x_p1_told z3.1.toNatClampNeg) z3.2.1 z3.2.2 k26 hk H.size) [0, 1] rfl (by decide) rfl rfl kw513 kw449 kw450 kw115 kw451 okX5_append ⟨rfl, rfl⟩ ⟨Nat.le_of_ble_eq_true rfl, Nat.le_of_ble_eq_true rfl⟩ rfl hl.1 rfl (Nat.le_of_ble_eq_true rfl) dX5_appendFrom_26 ⟨Nat.zero_le _, Nat.zero_le _⟩) (fun H locs hz26 hw => ?_)
        refine lv_pop C.x C.b dX5_appendFrom_29 rfl ?_
        exact wX5_appendFrom_b3j30 a_this a_p1 a_this_told a_p1_told n_this_told n_p1_told (v3) (z3.1) (k26.2.1) (k26.2.2) (x_p1_held) (x_p1_told) o C H locs ls hp hw (lv_sub hl [0, 1, 2, 3] rfl) kb kx
set_option maxRecDepth 100000 in
set_option maxHeartbeats 4000000 in
theorem tX5_appendFrom (l : Launch) (D : va_G) (y : Nat → ClassId) (a_this a_p1 a_this_told a_p1_told : Nat) (n_this_told n_p1_told : Nat) (v2 : Int32) (v3 : Int32) (x_held : Int32) (x_told : Nat → Int64) (x_p1_held : Int32) (x_p1_told : Nat → Int64) (z0 : Int32 × (Nat → Int64)) (hp : pX5_appendFrom n_this_told n_p1_told v2 v3 x_held x_told x_p1_held x_p1_told = some z0) : CV D y l yX5_appendFrom (Cond.code yX5_appendFrom cX5_appendFrom 5 none :: tbG) { frames := 1, cells := 0, slots := 0, locals := 22 } [.ref a_this, .ref a_p1, .int (v2), .int (v3)] [(a_this, .inr (5, [.ref a_this_told, .int (x_held)])), (a_this_told, .inl (y 1, n_this_told, .inr (.inl (x_told)))), (a_p1, .inr (5, [.ref a_p1_told, .int (x_p1_held)])), (a_p1_told, .inl (y 1, n_p1_told, .inr (.inl (x_p1_told))))] [(a_this, .inr (5, [.ref a_this_told, .int (z0.1)])), (a_this_told, .inl (y 1, n_this_told, .inr (.inl (z0.2)))), (a_p1, .inr (5, [.ref a_p1_told, .int (x_p1_held)])), (a_p1_told, .inl (y 1, n_p1_told, .inr (.inl (x_p1_told))))] := by
  refine CV.of (own := RX5) (by decide) rfl (Nat.le_of_ble_eq_true rfl) ?_
  intro p e s m args below meth c A H locs ls C hw hl
  have hl : lv_has ls 5 [(0, .ref a_this), (1, .ref a_p1), (2, .int (v2)), (3, .int (v3))] := hl
  unfold pX5_appendFrom at hp
  refine lv_iload_n C.x C.b dX5_appendFrom_0 rfl (lv_at hl 2 rfl) ?_
  refine lv_istore (lv' := [(4, .int (v2)), (0, .ref a_this), (1, .ref a_p1), (2, .int (v2)), (3, .int (v3))]) C.x C.b dX5_appendFrom_1 hl (by decide) rfl (fun ls hl => ?_)
  obtain ⟨y3, hlp, hp⟩ := bd_some hp
  refine wX5_appendFrom_b3 a_this a_p1 a_this_told a_p1_told n_this_told n_p1_told (v3) (x_p1_held) (x_p1_told) C FU (v2, x_held, x_told) y3 H locs ls hlp hw (lv_sub hl [1, 2, 4, 0] rfl) (fun H locs ls hw hl => ?_)
  obtain rfl := Option.some.inj hp
  exact q_vret C hw dX5_appendFrom_36
theorem okX5_nextFull : okY yX5_nextFull 1 := ⟨by decide +kernel, by decide +kernel, by decide +kernel⟩
set_option maxRecDepth 100000 in
set_option maxHeartbeats 4000000 in
theorem wX5_nextFull_b2 {D : va_G} {y : Nat → ClassId} {p : Program} {l : Launch} {e : Env} {s : State} {m : MethodId} {args : Array Value} {below : List Frame} {meth : Method} {c : Code} {A : Nat → Prop} (a_this a_this_told : Nat) (n_this_told : Nat)  (x_held : Int32) (x_told : Nat → Int64)  (C : Cx D y p s m args meth c A RX5 cX5_nextFull (Cond.code yX5_nextFull cX5_nextFull 3 (some .int)) (some .int) 3) {Q : State → Prop} : ∀ (k : Nat) (z2 : Int32) (o2 : Int32) (H : Heap) (locs : List Loc) (ls : Array Slot), lp (pX5_nextFull_b2 n_this_told x_held x_told) k z2 = some o2 → St D A s H locs [(a_this, .inr (5, [.ref a_this_told, .int (x_held)])), (a_this_told, .inl (y 1, n_this_told, .inr (.inl (x_told))))] → lv_has ls 3 [(0, .ref a_this), (2, .int (z2))] → (∀ (H : Heap) (locs : List Loc) (ls : Array Slot), St D A s H locs [(a_this, .inr (5, [.ref a_this_told, .int (x_held)])), (a_this_told, .inl (y 1, n_this_told, .inr (.inl (x_told))))] → lv_has ls 3 [(2, .int (o2))] → W p l e { frames := 2, cells := 0, slots := 0, locals := 42 } s m args below meth c H locs 0 0 Q (F0 m 24 ls [])) → W p l e { frames := 2, cells := 0, slots := 0, locals := 42 } s m args below meth c H locs 0 0 Q (F0 m 2 ls []) := by
  intro k
  induction k with
  | zero => intro z2 o9 H locs ls hp; exact lp_zero hp
  | succ k ih =>
    intro z2 o2 H locs ls hlp hw hl kx0
    obtain ⟨o, hp, hk1, hk2⟩ := lp_succ hlp
    have kb : ∀ (z9 : Int32) (H : Heap) (locs : List Loc) (ls : Array Slot), o = .inl z9 → St D A s H locs [(a_this, .inr (5, [.ref a_this_told, .int (x_held)])), (a_this_told, .inl (y 1, n_this_told, .inr (.inl (x_told))))] → lv_has ls 3 [(0, .ref a_this), (2, .int (z9))] → W p l e { frames := 2, cells := 0, slots := 0, locals := 42 } s m args below meth c H locs 0 0 Q (F0 m 2 ls []) := fun z9 H locs ls ho hw hl => ih z9 o2 H locs ls (hk1 z9 ho) hw hl kx0
    have kx : ∀ (z9 : Int32) (H : Heap) (locs : List Loc) (ls : Array Slot), o = .inr z9 → St D A s H locs [(a_this, .inr (5, [.ref a_this_told, .int (x_held)])), (a_this_told, .inl (y 1, n_this_told, .inr (.inl (x_told))))] → lv_has ls 3 [(2, .int (z9))] → W p l e { frames := 2, cells := 0, slots := 0, locals := 42 } s m args below meth c H locs 0 0 Q (F0 m 24 ls []) := fun z9 H locs ls ho hw hl => by obtain rfl := hk2 z9 ho; exact kx0 H locs ls hw hl
    clear ih hk1 hk2 hlp kx0
    unfold pX5_nextFull_b2 at hp
    refine lv_iload_n C.x C.b dX5_nextFull_2 rfl (lv_at hl 1 rfl) ?_
    refine lv_aload_n C.x C.b dX5_nextFull_3 rfl (lv_at hl 0 rfl) ?_
    refine q_get (v := .int (x_held)) (T := TX5) C hw 0 1 rfl rfl rfl inX5 (by decide) kw154 rfl dX5_nextFull_4 ?_
    refine lv_icmp_ge (tgt := 24) C.x C.b dX5_nextFull_7 (by decide) (fun c9 => ?_) (fun c9 => ?_)
    · replace hp := it_t c9 hp
      exact kx _ H locs ls (Option.some.inj hp).symm hw (lv_sub hl [1] rfl)
    · replace hp := it_f c9 hp
      refine lv_aload_n C.x C.b dX5_nextFull_10 rfl (lv_at hl 0 rfl) ?_
      refine lv_iload_n C.x C.b dX5_nextFull_11 rfl (lv_at hl 1 rfl) ?_
      obtain ⟨k12, hk, hp⟩ := bd_some hp
      refine q_aftZ (wc := [(a_this, .inr (5, [.ref a_this_told, .int (x_held)])), (a_this_told, .inl (y 1, n_this_told, .inr (.inl (x_told))))]) (wr := []) (w1 := [(a_this, .inr (5, [.ref a_this_told, .int (x_held)])), (a_this_told, .inl (y 1, n_this_told, .inr (.inl (x_told))))]) (w2 := [(a_this, .inr (5, [.ref a_this_told, .int (x_held)])), (a_this_told, .inl (y 1, n_this_told, .inr (.inl (x_told))))]) C hw [0, 1] [] [0, 1] rfl rfl (by decide) (by decide) (by decide) rfl (q_runV (As := [.int (z2)]) (rest := []) (q0 := 0) (ci := 5) C hw (tX5_isFull l D y a_this a_this_told n_this_told z2 x_held x_told k12 hk H.size) [0, 1] rfl (by decide) rfl rfl kw730 kw731 kw732 kw115 kw733 okX5_isFull ⟨rfl, rfl⟩ ⟨Nat.le_of_ble_eq_true rfl, Nat.le_of_ble_eq_true rfl⟩ rfl hl.1 rfl (Nat.le_of_ble_eq_true rfl) dX5_nextFull_12 ⟨Nat.zero_le _, Nat.zero_le _⟩) (fun H locs hz12 hw => ?_)
      refine lv_if_ne (tgt := 24) C.x C.b dX5_nextFull_15 (by decide) (fun c9 => ?_) (fun c9 => ?_)
      · replace hp := it_f c9 hp
        exact kx _ H locs ls (Option.some.inj hp).symm hw (lv_sub hl [1] rfl)
      · replace hp := it_t c9 hp
        refine lv_iinc (v := (z2 + 1)) (lv' := [(2, .int ((z2 + 1))), (0, .ref a_this)]) C.x C.b dX5_nextFull_18 hl (k := 1) rfl rfl (by decide) rfl (fun ls hl => ?_)
        refine lv_goto (tgt := 2) C.x C.b dX5_nextFull_21 (by decide) ?_
        exact kb _ H locs ls (Option.some.inj hp).symm hw (lv_sub hl [1, 0] rfl)
set_option maxRecDepth 100000 in
set_option maxHeartbeats 4000000 in
theorem tX5_nextFull (l : Launch) (D : va_G) (y : Nat → ClassId) (a_this a_this_told : Nat) (n_this_told : Nat) (v1 : Int32) (x_held : Int32) (x_told : Nat → Int64) (z0 : Int32) (hp : pX5_nextFull n_this_told v1 x_held x_told = some z0) : CI D y l yX5_nextFull (Cond.code yX5_nextFull cX5_nextFull 3 (some .int) :: tbG) { frames := 2, cells := 0, slots := 0, locals := 42 } [.ref a_this, .int (v1)] [(a_this, .inr (5, [.ref a_this_told, .int (x_held)])), (a_this_told, .inl (y 1, n_this_told, .inr (.inl (x_told))))] [(a_this, .inr (5, [.ref a_this_told, .int (x_held)])), (a_this_told, .inl (y 1, n_this_told, .inr (.inl (x_told))))] (z0) := by
  refine CI.of (own := RX5) (by decide) rfl (Nat.le_of_ble_eq_true rfl) ?_
  intro p e s m args below meth c A H locs ls C hw hl
  have hl : lv_has ls 3 [(0, .ref a_this), (1, .int (v1))] := hl
  unfold pX5_nextFull at hp
  refine lv_iload_n C.x C.b dX5_nextFull_0 rfl (lv_at hl 1 rfl) ?_
  refine lv_istore_n (lv' := [(2, .int (v1)), (0, .ref a_this), (1, .int (v1))]) C.x C.b dX5_nextFull_1 rfl hl (by decide) rfl (fun ls hl => ?_)
  obtain ⟨y2, hlp, hp⟩ := bd_some hp
  refine wX5_nextFull_b2 a_this a_this_told n_this_told (x_held) (x_told) C FU v1 y2 H locs ls hlp hw (lv_sub hl [1, 0] rfl) (fun H locs ls hw hl => ?_)
  refine lv_iload_n C.x C.b dX5_nextFull_24 rfl (lv_at hl 0 rfl) ?_
  obtain rfl := Option.some.inj hp
  exact q_iret C hw rfl dX5_nextFull_25
theorem okX5_appendBySize : okY yX5_appendBySize 2 := ⟨by decide +kernel, by decide +kernel, by decide +kernel⟩
set_option maxRecDepth 100000 in
set_option maxHeartbeats 4000000 in
theorem wX5_appendBySize_b16j119 {D : va_G} {y : Nat → ClassId} {p : Program} {l : Launch} {e : Env} {s : State} {m : MethodId} {args : Array Value} {below : List Frame} {meth : Method} {c : Code} {A : Nat → Prop} (a_this a_p1 a_p2 a_this_told a_p1_told a_p2_told : Nat) (n_this_told n_p1_told n_p2_told : Nat) (v3 : Int32) (v4 : Int32) (v5 : Int32)   (x_held : Int32) (x_told : Nat → Int64) (x_p1_held : Int32) (x_p1_told : Nat → Int64) (x_p2_held : Int32) (x_p2_told : Nat → Int64) (o : (Int32 × Int32 × Int32 × Int32 × (Nat → Int64)) ⊕ (Int32 × Int32 × Int32 × Int32 × (Nat → Int64))) (C : Cx D y p s m args meth c A RX5 cX5_appendBySize (Cond.code yX5_appendBySize cX5_appendBySize 6 none) none 6) {Q : State → Prop} (H : Heap) (locs : List Loc) (ls : Array Slot) (hp : pX5_appendBySize_b16j119 n_this_told n_p1_told n_p2_told v3 v4 v5 x_held x_told = some o) (hw : St D A s H locs [(a_this, .inr (5, [.ref a_this_told, .int (x_held)])), (a_this_told, .inl (y 1, n_this_told, .inr (.inl (x_told)))), (a_p1, .inr (5, [.ref a_p1_told, .int (x_p1_held)])), (a_p1_told, .inl (y 1, n_p1_told, .inr (.inl (x_p1_told)))), (a_p2, .inr (5, [.ref a_p2_told, .int (x_p2_held)])), (a_p2_told, .inl (y 1, n_p2_told, .inr (.inl (x_p2_told))))]) (hl : lv_has ls 6 [(0, .ref a_this), (1, .ref a_p1), (2, .ref a_p2), (3, .int (v3)), (4, .int (v4)), (5, .int (v5))]) (kb : ∀ (z9 : Int32 × Int32 × Int32 × Int32 × (Nat → Int64)) (H : Heap) (locs : List Loc) (ls : Array Slot), o = .inl z9 → St D A s H locs [(a_this, .inr (5, [.ref a_this_told, .int (z9.2.2.2.1)])), (a_this_told, .inl (y 1, n_this_told, .inr (.inl (z9.2.2.2.2)))), (a_p1, .inr (5, [.ref a_p1_told, .int (x_p1_held)])), (a_p1_told, .inl (y 1, n_p1_told, .inr (.inl (x_p1_told)))), (a_p2, .inr (5, [.ref a_p2_told, .int (x_p2_held)])), (a_p2_told, .inl (y 1, n_p2_told, .inr (.inl (x_p2_told))))] → lv_has ls 6 [(0, .ref a_this), (1, .ref a_p1), (2, .ref a_p2), (3, .int (z9.1)), (4, .int (z9.2.1)), (5, .int (z9.2.2.1))] → W p l e { frames := 3, cells := 0, slots := 0, locals := 64 } s m args below meth c H locs 0 0 Q (F0 m 16 ls [])) (kx : ∀ (z9 : Int32 × Int32 × Int32 × Int32 × (Nat → Int64)) (H : Heap) (locs : List Loc) (ls : Array Slot), o = .inr z9 → St D A s H locs [(a_this, .inr (5, [.ref a_this_told, .int (z9.2.2.2.1)])), (a_this_told, .inl (y 1, n_this_told, .inr (.inl (z9.2.2.2.2)))), (a_p1, .inr (5, [.ref a_p1_told, .int (x_p1_held)])), (a_p1_told, .inl (y 1, n_p1_told, .inr (.inl (x_p1_told)))), (a_p2, .inr (5, [.ref a_p2_told, .int (x_p2_held)])), (a_p2_told, .inl (y 1, n_p2_told, .inr (.inl (x_p2_told))))] → lv_has ls 6 [] → W p l e { frames := 3, cells := 0, slots := 0, locals := 64 } s m args below meth c H locs 0 0 Q (F0 m 125 ls [])) : W p l e { frames := 3, cells := 0, slots := 0, locals := 64 } s m args below meth c H locs 0 0 Q (F0 m 119 ls []) := by
  unfold pX5_appendBySize_b16j119 at hp
  refine lv_iinc (v := (v5 + 1)) (lv' := [(5, .int ((v5 + 1))), (0, .ref a_this), (1, .ref a_p1), (2, .ref a_p2), (3, .int (v3)), (4, .int (v4))]) C.x C.b dX5_appendBySize_119 hl (k := 5) rfl rfl (by decide) rfl (fun ls hl => ?_)
  refine lv_goto (tgt := 16) C.x C.b dX5_appendBySize_122 (by decide) ?_
  exact kb _ H locs ls (Option.some.inj hp).symm hw (lv_sub hl [1, 2, 3, 4, 5, 0] rfl)
set_option maxRecDepth 100000 in
set_option maxHeartbeats 4000000 in
theorem wX5_appendBySize_b16j97 {D : va_G} {y : Nat → ClassId} {p : Program} {l : Launch} {e : Env} {s : State} {m : MethodId} {args : Array Value} {below : List Frame} {meth : Method} {c : Code} {A : Nat → Prop} (a_this a_p1 a_p2 a_this_told a_p1_told a_p2_told : Nat) (n_this_told n_p1_told n_p2_told : Nat) (v3 : Int32) (v4 : Int32) (v5 : Int32)   (x_held : Int32) (x_told : Nat → Int64) (x_p1_held : Int32) (x_p1_told : Nat → Int64) (x_p2_held : Int32) (x_p2_told : Nat → Int64) (o : (Int32 × Int32 × Int32 × Int32 × (Nat → Int64)) ⊕ (Int32 × Int32 × Int32 × Int32 × (Nat → Int64))) (C : Cx D y p s m args meth c A RX5 cX5_appendBySize (Cond.code yX5_appendBySize cX5_appendBySize 6 none) none 6) {Q : State → Prop} (H : Heap) (locs : List Loc) (ls : Array Slot) (hp : pX5_appendBySize_b16j97 n_this_told n_p1_told n_p2_told v3 v4 v5 x_held x_told x_p2_held x_p2_told = some o) (hw : St D A s H locs [(a_this, .inr (5, [.ref a_this_told, .int (x_held)])), (a_this_told, .inl (y 1, n_this_told, .inr (.inl (x_told)))), (a_p1, .inr (5, [.ref a_p1_told, .int (x_p1_held)])), (a_p1_told, .inl (y 1, n_p1_told, .inr (.inl (x_p1_told)))), (a_p2, .inr (5, [.ref a_p2_told, .int (x_p2_held)])), (a_p2_told, .inl (y 1, n_p2_told, .inr (.inl (x_p2_told))))]) (hl : lv_has ls 6 [(0, .ref a_this), (1, .ref a_p1), (2, .ref a_p2), (3, .int (v3)), (4, .int (v4)), (5, .int (v5))]) (kb : ∀ (z9 : Int32 × Int32 × Int32 × Int32 × (Nat → Int64)) (H : Heap) (locs : List Loc) (ls : Array Slot), o = .inl z9 → St D A s H locs [(a_this, .inr (5, [.ref a_this_told, .int (z9.2.2.2.1)])), (a_this_told, .inl (y 1, n_this_told, .inr (.inl (z9.2.2.2.2)))), (a_p1, .inr (5, [.ref a_p1_told, .int (x_p1_held)])), (a_p1_told, .inl (y 1, n_p1_told, .inr (.inl (x_p1_told)))), (a_p2, .inr (5, [.ref a_p2_told, .int (x_p2_held)])), (a_p2_told, .inl (y 1, n_p2_told, .inr (.inl (x_p2_told))))] → lv_has ls 6 [(0, .ref a_this), (1, .ref a_p1), (2, .ref a_p2), (3, .int (z9.1)), (4, .int (z9.2.1)), (5, .int (z9.2.2.1))] → W p l e { frames := 3, cells := 0, slots := 0, locals := 64 } s m args below meth c H locs 0 0 Q (F0 m 16 ls [])) (kx : ∀ (z9 : Int32 × Int32 × Int32 × Int32 × (Nat → Int64)) (H : Heap) (locs : List Loc) (ls : Array Slot), o = .inr z9 → St D A s H locs [(a_this, .inr (5, [.ref a_this_told, .int (z9.2.2.2.1)])), (a_this_told, .inl (y 1, n_this_told, .inr (.inl (z9.2.2.2.2)))), (a_p1, .inr (5, [.ref a_p1_told, .int (x_p1_held)])), (a_p1_told, .inl (y 1, n_p1_told, .inr (.inl (x_p1_told)))), (a_p2, .inr (5, [.ref a_p2_told, .int (x_p2_held)])), (a_p2_told, .inl (y 1, n_p2_told, .inr (.inl (x_p2_told))))] → lv_has ls 6 [] → W p l e { frames := 3, cells := 0, slots := 0, locals := 64 } s m args below meth c H locs 0 0 Q (F0 m 125 ls [])) : W p l e { frames := 3, cells := 0, slots := 0, locals := 64 } s m args below meth c H locs 0 0 Q (F0 m 97 ls []) := by
  unfold pX5_appendBySize_b16j97 at hp
  refine lv_aload_n C.x C.b dX5_appendBySize_97 rfl (lv_at hl 0 rfl) ?_
  refine lv_aload_n C.x C.b dX5_appendBySize_98 rfl (lv_at hl 2 rfl) ?_
  refine q_get (v := .ref a_p2_told) (T := TX5) C hw 4 0 rfl rfl rfl inX5 (by decide) kw152 rfl dX5_appendBySize_99 ?_
  refine lv_iload C.x C.b dX5_appendBySize_102 (lv_at hl 4 rfl) ?_
  obtain ⟨hi, hp⟩ := ck_some hp
  refine q_lald C hw 5 rfl hi dX5_appendBySize_104 ?_
  obtain ⟨k105, hk, hp⟩ := bd_some hp
  refine q_aftZ (wc := [(a_this, .inr (5, [.ref a_this_told, .int (x_held)])), (a_this_told, .inl (y 1, n_this_told, .inr (.inl (x_told))))]) (wr := [(a_p1, .inr (5, [.ref a_p1_told, .int (x_p1_held)])), (a_p1_told, .inl (y 1, n_p1_told, .inr (.inl (x_p1_told)))), (a_p2, .inr (5, [.ref a_p2_told, .int (x_p2_held)])), (a_p2_told, .inl (y 1, n_p2_told, .inr (.inl (x_p2_told))))]) (w1 := [(a_this, .inr (5, [.ref a_this_told, .int (k105.2.1)])), (a_this_told, .inl (y 1, n_this_told, .inr (.inl (k105.2.2))))]) (w2 := [(a_this, .inr (5, [.ref a_this_told, .int (k105.2.1)])), (a_this_told, .inl (y 1, n_this_told, .inr (.inl (k105.2.2)))), (a_p1, .inr (5, [.ref a_p1_told, .int (x_p1_held)])), (a_p1_told, .inl (y 1, n_p1_told, .inr (.inl (x_p1_told)))), (a_p2, .inr (5, [.ref a_p2_told, .int (x_p2_held)])), (a_p2_told, .inl (y 1, n_p2_told, .inr (.inl (x_p2_told))))]) C hw [0, 1] [2, 3, 4, 5] [4, 5, 0, 1, 2, 3] rfl rfl (by decide) (by decide) (by decide) rfl (q_runV (As := [.long ((x_p2_told v4.toNatClampNeg))]) (rest := []) (q0 := 0) (ci := 5) C hw (tX5_append l D y a_this a_this_told n_this_told (x_p2_told v4.toNatClampNeg) x_held x_told k105 hk H.size) [0, 1] rfl (by decide) rfl rfl kw513 kw449 kw450 kw115 kw451 okX5_append ⟨rfl, rfl⟩ ⟨Nat.le_of_ble_eq_true rfl, Nat.le_of_ble_eq_true rfl⟩ rfl hl.1 rfl (Nat.le_of_ble_eq_true rfl) dX5_appendBySize_105 ⟨Nat.zero_le _, Nat.zero_le _⟩) (fun H locs hz105 hw => ?_)
  refine lv_pop C.x C.b dX5_appendBySize_108 rfl ?_
  refine lv_aload_n C.x C.b dX5_appendBySize_109 rfl (lv_at hl 2 rfl) ?_
  refine lv_iload C.x C.b dX5_appendBySize_110 (lv_at hl 4 rfl) ?_
  refine lv_iconst (v := 1) C.x C.b dX5_appendBySize_112 (by decide) ?_
  refine lv_iadd C.x C.b dX5_appendBySize_113 ?_
  obtain ⟨k114, hk, hp⟩ := bd_some hp
  refine q_aftI (wc := [(a_p2, .inr (5, [.ref a_p2_told, .int (x_p2_held)])), (a_p2_told, .inl (y 1, n_p2_told, .inr (.inl (x_p2_told))))]) (wr := [(a_this, .inr (5, [.ref a_this_told, .int (k105.2.1)])), (a_this_told, .inl (y 1, n_this_told, .inr (.inl (k105.2.2)))), (a_p1, .inr (5, [.ref a_p1_told, .int (x_p1_held)])), (a_p1_told, .inl (y 1, n_p1_told, .inr (.inl (x_p1_told))))]) (w1 := [(a_p2, .inr (5, [.ref a_p2_told, .int (x_p2_held)])), (a_p2_told, .inl (y 1, n_p2_told, .inr (.inl (x_p2_told))))]) (w2 := [(a_this, .inr (5, [.ref a_this_told, .int (k105.2.1)])), (a_this_told, .inl (y 1, n_this_told, .inr (.inl (k105.2.2)))), (a_p1, .inr (5, [.ref a_p1_told, .int (x_p1_held)])), (a_p1_told, .inl (y 1, n_p1_told, .inr (.inl (x_p1_told)))), (a_p2, .inr (5, [.ref a_p2_told, .int (x_p2_held)])), (a_p2_told, .inl (y 1, n_p2_told, .inr (.inl (x_p2_told))))]) C hw [4, 5] [0, 1, 2, 3] [0, 1, 2, 3, 4, 5] rfl rfl (by decide) (by decide) (by decide) rfl (q_runV (As := [.int ((v4 + 1))]) (rest := []) (q0 := 4) (ci := 5) C hw (tX5_nextFull l D y a_p2 a_p2_told n_p2_told (v4 + 1) x_p2_held x_p2_told k114 hk H.size) [4, 5] rfl (by decide) rfl rfl kw726 kw728 kw16 kw115 kw729 okX5_nextFull ⟨rfl, rfl⟩ ⟨Nat.le_of_ble_eq_true rfl, Nat.le_of_ble_eq_true rfl⟩ rfl hl.1 rfl (Nat.le_of_ble_eq_true rfl) dX5_appendBySize_114 ⟨Nat.zero_le _, Nat.zero_le _⟩) (fun H locs hw => ?_)
  refine lv_istore (lv' := [(4, .int (k114)), (0, .ref a_this), (1, .ref a_p1), (2, .ref a_p2), (3, .int (v3)), (5, .int (v5))]) C.x C.b dX5_appendBySize_117 hl (by decide) rfl (fun ls hl => ?_)
  exact wX5_appendBySize_b16j119 a_this a_p1 a_p2 a_this_told a_p1_told a_p2_told n_this_told n_p1_told n_p2_told (v3) (k114) (v5) (k105.2.1) (k105.2.2) (x_p1_held) (x_p1_told) (x_p2_held) (x_p2_told) o C H locs ls hp hw (lv_sub hl [1, 2, 3, 4, 0, 5] rfl) kb kx
set_option maxRecDepth 100000 in
set_option maxHeartbeats 4000000 in
theorem wX5_appendBySize_b16j75 {D : va_G} {y : Nat → ClassId} {p : Program} {l : Launch} {e : Env} {s : State} {m : MethodId} {args : Array Value} {below : List Frame} {meth : Method} {c : Code} {A : Nat → Prop} (a_this a_p1 a_p2 a_this_told a_p1_told a_p2_told : Nat) (n_this_told n_p1_told n_p2_told : Nat) (v3 : Int32) (v4 : Int32) (v5 : Int32)   (x_held : Int32) (x_told : Nat → Int64) (x_p1_held : Int32) (x_p1_told : Nat → Int64) (x_p2_held : Int32) (x_p2_told : Nat → Int64) (o : (Int32 × Int32 × Int32 × Int32 × (Nat → Int64)) ⊕ (Int32 × Int32 × Int32 × Int32 × (Nat → Int64))) (C : Cx D y p s m args meth c A RX5 cX5_appendBySize (Cond.code yX5_appendBySize cX5_appendBySize 6 none) none 6) {Q : State → Prop} (H : Heap) (locs : List Loc) (ls : Array Slot) (hp : pX5_appendBySize_b16j75 n_this_told n_p1_told n_p2_told v3 v4 v5 x_held x_told x_p1_held x_p1_told = some o) (hw : St D A s H locs [(a_this, .inr (5, [.ref a_this_told, .int (x_held)])), (a_this_told, .inl (y 1, n_this_told, .inr (.inl (x_told)))), (a_p1, .inr (5, [.ref a_p1_told, .int (x_p1_held)])), (a_p1_told, .inl (y 1, n_p1_told, .inr (.inl (x_p1_told)))), (a_p2, .inr (5, [.ref a_p2_told, .int (x_p2_held)])), (a_p2_told, .inl (y 1, n_p2_told, .inr (.inl (x_p2_told))))]) (hl : lv_has ls 6 [(0, .ref a_this), (1, .ref a_p1), (2, .ref a_p2), (3, .int (v3)), (4, .int (v4)), (5, .int (v5))]) (kb : ∀ (z9 : Int32 × Int32 × Int32 × Int32 × (Nat → Int64)) (H : Heap) (locs : List Loc) (ls : Array Slot), o = .inl z9 → St D A s H locs [(a_this, .inr (5, [.ref a_this_told, .int (z9.2.2.2.1)])), (a_this_told, .inl (y 1, n_this_told, .inr (.inl (z9.2.2.2.2)))), (a_p1, .inr (5, [.ref a_p1_told, .int (x_p1_held)])), (a_p1_told, .inl (y 1, n_p1_told, .inr (.inl (x_p1_told)))), (a_p2, .inr (5, [.ref a_p2_told, .int (x_p2_held)])), (a_p2_told, .inl (y 1, n_p2_told, .inr (.inl (x_p2_told))))] → lv_has ls 6 [(0, .ref a_this), (1, .ref a_p1), (2, .ref a_p2), (3, .int (z9.1)), (4, .int (z9.2.1)), (5, .int (z9.2.2.1))] → W p l e { frames := 3, cells := 0, slots := 0, locals := 64 } s m args below meth c H locs 0 0 Q (F0 m 16 ls [])) (kx : ∀ (z9 : Int32 × Int32 × Int32 × Int32 × (Nat → Int64)) (H : Heap) (locs : List Loc) (ls : Array Slot), o = .inr z9 → St D A s H locs [(a_this, .inr (5, [.ref a_this_told, .int (z9.2.2.2.1)])), (a_this_told, .inl (y 1, n_this_told, .inr (.inl (z9.2.2.2.2)))), (a_p1, .inr (5, [.ref a_p1_told, .int (x_p1_held)])), (a_p1_told, .inl (y 1, n_p1_told, .inr (.inl (x_p1_told)))), (a_p2, .inr (5, [.ref a_p2_told, .int (x_p2_held)])), (a_p2_told, .inl (y 1, n_p2_told, .inr (.inl (x_p2_told))))] → lv_has ls 6 [] → W p l e { frames := 3, cells := 0, slots := 0, locals := 64 } s m args below meth c H locs 0 0 Q (F0 m 125 ls [])) : W p l e { frames := 3, cells := 0, slots := 0, locals := 64 } s m args below meth c H locs 0 0 Q (F0 m 75 ls []) := by
  unfold pX5_appendBySize_b16j75 at hp
  refine lv_aload_n C.x C.b dX5_appendBySize_75 rfl (lv_at hl 0 rfl) ?_
  refine lv_aload_n C.x C.b dX5_appendBySize_76 rfl (lv_at hl 1 rfl) ?_
  refine q_get (v := .ref a_p1_told) (T := TX5) C hw 2 0 rfl rfl rfl inX5 (by decide) kw152 rfl dX5_appendBySize_77 ?_
  refine lv_iload_n C.x C.b dX5_appendBySize_80 rfl (lv_at hl 3 rfl) ?_
  obtain ⟨hi, hp⟩ := ck_some hp
  refine q_lald C hw 3 rfl hi dX5_appendBySize_81 ?_
  obtain ⟨k82, hk, hp⟩ := bd_some hp
  refine q_aftZ (wc := [(a_this, .inr (5, [.ref a_this_told, .int (x_held)])), (a_this_told, .inl (y 1, n_this_told, .inr (.inl (x_told))))]) (wr := [(a_p1, .inr (5, [.ref a_p1_told, .int (x_p1_held)])), (a_p1_told, .inl (y 1, n_p1_told, .inr (.inl (x_p1_told)))), (a_p2, .inr (5, [.ref a_p2_told, .int (x_p2_held)])), (a_p2_told, .inl (y 1, n_p2_told, .inr (.inl (x_p2_told))))]) (w1 := [(a_this, .inr (5, [.ref a_this_told, .int (k82.2.1)])), (a_this_told, .inl (y 1, n_this_told, .inr (.inl (k82.2.2))))]) (w2 := [(a_this, .inr (5, [.ref a_this_told, .int (k82.2.1)])), (a_this_told, .inl (y 1, n_this_told, .inr (.inl (k82.2.2)))), (a_p1, .inr (5, [.ref a_p1_told, .int (x_p1_held)])), (a_p1_told, .inl (y 1, n_p1_told, .inr (.inl (x_p1_told)))), (a_p2, .inr (5, [.ref a_p2_told, .int (x_p2_held)])), (a_p2_told, .inl (y 1, n_p2_told, .inr (.inl (x_p2_told))))]) C hw [0, 1] [2, 3, 4, 5] [4, 5, 0, 1, 2, 3] rfl rfl (by decide) (by decide) (by decide) rfl (q_runV (As := [.long ((x_p1_told v3.toNatClampNeg))]) (rest := []) (q0 := 0) (ci := 5) C hw (tX5_append l D y a_this a_this_told n_this_told (x_p1_told v3.toNatClampNeg) x_held x_told k82 hk H.size) [0, 1] rfl (by decide) rfl rfl kw513 kw449 kw450 kw115 kw451 okX5_append ⟨rfl, rfl⟩ ⟨Nat.le_of_ble_eq_true rfl, Nat.le_of_ble_eq_true rfl⟩ rfl hl.1 rfl (Nat.le_of_ble_eq_true rfl) dX5_appendBySize_82 ⟨Nat.zero_le _, Nat.zero_le _⟩) (fun H locs hz82 hw => ?_)
  refine lv_pop C.x C.b dX5_appendBySize_85 rfl ?_
  refine lv_aload_n C.x C.b dX5_appendBySize_86 rfl (lv_at hl 1 rfl) ?_
  refine lv_iload_n C.x C.b dX5_appendBySize_87 rfl (lv_at hl 3 rfl) ?_
  refine lv_iconst (v := 1) C.x C.b dX5_appendBySize_88 (by decide) ?_
  refine lv_iadd C.x C.b dX5_appendBySize_89 ?_
  obtain ⟨k90, hk, hp⟩ := bd_some hp
  refine q_aftI (wc := [(a_p1, .inr (5, [.ref a_p1_told, .int (x_p1_held)])), (a_p1_told, .inl (y 1, n_p1_told, .inr (.inl (x_p1_told))))]) (wr := [(a_this, .inr (5, [.ref a_this_told, .int (k82.2.1)])), (a_this_told, .inl (y 1, n_this_told, .inr (.inl (k82.2.2)))), (a_p2, .inr (5, [.ref a_p2_told, .int (x_p2_held)])), (a_p2_told, .inl (y 1, n_p2_told, .inr (.inl (x_p2_told))))]) (w1 := [(a_p1, .inr (5, [.ref a_p1_told, .int (x_p1_held)])), (a_p1_told, .inl (y 1, n_p1_told, .inr (.inl (x_p1_told))))]) (w2 := [(a_this, .inr (5, [.ref a_this_told, .int (k82.2.1)])), (a_this_told, .inl (y 1, n_this_told, .inr (.inl (k82.2.2)))), (a_p1, .inr (5, [.ref a_p1_told, .int (x_p1_held)])), (a_p1_told, .inl (y 1, n_p1_told, .inr (.inl (x_p1_told)))), (a_p2, .inr (5, [.ref a_p2_told, .int (x_p2_held)])), (a_p2_told, .inl (y 1, n_p2_told, .inr (.inl (x_p2_told))))]) C hw [2, 3] [0, 1, 4, 5] [0, 1, 4, 5, 2, 3] rfl rfl (by decide) (by decide) (by decide) rfl (q_runV (As := [.int ((v3 + 1))]) (rest := []) (q0 := 2) (ci := 5) C hw (tX5_nextFull l D y a_p1 a_p1_told n_p1_told (v3 + 1) x_p1_held x_p1_told k90 hk H.size) [2, 3] rfl (by decide) rfl rfl kw726 kw728 kw16 kw115 kw729 okX5_nextFull ⟨rfl, rfl⟩ ⟨Nat.le_of_ble_eq_true rfl, Nat.le_of_ble_eq_true rfl⟩ rfl hl.1 rfl (Nat.le_of_ble_eq_true rfl) dX5_appendBySize_90 ⟨Nat.zero_le _, Nat.zero_le _⟩) (fun H locs hw => ?_)
  refine lv_istore_n (lv' := [(3, .int (k90)), (0, .ref a_this), (1, .ref a_p1), (2, .ref a_p2), (4, .int (v4)), (5, .int (v5))]) C.x C.b dX5_appendBySize_93 rfl hl (by decide) rfl (fun ls hl => ?_)
  refine lv_goto (tgt := 119) C.x C.b dX5_appendBySize_94 (by decide) ?_
  exact wX5_appendBySize_b16j119 a_this a_p1 a_p2 a_this_told a_p1_told a_p2_told n_this_told n_p1_told n_p2_told (k90) (v4) (v5) (k82.2.1) (k82.2.2) (x_p1_held) (x_p1_told) (x_p2_held) (x_p2_told) o C H locs ls hp hw (lv_sub hl [1, 2, 3, 0, 4, 5] rfl) kb kx
set_option maxRecDepth 100000 in
set_option maxHeartbeats 4000000 in
theorem wX5_appendBySize_b16j41 {D : va_G} {y : Nat → ClassId} {p : Program} {l : Launch} {e : Env} {s : State} {m : MethodId} {args : Array Value} {below : List Frame} {meth : Method} {c : Code} {A : Nat → Prop} (a_this a_p1 a_p2 a_this_told a_p1_told a_p2_told : Nat) (n_this_told n_p1_told n_p2_told : Nat) (v3 : Int32) (v4 : Int32) (v5 : Int32)   (x_held : Int32) (x_told : Nat → Int64) (x_p1_held : Int32) (x_p1_told : Nat → Int64) (x_p2_held : Int32) (x_p2_told : Nat → Int64) (o : (Int32 × Int32 × Int32 × Int32 × (Nat → Int64)) ⊕ (Int32 × Int32 × Int32 × Int32 × (Nat → Int64))) (C : Cx D y p s m args meth c A RX5 cX5_appendBySize (Cond.code yX5_appendBySize cX5_appendBySize 6 none) none 6) {Q : State → Prop} (H : Heap) (locs : List Loc) (ls : Array Slot) (hp : pX5_appendBySize_b16j41 n_this_told n_p1_told n_p2_told v3 v4 v5 x_held x_told x_p1_held x_p1_told x_p2_held x_p2_told = some o) (hw : St D A s H locs [(a_this, .inr (5, [.ref a_this_told, .int (x_held)])), (a_this_told, .inl (y 1, n_this_told, .inr (.inl (x_told)))), (a_p1, .inr (5, [.ref a_p1_told, .int (x_p1_held)])), (a_p1_told, .inl (y 1, n_p1_told, .inr (.inl (x_p1_told)))), (a_p2, .inr (5, [.ref a_p2_told, .int (x_p2_held)])), (a_p2_told, .inl (y 1, n_p2_told, .inr (.inl (x_p2_told))))]) (hl : lv_has ls 6 [(0, .ref a_this), (1, .ref a_p1), (2, .ref a_p2), (3, .int (v3)), (4, .int (v4)), (5, .int (v5))]) (kb : ∀ (z9 : Int32 × Int32 × Int32 × Int32 × (Nat → Int64)) (H : Heap) (locs : List Loc) (ls : Array Slot), o = .inl z9 → St D A s H locs [(a_this, .inr (5, [.ref a_this_told, .int (z9.2.2.2.1)])), (a_this_told, .inl (y 1, n_this_told, .inr (.inl (z9.2.2.2.2)))), (a_p1, .inr (5, [.ref a_p1_told, .int (x_p1_held)])), (a_p1_told, .inl (y 1, n_p1_told, .inr (.inl (x_p1_told)))), (a_p2, .inr (5, [.ref a_p2_told, .int (x_p2_held)])), (a_p2_told, .inl (y 1, n_p2_told, .inr (.inl (x_p2_told))))] → lv_has ls 6 [(0, .ref a_this), (1, .ref a_p1), (2, .ref a_p2), (3, .int (z9.1)), (4, .int (z9.2.1)), (5, .int (z9.2.2.1))] → W p l e { frames := 3, cells := 0, slots := 0, locals := 64 } s m args below meth c H locs 0 0 Q (F0 m 16 ls [])) (kx : ∀ (z9 : Int32 × Int32 × Int32 × Int32 × (Nat → Int64)) (H : Heap) (locs : List Loc) (ls : Array Slot), o = .inr z9 → St D A s H locs [(a_this, .inr (5, [.ref a_this_told, .int (z9.2.2.2.1)])), (a_this_told, .inl (y 1, n_this_told, .inr (.inl (z9.2.2.2.2)))), (a_p1, .inr (5, [.ref a_p1_told, .int (x_p1_held)])), (a_p1_told, .inl (y 1, n_p1_told, .inr (.inl (x_p1_told)))), (a_p2, .inr (5, [.ref a_p2_told, .int (x_p2_held)])), (a_p2_told, .inl (y 1, n_p2_told, .inr (.inl (x_p2_told))))] → lv_has ls 6 [] → W p l e { frames := 3, cells := 0, slots := 0, locals := 64 } s m args below meth c H locs 0 0 Q (F0 m 125 ls [])) : W p l e { frames := 3, cells := 0, slots := 0, locals := 64 } s m args below meth c H locs 0 0 Q (F0 m 41 ls []) := by
  unfold pX5_appendBySize_b16j41 at hp
  refine lv_aload_n C.x C.b dX5_appendBySize_41 rfl (lv_at hl 1 rfl) ?_
  refine lv_iload_n C.x C.b dX5_appendBySize_42 rfl (lv_at hl 3 rfl) ?_
  obtain ⟨k43, hk, hp⟩ := bd_some hp
  refine q_aftZ (wc := [(a_p1, .inr (5, [.ref a_p1_told, .int (x_p1_held)]))]) (wr := [(a_this, .inr (5, [.ref a_this_told, .int (x_held)])), (a_this_told, .inl (y 1, n_this_told, .inr (.inl (x_told)))), (a_p1_told, .inl (y 1, n_p1_told, .inr (.inl (x_p1_told)))), (a_p2, .inr (5, [.ref a_p2_told, .int (x_p2_held)])), (a_p2_told, .inl (y 1, n_p2_told, .inr (.inl (x_p2_told))))]) (w1 := [(a_p1, .inr (5, [.ref a_p1_told, .int (x_p1_held)]))]) (w2 := [(a_this, .inr (5, [.ref a_this_told, .int (x_held)])), (a_this_told, .inl (y 1, n_this_told, .inr (.inl (x_told)))), (a_p1, .inr (5, [.ref a_p1_told, .int (x_p1_held)])), (a_p1_told, .inl (y 1, n_p1_told, .inr (.inl (x_p1_told)))), (a_p2, .inr (5, [.ref a_p2_told, .int (x_p2_held)])), (a_p2_told, .inl (y 1, n_p2_told, .inr (.inl (x_p2_told))))]) C hw [2] [0, 1, 3, 4, 5] [0, 1, 5, 2, 3, 4] rfl rfl (by decide) (by decide) (by decide) rfl (q_runV (As := [.int (v3)]) (rest := []) (q0 := 2) (ci := 5) C hw (tX5_has l D y a_p1 a_p1_told v3 x_p1_held k43 hk H.size) [2] rfl (by decide) rfl rfl kw509 kw510 kw511 kw115 kw512 okX5_has ⟨rfl, rfl⟩ ⟨Nat.le_of_ble_eq_true rfl, Nat.le_of_ble_eq_true rfl⟩ rfl hl.1 rfl (Nat.le_of_ble_eq_true rfl) dX5_appendBySize_43 ⟨Nat.zero_le _, Nat.zero_le _⟩) (fun H locs hz43 hw => ?_)
  refine lv_if_eq (tgt := 97) C.x C.b dX5_appendBySize_46 (by decide) (fun c9 => ?_) (fun c9 => ?_)
  · replace hp := it_t c9 hp
    exact wX5_appendBySize_b16j97 a_this a_p1 a_p2 a_this_told a_p1_told a_p2_told n_this_told n_p1_told n_p2_told (v3) (v4) (v5) (x_held) (x_told) (x_p1_held) (x_p1_told) (x_p2_held) (x_p2_told) o C H locs ls hp hw (lv_sub hl [0, 1, 2, 3, 4, 5] rfl) kb kx
  · replace hp := it_f c9 hp
    refine lv_aload_n C.x C.b dX5_appendBySize_49 rfl (lv_at hl 2 rfl) ?_
    refine lv_iload C.x C.b dX5_appendBySize_50 (lv_at hl 4 rfl) ?_
    obtain ⟨k52, hk, hp⟩ := bd_some hp
    refine q_aftZ (wc := [(a_p2, .inr (5, [.ref a_p2_told, .int (x_p2_held)]))]) (wr := [(a_this, .inr (5, [.ref a_this_told, .int (x_held)])), (a_this_told, .inl (y 1, n_this_told, .inr (.inl (x_told)))), (a_p1, .inr (5, [.ref a_p1_told, .int (x_p1_held)])), (a_p1_told, .inl (y 1, n_p1_told, .inr (.inl (x_p1_told)))), (a_p2_told, .inl (y 1, n_p2_told, .inr (.inl (x_p2_told))))]) (w1 := [(a_p2, .inr (5, [.ref a_p2_told, .int (x_p2_held)]))]) (w2 := [(a_this, .inr (5, [.ref a_this_told, .int (x_held)])), (a_this_told, .inl (y 1, n_this_told, .inr (.inl (x_told)))), (a_p1, .inr (5, [.ref a_p1_told, .int (x_p1_held)])), (a_p1_told, .inl (y 1, n_p1_told, .inr (.inl (x_p1_told)))), (a_p2, .inr (5, [.ref a_p2_told, .int (x_p2_held)])), (a_p2_told, .inl (y 1, n_p2_told, .inr (.inl (x_p2_told))))]) C hw [4] [0, 1, 2, 3, 5] [0, 1, 2, 3, 5, 4] rfl rfl (by decide) (by decide) (by decide) rfl (q_runV (As := [.int (v4)]) (rest := []) (q0 := 4) (ci := 5) C hw (tX5_has l D y a_p2 a_p2_told v4 x_p2_held k52 hk H.size) [4] rfl (by decide) rfl rfl kw509 kw510 kw511 kw115 kw512 okX5_has ⟨rfl, rfl⟩ ⟨Nat.le_of_ble_eq_true rfl, Nat.le_of_ble_eq_true rfl⟩ rfl hl.1 rfl (Nat.le_of_ble_eq_true rfl) dX5_appendBySize_52 ⟨Nat.zero_le _, Nat.zero_le _⟩) (fun H locs hz52 hw => ?_)
    refine lv_if_eq (tgt := 75) C.x C.b dX5_appendBySize_55 (by decide) (fun c9 => ?_) (fun c9 => ?_)
    · replace hp := it_t c9 hp
      exact wX5_appendBySize_b16j75 a_this a_p1 a_p2 a_this_told a_p1_told a_p2_told n_this_told n_p1_told n_p2_told (v3) (v4) (v5) (x_held) (x_told) (x_p1_held) (x_p1_told) (x_p2_held) (x_p2_told) o C H locs ls hp hw (lv_sub hl [0, 1, 2, 3, 4, 5] rfl) kb kx
    · replace hp := it_f c9 hp
      refine lv_aload_n C.x C.b dX5_appendBySize_58 rfl (lv_at hl 1 rfl) ?_
      refine q_get (v := .ref a_p1_told) (T := TX5) C hw 2 0 rfl rfl rfl inX5 (by decide) kw152 rfl dX5_appendBySize_59 ?_
      refine lv_iload_n C.x C.b dX5_appendBySize_62 rfl (lv_at hl 3 rfl) ?_
      obtain ⟨hi, hp⟩ := ck_some hp
      refine q_lald C hw 3 rfl hi dX5_appendBySize_63 ?_
      refine lv_aload_n C.x C.b dX5_appendBySize_64 rfl (lv_at hl 2 rfl) ?_
      refine q_get (v := .ref a_p2_told) (T := TX5) C hw 4 0 rfl rfl rfl inX5 (by decide) kw152 rfl dX5_appendBySize_65 ?_
      refine lv_iload C.x C.b dX5_appendBySize_68 (lv_at hl 4 rfl) ?_
      obtain ⟨hi, hp⟩ := ck_some hp
      refine q_lald C hw 5 rfl hi dX5_appendBySize_70 ?_
      refine W.lcmp C.x C.b dX5_appendBySize_71 ?_
      refine lv_if_gt (tgt := 97) C.x C.b dX5_appendBySize_72 (by decide) (fun c9 => ?_) (fun c9 => ?_)
      · replace hp := it_t c9 hp
        exact wX5_appendBySize_b16j97 a_this a_p1 a_p2 a_this_told a_p1_told a_p2_told n_this_told n_p1_told n_p2_told (v3) (v4) (v5) (x_held) (x_told) (x_p1_held) (x_p1_told) (x_p2_held) (x_p2_told) o C H locs ls hp hw (lv_sub hl [0, 1, 2, 3, 4, 5] rfl) kb kx
      · replace hp := it_f c9 hp
        exact wX5_appendBySize_b16j75 a_this a_p1 a_p2 a_this_told a_p1_told a_p2_told n_this_told n_p1_told n_p2_told (v3) (v4) (v5) (x_held) (x_told) (x_p1_held) (x_p1_told) (x_p2_held) (x_p2_told) o C H locs ls hp hw (lv_sub hl [0, 1, 2, 3, 4, 5] rfl) kb kx
set_option maxRecDepth 100000 in
set_option maxHeartbeats 4000000 in
theorem wX5_appendBySize_b16 {D : va_G} {y : Nat → ClassId} {p : Program} {l : Launch} {e : Env} {s : State} {m : MethodId} {args : Array Value} {below : List Frame} {meth : Method} {c : Code} {A : Nat → Prop} (a_this a_p1 a_p2 a_this_told a_p1_told a_p2_told : Nat) (n_this_told n_p1_told n_p2_told : Nat)  (x_p1_held : Int32) (x_p1_told : Nat → Int64) (x_p2_held : Int32) (x_p2_told : Nat → Int64)  (C : Cx D y p s m args meth c A RX5 cX5_appendBySize (Cond.code yX5_appendBySize cX5_appendBySize 6 none) none 6) {Q : State → Prop} : ∀ (k : Nat) (z16 : Int32 × Int32 × Int32 × Int32 × (Nat → Int64)) (o16 : Int32 × Int32 × Int32 × Int32 × (Nat → Int64)) (H : Heap) (locs : List Loc) (ls : Array Slot), lp (pX5_appendBySize_b16 n_this_told n_p1_told n_p2_told x_p1_held x_p1_told x_p2_held x_p2_told) k z16 = some o16 → St D A s H locs [(a_this, .inr (5, [.ref a_this_told, .int (z16.2.2.2.1)])), (a_this_told, .inl (y 1, n_this_told, .inr (.inl (z16.2.2.2.2)))), (a_p1, .inr (5, [.ref a_p1_told, .int (x_p1_held)])), (a_p1_told, .inl (y 1, n_p1_told, .inr (.inl (x_p1_told)))), (a_p2, .inr (5, [.ref a_p2_told, .int (x_p2_held)])), (a_p2_told, .inl (y 1, n_p2_told, .inr (.inl (x_p2_told))))] → lv_has ls 6 [(0, .ref a_this), (1, .ref a_p1), (2, .ref a_p2), (3, .int (z16.1)), (4, .int (z16.2.1)), (5, .int (z16.2.2.1))] → (∀ (H : Heap) (locs : List Loc) (ls : Array Slot), St D A s H locs [(a_this, .inr (5, [.ref a_this_told, .int (o16.2.2.2.1)])), (a_this_told, .inl (y 1, n_this_told, .inr (.inl (o16.2.2.2.2)))), (a_p1, .inr (5, [.ref a_p1_told, .int (x_p1_held)])), (a_p1_told, .inl (y 1, n_p1_told, .inr (.inl (x_p1_told)))), (a_p2, .inr (5, [.ref a_p2_told, .int (x_p2_held)])), (a_p2_told, .inl (y 1, n_p2_told, .inr (.inl (x_p2_told))))] → lv_has ls 6 [] → W p l e { frames := 3, cells := 0, slots := 0, locals := 64 } s m args below meth c H locs 0 0 Q (F0 m 125 ls [])) → W p l e { frames := 3, cells := 0, slots := 0, locals := 64 } s m args below meth c H locs 0 0 Q (F0 m 16 ls []) := by
  intro k
  induction k with
  | zero => intro z16 o9 H locs ls hp; exact lp_zero hp
  | succ k ih =>
    intro z16 o16 H locs ls hlp hw hl kx0
    obtain ⟨o, hp, hk1, hk2⟩ := lp_succ hlp
    have kb : ∀ (z9 : Int32 × Int32 × Int32 × Int32 × (Nat → Int64)) (H : Heap) (locs : List Loc) (ls : Array Slot), o = .inl z9 → St D A s H locs [(a_this, .inr (5, [.ref a_this_told, .int (z9.2.2.2.1)])), (a_this_told, .inl (y 1, n_this_told, .inr (.inl (z9.2.2.2.2)))), (a_p1, .inr (5, [.ref a_p1_told, .int (x_p1_held)])), (a_p1_told, .inl (y 1, n_p1_told, .inr (.inl (x_p1_told)))), (a_p2, .inr (5, [.ref a_p2_told, .int (x_p2_held)])), (a_p2_told, .inl (y 1, n_p2_told, .inr (.inl (x_p2_told))))] → lv_has ls 6 [(0, .ref a_this), (1, .ref a_p1), (2, .ref a_p2), (3, .int (z9.1)), (4, .int (z9.2.1)), (5, .int (z9.2.2.1))] → W p l e { frames := 3, cells := 0, slots := 0, locals := 64 } s m args below meth c H locs 0 0 Q (F0 m 16 ls []) := fun z9 H locs ls ho hw hl => ih z9 o16 H locs ls (hk1 z9 ho) hw hl kx0
    have kx : ∀ (z9 : Int32 × Int32 × Int32 × Int32 × (Nat → Int64)) (H : Heap) (locs : List Loc) (ls : Array Slot), o = .inr z9 → St D A s H locs [(a_this, .inr (5, [.ref a_this_told, .int (z9.2.2.2.1)])), (a_this_told, .inl (y 1, n_this_told, .inr (.inl (z9.2.2.2.2)))), (a_p1, .inr (5, [.ref a_p1_told, .int (x_p1_held)])), (a_p1_told, .inl (y 1, n_p1_told, .inr (.inl (x_p1_told)))), (a_p2, .inr (5, [.ref a_p2_told, .int (x_p2_held)])), (a_p2_told, .inl (y 1, n_p2_told, .inr (.inl (x_p2_told))))] → lv_has ls 6 [] → W p l e { frames := 3, cells := 0, slots := 0, locals := 64 } s m args below meth c H locs 0 0 Q (F0 m 125 ls []) := fun z9 H locs ls ho hw hl => by obtain rfl := hk2 z9 ho; exact kx0 H locs ls hw hl
    clear ih hk1 hk2 hlp kx0
    unfold pX5_appendBySize_b16 at hp
    refine lv_iload C.x C.b dX5_appendBySize_16 (lv_at hl 5 rfl) ?_
    refine lv_sipush (v := 256) C.x C.b dX5_appendBySize_18 (by decide) ?_
    refine lv_icmp_ge (tgt := 125) C.x C.b dX5_appendBySize_21 (by decide) (fun c9 => ?_) (fun c9 => ?_)
    · replace hp := it_t c9 hp
      exact kx _ H locs ls (Option.some.inj hp).symm hw (lv_sub hl [] rfl)
    · replace hp := it_f c9 hp
      refine lv_aload_n C.x C.b dX5_appendBySize_24 rfl (lv_at hl 1 rfl) ?_
      refine lv_iload_n C.x C.b dX5_appendBySize_25 rfl (lv_at hl 3 rfl) ?_
      obtain ⟨k26, hk, hp⟩ := bd_some hp
      refine q_aftZ (wc := [(a_p1, .inr (5, [.ref a_p1_told, .int (x_p1_held)]))]) (wr := [(a_this, .inr (5, [.ref a_this_told, .int (z16.2.2.2.1)])), (a_this_told, .inl (y 1, n_this_told, .inr (.inl (z16.2.2.2.2)))), (a_p1_told, .inl (y 1, n_p1_told, .inr (.inl (x_p1_told)))), (a_p2, .inr (5, [.ref a_p2_told, .int (x_p2_held)])), (a_p2_told, .inl (y 1, n_p2_told, .inr (.inl (x_p2_told))))]) (w1 := [(a_p1, .inr (5, [.ref a_p1_told, .int (x_p1_held)]))]) (w2 := [(a_this, .inr (5, [.ref a_this_told, .int (z16.2.2.2.1)])), (a_this_told, .inl (y 1, n_this_told, .inr (.inl (z16.2.2.2.2)))), (a_p1, .inr (5, [.ref a_p1_told, .int (x_p1_held)])), (a_p1_told, .inl (y 1, n_p1_told, .inr (.inl (x_p1_told)))), (a_p2, .inr (5, [.ref a_p2_told, .int (x_p2_held)])), (a_p2_told, .inl (y 1, n_p2_told, .inr (.inl (x_p2_told))))]) C hw [2] [0, 1, 3, 4, 5] [0, 1, 5, 2, 3, 4] rfl rfl (by decide) (by decide) (by decide) rfl (q_runV (As := [.int (z16.1)]) (rest := []) (q0 := 2) (ci := 5) C hw (tX5_has l D y a_p1 a_p1_told z16.1 x_p1_held k26 hk H.size) [2] rfl (by decide) rfl rfl kw509 kw510 kw511 kw115 kw512 okX5_has ⟨rfl, rfl⟩ ⟨Nat.le_of_ble_eq_true rfl, Nat.le_of_ble_eq_true rfl⟩ rfl hl.1 rfl (Nat.le_of_ble_eq_true rfl) dX5_appendBySize_26 ⟨Nat.zero_le _, Nat.zero_le _⟩) (fun H locs hz26 hw => ?_)
      refine lv_if_ne (tgt := 41) C.x C.b dX5_appendBySize_29 (by decide) (fun c9 => ?_) (fun c9 => ?_)
      · replace hp := it_f c9 hp
        exact wX5_appendBySize_b16j41 a_this a_p1 a_p2 a_this_told a_p1_told a_p2_told n_this_told n_p1_told n_p2_told (z16.1) (z16.2.1) (z16.2.2.1) (z16.2.2.2.1) (z16.2.2.2.2) (x_p1_held) (x_p1_told) (x_p2_held) (x_p2_told) o C H locs ls hp hw (lv_sub hl [0, 1, 2, 3, 4, 5] rfl) kb kx
      · replace hp := it_t c9 hp
        refine lv_aload_n C.x C.b dX5_appendBySize_32 rfl (lv_at hl 2 rfl) ?_
        refine lv_iload C.x C.b dX5_appendBySize_33 (lv_at hl 4 rfl) ?_
        obtain ⟨k35, hk, hp⟩ := bd_some hp
        refine q_aftZ (wc := [(a_p2, .inr (5, [.ref a_p2_told, .int (x_p2_held)]))]) (wr := [(a_this, .inr (5, [.ref a_this_told, .int (z16.2.2.2.1)])), (a_this_told, .inl (y 1, n_this_told, .inr (.inl (z16.2.2.2.2)))), (a_p1, .inr (5, [.ref a_p1_told, .int (x_p1_held)])), (a_p1_told, .inl (y 1, n_p1_told, .inr (.inl (x_p1_told)))), (a_p2_told, .inl (y 1, n_p2_told, .inr (.inl (x_p2_told))))]) (w1 := [(a_p2, .inr (5, [.ref a_p2_told, .int (x_p2_held)]))]) (w2 := [(a_this, .inr (5, [.ref a_this_told, .int (z16.2.2.2.1)])), (a_this_told, .inl (y 1, n_this_told, .inr (.inl (z16.2.2.2.2)))), (a_p1, .inr (5, [.ref a_p1_told, .int (x_p1_held)])), (a_p1_told, .inl (y 1, n_p1_told, .inr (.inl (x_p1_told)))), (a_p2, .inr (5, [.ref a_p2_told, .int (x_p2_held)])), (a_p2_told, .inl (y 1, n_p2_told, .inr (.inl (x_p2_told))))]) C hw [4] [0, 1, 2, 3, 5] [0, 1, 2, 3, 5, 4] rfl rfl (by decide) (by decide) (by decide) rfl (q_runV (As := [.int (z16.2.1)]) (rest := []) (q0 := 4) (ci := 5) C hw (tX5_has l D y a_p2 a_p2_told z16.2.1 x_p2_held k35 hk H.size) [4] rfl (by decide) rfl rfl kw509 kw510 kw511 kw115 kw512 okX5_has ⟨rfl, rfl⟩ ⟨Nat.le_of_ble_eq_true rfl, Nat.le_of_ble_eq_true rfl⟩ rfl hl.1 rfl (Nat.le_of_ble_eq_true rfl) dX5_appendBySize_35 ⟨Nat.zero_le _, Nat.zero_le _⟩) (fun H locs hz35 hw => ?_)
        refine lv_if_eq (tgt := 125) C.x C.b dX5_appendBySize_38 (by decide) (fun c9 => ?_) (fun c9 => ?_)
        · replace hp := it_t c9 hp
          exact kx _ H locs ls (Option.some.inj hp).symm hw (lv_sub hl [] rfl)
        · replace hp := it_f c9 hp
          exact wX5_appendBySize_b16j41 a_this a_p1 a_p2 a_this_told a_p1_told a_p2_told n_this_told n_p1_told n_p2_told (z16.1) (z16.2.1) (z16.2.2.1) (z16.2.2.2.1) (z16.2.2.2.2) (x_p1_held) (x_p1_told) (x_p2_held) (x_p2_told) o C H locs ls hp hw (lv_sub hl [0, 1, 2, 3, 4, 5] rfl) kb kx
set_option maxRecDepth 100000 in
set_option maxHeartbeats 4000000 in
theorem tX5_appendBySize (l : Launch) (D : va_G) (y : Nat → ClassId) (a_this a_p1 a_p2 a_this_told a_p1_told a_p2_told : Nat) (n_this_told n_p1_told n_p2_told : Nat) (x_held : Int32) (x_told : Nat → Int64) (x_p1_held : Int32) (x_p1_told : Nat → Int64) (x_p2_held : Int32) (x_p2_told : Nat → Int64) (z0 : Int32 × (Nat → Int64)) (hp : pX5_appendBySize n_this_told n_p1_told n_p2_told x_held x_told x_p1_held x_p1_told x_p2_held x_p2_told = some z0) : CV D y l yX5_appendBySize (Cond.code yX5_appendBySize cX5_appendBySize 6 none :: tbG) { frames := 3, cells := 0, slots := 0, locals := 64 } [.ref a_this, .ref a_p1, .ref a_p2] [(a_this, .inr (5, [.ref a_this_told, .int (x_held)])), (a_this_told, .inl (y 1, n_this_told, .inr (.inl (x_told)))), (a_p1, .inr (5, [.ref a_p1_told, .int (x_p1_held)])), (a_p1_told, .inl (y 1, n_p1_told, .inr (.inl (x_p1_told)))), (a_p2, .inr (5, [.ref a_p2_told, .int (x_p2_held)])), (a_p2_told, .inl (y 1, n_p2_told, .inr (.inl (x_p2_told))))] [(a_this, .inr (5, [.ref a_this_told, .int (z0.1)])), (a_this_told, .inl (y 1, n_this_told, .inr (.inl (z0.2)))), (a_p1, .inr (5, [.ref a_p1_told, .int (x_p1_held)])), (a_p1_told, .inl (y 1, n_p1_told, .inr (.inl (x_p1_told)))), (a_p2, .inr (5, [.ref a_p2_told, .int (x_p2_held)])), (a_p2_told, .inl (y 1, n_p2_told, .inr (.inl (x_p2_told))))] := by
  refine CV.of (own := RX5) (by decide) rfl (Nat.le_of_ble_eq_true rfl) ?_
  intro p e s m args below meth c A H locs ls C hw hl
  have hl : lv_has ls 6 [(0, .ref a_this), (1, .ref a_p1), (2, .ref a_p2)] := hl
  unfold pX5_appendBySize at hp
  refine lv_aload_n C.x C.b dX5_appendBySize_0 rfl (lv_at hl 1 rfl) ?_
  refine lv_iconst (v := 0) C.x C.b dX5_appendBySize_1 (by decide) ?_
  obtain ⟨k2, hk, hp⟩ := bd_some hp
  refine q_aftI (wc := [(a_p1, .inr (5, [.ref a_p1_told, .int (x_p1_held)])), (a_p1_told, .inl (y 1, n_p1_told, .inr (.inl (x_p1_told))))]) (wr := [(a_this, .inr (5, [.ref a_this_told, .int (x_held)])), (a_this_told, .inl (y 1, n_this_told, .inr (.inl (x_told)))), (a_p2, .inr (5, [.ref a_p2_told, .int (x_p2_held)])), (a_p2_told, .inl (y 1, n_p2_told, .inr (.inl (x_p2_told))))]) (w1 := [(a_p1, .inr (5, [.ref a_p1_told, .int (x_p1_held)])), (a_p1_told, .inl (y 1, n_p1_told, .inr (.inl (x_p1_told))))]) (w2 := [(a_this, .inr (5, [.ref a_this_told, .int (x_held)])), (a_this_told, .inl (y 1, n_this_told, .inr (.inl (x_told)))), (a_p1, .inr (5, [.ref a_p1_told, .int (x_p1_held)])), (a_p1_told, .inl (y 1, n_p1_told, .inr (.inl (x_p1_told)))), (a_p2, .inr (5, [.ref a_p2_told, .int (x_p2_held)])), (a_p2_told, .inl (y 1, n_p2_told, .inr (.inl (x_p2_told))))]) C hw [2, 3] [0, 1, 4, 5] [0, 1, 4, 5, 2, 3] rfl rfl (by decide) (by decide) (by decide) rfl (q_runV (As := [.int (0)]) (rest := []) (q0 := 2) (ci := 5) C hw (tX5_nextFull l D y a_p1 a_p1_told n_p1_told 0 x_p1_held x_p1_told k2 hk H.size) [2, 3] rfl (by decide) rfl rfl kw726 kw728 kw16 kw115 kw729 okX5_nextFull ⟨rfl, rfl⟩ ⟨Nat.le_of_ble_eq_true rfl, Nat.le_of_ble_eq_true rfl⟩ rfl hl.1 rfl (Nat.le_of_ble_eq_true rfl) dX5_appendBySize_2 ⟨Nat.zero_le _, Nat.zero_le _⟩) (fun H locs hw => ?_)
  refine lv_istore_n (lv' := [(3, .int (k2)), (0, .ref a_this), (1, .ref a_p1), (2, .ref a_p2)]) C.x C.b dX5_appendBySize_5 rfl hl (by decide) rfl (fun ls hl => ?_)
  refine lv_aload_n C.x C.b dX5_appendBySize_6 rfl (lv_at hl 3 rfl) ?_
  refine lv_iconst (v := 0) C.x C.b dX5_appendBySize_7 (by decide) ?_
  obtain ⟨k8, hk, hp⟩ := bd_some hp
  refine q_aftI (wc := [(a_p2, .inr (5, [.ref a_p2_told, .int (x_p2_held)])), (a_p2_told, .inl (y 1, n_p2_told, .inr (.inl (x_p2_told))))]) (wr := [(a_this, .inr (5, [.ref a_this_told, .int (x_held)])), (a_this_told, .inl (y 1, n_this_told, .inr (.inl (x_told)))), (a_p1, .inr (5, [.ref a_p1_told, .int (x_p1_held)])), (a_p1_told, .inl (y 1, n_p1_told, .inr (.inl (x_p1_told))))]) (w1 := [(a_p2, .inr (5, [.ref a_p2_told, .int (x_p2_held)])), (a_p2_told, .inl (y 1, n_p2_told, .inr (.inl (x_p2_told))))]) (w2 := [(a_this, .inr (5, [.ref a_this_told, .int (x_held)])), (a_this_told, .inl (y 1, n_this_told, .inr (.inl (x_told)))), (a_p1, .inr (5, [.ref a_p1_told, .int (x_p1_held)])), (a_p1_told, .inl (y 1, n_p1_told, .inr (.inl (x_p1_told)))), (a_p2, .inr (5, [.ref a_p2_told, .int (x_p2_held)])), (a_p2_told, .inl (y 1, n_p2_told, .inr (.inl (x_p2_told))))]) C hw [4, 5] [0, 1, 2, 3] [0, 1, 2, 3, 4, 5] rfl rfl (by decide) (by decide) (by decide) rfl (q_runV (As := [.int (0)]) (rest := []) (q0 := 4) (ci := 5) C hw (tX5_nextFull l D y a_p2 a_p2_told n_p2_told 0 x_p2_held x_p2_told k8 hk H.size) [4, 5] rfl (by decide) rfl rfl kw726 kw728 kw16 kw115 kw729 okX5_nextFull ⟨rfl, rfl⟩ ⟨Nat.le_of_ble_eq_true rfl, Nat.le_of_ble_eq_true rfl⟩ rfl hl.1 rfl (Nat.le_of_ble_eq_true rfl) dX5_appendBySize_8 ⟨Nat.zero_le _, Nat.zero_le _⟩) (fun H locs hw => ?_)
  refine lv_istore (lv' := [(4, .int (k8)), (3, .int (k2)), (0, .ref a_this), (1, .ref a_p1), (2, .ref a_p2)]) C.x C.b dX5_appendBySize_11 hl (by decide) rfl (fun ls hl => ?_)
  refine lv_iconst (v := 0) C.x C.b dX5_appendBySize_13 (by decide) ?_
  refine lv_istore (lv' := [(5, .int (0)), (4, .int (k8)), (3, .int (k2)), (0, .ref a_this), (1, .ref a_p1), (2, .ref a_p2)]) C.x C.b dX5_appendBySize_14 hl (by decide) rfl (fun ls hl => ?_)
  obtain ⟨y16, hlp, hp⟩ := bd_some hp
  refine wX5_appendBySize_b16 a_this a_p1 a_p2 a_this_told a_p1_told a_p2_told n_this_told n_p1_told n_p2_told (x_p1_held) (x_p1_told) (x_p2_held) (x_p2_told) C FU (k2, k8, 0, x_held, x_told) y16 H locs ls hlp hw (lv_sub hl [3, 4, 5, 2, 1, 0] rfl) (fun H locs ls hw hl => ?_)
  obtain rfl := Option.some.inj hp
  exact q_vret C hw dX5_appendBySize_125
theorem okX5_change : okY yX5_change 2 := ⟨by decide +kernel, by decide +kernel, by decide +kernel⟩
set_option maxRecDepth 100000 in
set_option maxHeartbeats 4000000 in
theorem tX5_change (l : Launch) (D : va_G) (y : Nat → ClassId) (a_this a_this_told : Nat) (n_this_told : Nat) (v1 : Int32) (v2 : Int64) (x_held : Int32) (x_told : Nat → Int64) (z0 : Nat → Int64) (hp : pX5_change n_this_told v1 v2 x_held x_told = some z0) : CV D y l yX5_change (Cond.code yX5_change cX5_change 4 none :: tbG) { frames := 1, cells := 0, slots := 0, locals := 21 } [.ref a_this, .int (v1), .long (v2)] [(a_this, .inr (5, [.ref a_this_told, .int (x_held)])), (a_this_told, .inl (y 1, n_this_told, .inr (.inl (x_told))))] [(a_this, .inr (5, [.ref a_this_told, .int (x_held)])), (a_this_told, .inl (y 1, n_this_told, .inr (.inl (z0))))] := by
  refine CV.of (own := RX5) (by decide) rfl (Nat.le_of_ble_eq_true rfl) ?_
  intro p e s m args below meth c A H locs ls C hw hl
  have hl : lv_has ls 4 [(0, .ref a_this), (1, .int (v1)), (2, .long (v2))] := hl
  unfold pX5_change at hp
  refine lv_aload_n C.x C.b dX5_change_0 rfl (lv_at hl 0 rfl) ?_
  refine lv_iload_n C.x C.b dX5_change_1 rfl (lv_at hl 1 rfl) ?_
  obtain ⟨k2, hk, hp⟩ := bd_some hp
  refine q_aftZ (wc := [(a_this, .inr (5, [.ref a_this_told, .int (x_held)]))]) (wr := [(a_this_told, .inl (y 1, n_this_told, .inr (.inl (x_told))))]) (w1 := [(a_this, .inr (5, [.ref a_this_told, .int (x_held)]))]) (w2 := [(a_this, .inr (5, [.ref a_this_told, .int (x_held)])), (a_this_told, .inl (y 1, n_this_told, .inr (.inl (x_told))))]) C hw [0] [1] [1, 0] rfl rfl (by decide) (by decide) (by decide) rfl (q_runV (As := [.int (v1)]) (rest := []) (q0 := 0) (ci := 5) C hw (tX5_has l D y a_this a_this_told v1 x_held k2 hk H.size) [0] rfl (by decide) rfl rfl kw509 kw510 kw511 kw115 kw512 okX5_has ⟨rfl, rfl⟩ ⟨Nat.le_of_ble_eq_true rfl, Nat.le_of_ble_eq_true rfl⟩ rfl hl.1 rfl (Nat.le_of_ble_eq_true rfl) dX5_change_2 ⟨Nat.zero_le _, Nat.zero_le _⟩) (fun H locs hz2 hw => ?_)
  refine lv_if_eq (tgt := 15) C.x C.b dX5_change_5 (by decide) (fun c9 => ?_) (fun c9 => ?_)
  · replace hp := it_t c9 hp
    obtain rfl := Option.some.inj hp
    exact q_vret C hw dX5_change_15
  · replace hp := it_f c9 hp
    refine lv_aload_n C.x C.b dX5_change_8 rfl (lv_at hl 0 rfl) ?_
    refine q_get (v := .ref a_this_told) (T := TX5) C hw 0 0 rfl rfl rfl inX5 (by decide) kw152 rfl dX5_change_9 ?_
    refine lv_iload_n C.x C.b dX5_change_12 rfl (lv_at hl 1 rfl) ?_
    refine lv_lload_n C.x C.b dX5_change_13 rfl (lv_at hl 2 rfl) ?_
    obtain ⟨hi, hp⟩ := ck_some hp
    refine q_last (w2 := [(a_this, .inr (5, [.ref a_this_told, .int (x_held)])), (a_this_told, .inl (y 1, n_this_told, .inr (.inl ((vp_updL x_told v1.toNatClampNeg v2)))))]) C hw 1 rfl rfl hi dX5_change_14 (fun H locs hw => ?_)
    obtain rfl := Option.some.inj hp
    exact q_vret C hw dX5_change_15
theorem okX5_enter : okY yX5_enter 2 := ⟨by decide +kernel, by decide +kernel, by decide +kernel⟩
set_option maxRecDepth 100000 in
set_option maxHeartbeats 4000000 in
theorem tX5_enter (l : Launch) (D : va_G) (y : Nat → ClassId) (a_this a_this_told : Nat) (n_this_told : Nat) (v1 : Int32) (v2 : Int32) (x_held : Int32) (x_told : Nat → Int64) (z0 : Int32 × (Nat → Int64)) (hp : pX5_enter n_this_told v1 v2 x_held x_told = some z0) : CV D y l yX5_enter (Cond.code yX5_enter cX5_enter 3 none :: tbG) { frames := 1, cells := 0, slots := 0, locals := 31 } [.ref a_this, .int (v1), .int (v2)] [(a_this, .inr (5, [.ref a_this_told, .int (x_held)])), (a_this_told, .inl (y 1, n_this_told, .inr (.inl (x_told))))] [(a_this, .inr (5, [.ref a_this_told, .int (z0.1)])), (a_this_told, .inl (y 1, n_this_told, .inr (.inl (z0.2))))] := by
  refine CV.of (own := RX5) (by decide) rfl (Nat.le_of_ble_eq_true rfl) ?_
  intro p e s m args below meth c A H locs ls C hw hl
  have hl : lv_has ls 3 [(0, .ref a_this), (1, .int (v1)), (2, .int (v2))] := hl
  unfold pX5_enter at hp
  refine lv_iload_n C.x C.b dX5_enter_0 rfl (lv_at hl 1 rfl) ?_
  refine lv_if_lt (tgt := 24) C.x C.b dX5_enter_1 (by decide) (fun c9 => ?_) (fun c9 => ?_)
  · replace hp := it_t c9 hp
    obtain rfl := Option.some.inj hp
    exact q_vret C hw dX5_enter_24
  · replace hp := it_f c9 hp
    refine lv_iload_n C.x C.b dX5_enter_4 rfl (lv_at hl 1 rfl) ?_
    refine lv_aload_n C.x C.b dX5_enter_5 rfl (lv_at hl 0 rfl) ?_
    refine q_get (v := .int (x_held)) (T := TX5) C hw 0 1 rfl rfl rfl inX5 (by decide) kw154 rfl dX5_enter_6 ?_
    refine lv_icmp_gt (tgt := 24) C.x C.b dX5_enter_9 (by decide) (fun c9 => ?_) (fun c9 => ?_)
    · replace hp := it_t c9 hp
      obtain rfl := Option.some.inj hp
      exact q_vret C hw dX5_enter_24
    · replace hp := it_f c9 hp
      refine lv_aload_n C.x C.b dX5_enter_12 rfl (lv_at hl 0 rfl) ?_
      refine q_get (v := .int (x_held)) (T := TX5) C hw 0 1 rfl rfl rfl inX5 (by decide) kw154 rfl dX5_enter_13 ?_
      refine lv_aload_n C.x C.b dX5_enter_16 rfl (lv_at hl 0 rfl) ?_
      refine q_get (v := .ref a_this_told) (T := TX5) C hw 0 0 rfl rfl rfl inX5 (by decide) kw152 rfl dX5_enter_17 ?_
      refine va_alen C.x C.b C.k.1 hw.1 1 1 rfl rfl rfl dX5_enter_20 ?_
      refine lv_icmp_lt (tgt := 25) C.x C.b dX5_enter_21 (by decide) (fun c9 => ?_) (fun c9 => ?_)
      · replace hp := it_t c9 hp
        refine lv_aload_n C.x C.b dX5_enter_25 rfl (lv_at hl 0 rfl) ?_
        refine q_get (v := .ref a_this_told) (T := TX5) C hw 0 0 rfl rfl rfl inX5 (by decide) kw152 rfl dX5_enter_26 ?_
        refine lv_iload_n C.x C.b dX5_enter_29 rfl (lv_at hl 1 rfl) ?_
        refine lv_aload_n C.x C.b dX5_enter_30 rfl (lv_at hl 0 rfl) ?_
        refine q_get (v := .ref a_this_told) (T := TX5) C hw 0 0 rfl rfl rfl inX5 (by decide) kw152 rfl dX5_enter_31 ?_
        refine lv_iload_n C.x C.b dX5_enter_34 rfl (lv_at hl 1 rfl) ?_
        refine lv_iconst (v := 1) C.x C.b dX5_enter_35 (by decide) ?_
        refine lv_iadd C.x C.b dX5_enter_36 ?_
        refine lv_aload_n C.x C.b dX5_enter_37 rfl (lv_at hl 0 rfl) ?_
        refine q_get (v := .int (x_held)) (T := TX5) C hw 0 1 rfl rfl rfl inX5 (by decide) kw154 rfl dX5_enter_38 ?_
        refine lv_iload_n C.x C.b dX5_enter_41 rfl (lv_at hl 1 rfl) ?_
        refine lv_isub C.x C.b dX5_enter_42 ?_
        obtain ⟨hi, hp⟩ := cpk_some hp
        refine q_cpl (w2 := [(a_this, .inr (5, [.ref a_this_told, .int (x_held)])), (a_this_told, .inl (y 1, n_this_told, .inr (.inl ((va_cpy x_told x_told v1.toNatClampNeg (v1 + 1).toNatClampNeg (x_held - v1).toNatClampNeg)))))]) C hw 1 1 rfl rfl rfl hi hl.1 kw500 kw502 kw501 kw125 (Nat.le_of_ble_eq_true rfl) (Nat.le_of_ble_eq_true rfl) dX5_enter_43 (fun H locs hw => ?_)
        refine lv_aload_n C.x C.b dX5_enter_46 rfl (lv_at hl 0 rfl) ?_
        refine q_get (v := .ref a_this_told) (T := TX5) C hw 0 0 rfl rfl rfl inX5 (by decide) kw152 rfl dX5_enter_47 ?_
        refine lv_iload_n C.x C.b dX5_enter_50 rfl (lv_at hl 1 rfl) ?_
        refine lv_iload_n C.x C.b dX5_enter_51 rfl (lv_at hl 2 rfl) ?_
        refine lv_i2l C.x C.b dX5_enter_52 rfl ?_
        obtain ⟨hi, hp⟩ := ck_some hp
        refine q_last (w2 := [(a_this, .inr (5, [.ref a_this_told, .int (x_held)])), (a_this_told, .inl (y 1, n_this_told, .inr (.inl ((vp_updL (va_cpy x_told x_told v1.toNatClampNeg (v1 + 1).toNatClampNeg (x_held - v1).toNatClampNeg) v1.toNatClampNeg v2.toInt64)))))]) C hw 1 rfl rfl hi dX5_enter_53 (fun H locs hw => ?_)
        refine lv_aload_n C.x C.b dX5_enter_54 rfl (lv_at hl 0 rfl) ?_
        refine lv_dup C.x C.b dX5_enter_55 rfl ?_
        refine q_get (v := .int (x_held)) (T := TX5) C hw 0 1 rfl rfl rfl inX5 (by decide) kw154 rfl dX5_enter_56 ?_
        refine lv_iconst (v := 1) C.x C.b dX5_enter_59 (by decide) ?_
        refine lv_iadd C.x C.b dX5_enter_60 ?_
        refine q_pf (v := .int ((x_held + 1))) (w2 := [(a_this, .inr (5, [.ref a_this_told, .int ((x_held + 1))])), (a_this_told, .inl (y 1, n_this_told, .inr (.inl ((vp_updL (va_cpy x_told x_told v1.toNatClampNeg (v1 + 1).toNatClampNeg (x_held - v1).toNatClampNeg) v1.toNatClampNeg v2.toInt64)))))]) (T := TX5) (ty0 := tyX5) (ty := .int) C hw 0 1 rfl rfl (Nat.le_of_ble_eq_true rfl) rfl inX5 tyX5_ok nmX5 (by decide) kw154 rfl rfl rfl rfl rfl dX5_enter_61 (fun H locs hw => ?_)
        obtain rfl := Option.some.inj hp
        exact q_vret C hw dX5_enter_64
      · replace hp := it_f c9 hp
        obtain rfl := Option.some.inj hp
        exact q_vret C hw dX5_enter_24
theorem okX5_takeOut : okY yX5_takeOut 2 := ⟨by decide +kernel, by decide +kernel, by decide +kernel⟩
set_option maxRecDepth 100000 in
set_option maxHeartbeats 4000000 in
theorem tX5_takeOut (l : Launch) (D : va_G) (y : Nat → ClassId) (a_this a_this_told : Nat) (n_this_told : Nat) (v1 : Int32) (v2 : Int32) (x_held : Int32) (x_told : Nat → Int64) (z0 : Int32 × (Nat → Int64)) (hp : pX5_takeOut n_this_told v1 v2 x_held x_told = some z0) : CV D y l yX5_takeOut (Cond.code yX5_takeOut cX5_takeOut 4 none :: tbG) { frames := 1, cells := 0, slots := 0, locals := 31 } [.ref a_this, .int (v1), .int (v2)] [(a_this, .inr (5, [.ref a_this_told, .int (x_held)])), (a_this_told, .inl (y 1, n_this_told, .inr (.inl (x_told))))] [(a_this, .inr (5, [.ref a_this_told, .int (z0.1)])), (a_this_told, .inl (y 1, n_this_told, .inr (.inl (z0.2))))] := by
  refine CV.of (own := RX5) (by decide) rfl (Nat.le_of_ble_eq_true rfl) ?_
  intro p e s m args below meth c A H locs ls C hw hl
  have hl : lv_has ls 4 [(0, .ref a_this), (1, .int (v1)), (2, .int (v2))] := hl
  unfold pX5_takeOut at hp
  refine lv_iload_n C.x C.b dX5_takeOut_0 rfl (lv_at hl 1 rfl) ?_
  refine lv_iload_n C.x C.b dX5_takeOut_1 rfl (lv_at hl 2 rfl) ?_
  refine lv_iadd C.x C.b dX5_takeOut_2 ?_
  refine lv_istore_n (lv' := [(3, .int ((v1 + v2))), (0, .ref a_this), (1, .int (v1)), (2, .int (v2))]) C.x C.b dX5_takeOut_3 rfl hl (by decide) rfl (fun ls hl => ?_)
  refine lv_iload_n C.x C.b dX5_takeOut_4 rfl (lv_at hl 2 rfl) ?_
  refine lv_if_lt (tgt := 20) C.x C.b dX5_takeOut_5 (by decide) (fun c9 => ?_) (fun c9 => ?_)
  · replace hp := it_t c9 hp
    obtain rfl := Option.some.inj hp
    exact q_vret C hw dX5_takeOut_20
  · replace hp := it_f c9 hp
    refine lv_iload_n C.x C.b dX5_takeOut_8 rfl (lv_at hl 3 rfl) ?_
    refine lv_if_lt (tgt := 20) C.x C.b dX5_takeOut_9 (by decide) (fun c9 => ?_) (fun c9 => ?_)
    · replace hp := it_t c9 hp
      obtain rfl := Option.some.inj hp
      exact q_vret C hw dX5_takeOut_20
    · replace hp := it_f c9 hp
      refine lv_iload_n C.x C.b dX5_takeOut_12 rfl (lv_at hl 0 rfl) ?_
      refine lv_aload_n C.x C.b dX5_takeOut_13 rfl (lv_at hl 1 rfl) ?_
      refine q_get (v := .int (x_held)) (T := TX5) C hw 0 1 rfl rfl rfl inX5 (by decide) kw154 rfl dX5_takeOut_14 ?_
      refine lv_icmp_le (tgt := 21) C.x C.b dX5_takeOut_17 (by decide) (fun c9 => ?_) (fun c9 => ?_)
      · replace hp := it_t c9 hp
        refine lv_aload_n C.x C.b dX5_takeOut_21 rfl (lv_at hl 1 rfl) ?_
        refine q_get (v := .ref a_this_told) (T := TX5) C hw 0 0 rfl rfl rfl inX5 (by decide) kw152 rfl dX5_takeOut_22 ?_
        refine lv_iload_n C.x C.b dX5_takeOut_25 rfl (lv_at hl 0 rfl) ?_
        refine lv_aload_n C.x C.b dX5_takeOut_26 rfl (lv_at hl 1 rfl) ?_
        refine q_get (v := .ref a_this_told) (T := TX5) C hw 0 0 rfl rfl rfl inX5 (by decide) kw152 rfl dX5_takeOut_27 ?_
        refine lv_iload_n C.x C.b dX5_takeOut_30 rfl (lv_at hl 2 rfl) ?_
        refine lv_aload_n C.x C.b dX5_takeOut_31 rfl (lv_at hl 1 rfl) ?_
        refine q_get (v := .int (x_held)) (T := TX5) C hw 0 1 rfl rfl rfl inX5 (by decide) kw154 rfl dX5_takeOut_32 ?_
        refine lv_iload_n C.x C.b dX5_takeOut_35 rfl (lv_at hl 0 rfl) ?_
        refine lv_isub C.x C.b dX5_takeOut_36 ?_
        obtain ⟨hi, hp⟩ := cpk_some hp
        refine q_cpl (w2 := [(a_this, .inr (5, [.ref a_this_told, .int (x_held)])), (a_this_told, .inl (y 1, n_this_told, .inr (.inl ((va_cpy x_told x_told (v1 + v2).toNatClampNeg v1.toNatClampNeg (x_held - (v1 + v2)).toNatClampNeg)))))]) C hw 1 1 rfl rfl rfl hi hl.1 kw500 kw502 kw501 kw125 (Nat.le_of_ble_eq_true rfl) (Nat.le_of_ble_eq_true rfl) dX5_takeOut_37 (fun H locs hw => ?_)
        refine lv_aload_n C.x C.b dX5_takeOut_40 rfl (lv_at hl 1 rfl) ?_
        refine lv_dup C.x C.b dX5_takeOut_41 rfl ?_
        refine q_get (v := .int (x_held)) (T := TX5) C hw 0 1 rfl rfl rfl inX5 (by decide) kw154 rfl dX5_takeOut_42 ?_
        refine lv_iload_n C.x C.b dX5_takeOut_45 rfl (lv_at hl 3 rfl) ?_
        refine lv_isub C.x C.b dX5_takeOut_46 ?_
        refine q_pf (v := .int ((x_held - v2))) (w2 := [(a_this, .inr (5, [.ref a_this_told, .int ((x_held - v2))])), (a_this_told, .inl (y 1, n_this_told, .inr (.inl ((va_cpy x_told x_told (v1 + v2).toNatClampNeg v1.toNatClampNeg (x_held - (v1 + v2)).toNatClampNeg)))))]) (T := TX5) (ty0 := tyX5) (ty := .int) C hw 0 1 rfl rfl (Nat.le_of_ble_eq_true rfl) rfl inX5 tyX5_ok nmX5 (by decide) kw154 rfl rfl rfl rfl rfl dX5_takeOut_47 (fun H locs hw => ?_)
        obtain rfl := Option.some.inj hp
        exact q_vret C hw dX5_takeOut_50
      · replace hp := it_f c9 hp
        obtain rfl := Option.some.inj hp
        exact q_vret C hw dX5_takeOut_20
theorem okX5_raise : okY yX5_raise 1 := ⟨by decide +kernel, by decide +kernel, by decide +kernel⟩
set_option maxRecDepth 100000 in
set_option maxHeartbeats 4000000 in
theorem wX5_raise_b2j40 {D : va_G} {y : Nat → ClassId} {p : Program} {l : Launch} {e : Env} {s : State} {m : MethodId} {args : Array Value} {below : List Frame} {meth : Method} {c : Code} {A : Nat → Prop} (a_this a_this_told : Nat) (n_this_told : Nat) (v1 : Int32) (v2 : Int32)   (x_held : Int32) (x_told : Nat → Int64) (o : (Int32 × (Nat → Int64)) ⊕ (Int32 × (Nat → Int64))) (C : Cx D y p s m args meth c A RX5 cX5_raise (Cond.code yX5_raise cX5_raise 3 none) none 3) {Q : State → Prop} (H : Heap) (locs : List Loc) (ls : Array Slot) (hp : pX5_raise_b2j40 n_this_told v2 x_told = some o) (hw : St D A s H locs [(a_this, .inr (5, [.ref a_this_told, .int (x_held)])), (a_this_told, .inl (y 1, n_this_told, .inr (.inl (x_told))))]) (hl : lv_has ls 3 [(0, .ref a_this), (1, .int (v1)), (2, .int (v2))]) (kb : ∀ (z9 : Int32 × (Nat → Int64)) (H : Heap) (locs : List Loc) (ls : Array Slot), o = .inl z9 → St D A s H locs [(a_this, .inr (5, [.ref a_this_told, .int (x_held)])), (a_this_told, .inl (y 1, n_this_told, .inr (.inl (z9.2))))] → lv_has ls 3 [(0, .ref a_this), (1, .int (v1)), (2, .int (z9.1))] → W p l e { frames := 0, cells := 0, slots := 0, locals := 0 } s m args below meth c H locs 0 0 Q (F0 m 2 ls [])) (kx : ∀ (z9 : Int32 × (Nat → Int64)) (H : Heap) (locs : List Loc) (ls : Array Slot), o = .inr z9 → St D A s H locs [(a_this, .inr (5, [.ref a_this_told, .int (x_held)])), (a_this_told, .inl (y 1, n_this_told, .inr (.inl (z9.2))))] → lv_has ls 3 [] → W p l e { frames := 0, cells := 0, slots := 0, locals := 0 } s m args below meth c H locs 0 0 Q (F0 m 46 ls [])) : W p l e { frames := 0, cells := 0, slots := 0, locals := 0 } s m args below meth c H locs 0 0 Q (F0 m 40 ls []) := by
  unfold pX5_raise_b2j40 at hp
  refine lv_iinc (v := (v2 + 1)) (lv' := [(2, .int ((v2 + 1))), (0, .ref a_this), (1, .int (v1))]) C.x C.b dX5_raise_40 hl (k := 2) rfl rfl (by decide) rfl (fun ls hl => ?_)
  refine lv_goto (tgt := 2) C.x C.b dX5_raise_43 (by decide) ?_
  exact kb _ H locs ls (Option.some.inj hp).symm hw (lv_sub hl [1, 2, 0] rfl)
set_option maxRecDepth 100000 in
set_option maxHeartbeats 4000000 in
theorem wX5_raise_b2 {D : va_G} {y : Nat → ClassId} {p : Program} {l : Launch} {e : Env} {s : State} {m : MethodId} {args : Array Value} {below : List Frame} {meth : Method} {c : Code} {A : Nat → Prop} (a_this a_this_told : Nat) (n_this_told : Nat) (v1 : Int32) (x_held : Int32)  (C : Cx D y p s m args meth c A RX5 cX5_raise (Cond.code yX5_raise cX5_raise 3 none) none 3) {Q : State → Prop} : ∀ (k : Nat) (z2 : Int32 × (Nat → Int64)) (o2 : Int32 × (Nat → Int64)) (H : Heap) (locs : List Loc) (ls : Array Slot), lp (pX5_raise_b2 n_this_told v1 x_held) k z2 = some o2 → St D A s H locs [(a_this, .inr (5, [.ref a_this_told, .int (x_held)])), (a_this_told, .inl (y 1, n_this_told, .inr (.inl (z2.2))))] → lv_has ls 3 [(0, .ref a_this), (1, .int (v1)), (2, .int (z2.1))] → (∀ (H : Heap) (locs : List Loc) (ls : Array Slot), St D A s H locs [(a_this, .inr (5, [.ref a_this_told, .int (x_held)])), (a_this_told, .inl (y 1, n_this_told, .inr (.inl (o2.2))))] → lv_has ls 3 [] → W p l e { frames := 0, cells := 0, slots := 0, locals := 0 } s m args below meth c H locs 0 0 Q (F0 m 46 ls [])) → W p l e { frames := 0, cells := 0, slots := 0, locals := 0 } s m args below meth c H locs 0 0 Q (F0 m 2 ls []) := by
  intro k
  induction k with
  | zero => intro z2 o9 H locs ls hp; exact lp_zero hp
  | succ k ih =>
    intro z2 o2 H locs ls hlp hw hl kx0
    obtain ⟨o, hp, hk1, hk2⟩ := lp_succ hlp
    have kb : ∀ (z9 : Int32 × (Nat → Int64)) (H : Heap) (locs : List Loc) (ls : Array Slot), o = .inl z9 → St D A s H locs [(a_this, .inr (5, [.ref a_this_told, .int (x_held)])), (a_this_told, .inl (y 1, n_this_told, .inr (.inl (z9.2))))] → lv_has ls 3 [(0, .ref a_this), (1, .int (v1)), (2, .int (z9.1))] → W p l e { frames := 0, cells := 0, slots := 0, locals := 0 } s m args below meth c H locs 0 0 Q (F0 m 2 ls []) := fun z9 H locs ls ho hw hl => ih z9 o2 H locs ls (hk1 z9 ho) hw hl kx0
    have kx : ∀ (z9 : Int32 × (Nat → Int64)) (H : Heap) (locs : List Loc) (ls : Array Slot), o = .inr z9 → St D A s H locs [(a_this, .inr (5, [.ref a_this_told, .int (x_held)])), (a_this_told, .inl (y 1, n_this_told, .inr (.inl (z9.2))))] → lv_has ls 3 [] → W p l e { frames := 0, cells := 0, slots := 0, locals := 0 } s m args below meth c H locs 0 0 Q (F0 m 46 ls []) := fun z9 H locs ls ho hw hl => by obtain rfl := hk2 z9 ho; exact kx0 H locs ls hw hl
    clear ih hk1 hk2 hlp kx0
    unfold pX5_raise_b2 at hp
    refine lv_iload_n C.x C.b dX5_raise_2 rfl (lv_at hl 2 rfl) ?_
    refine lv_aload_n C.x C.b dX5_raise_3 rfl (lv_at hl 0 rfl) ?_
    refine q_get (v := .int (x_held)) (T := TX5) C hw 0 1 rfl rfl rfl inX5 (by decide) kw154 rfl dX5_raise_4 ?_
    refine lv_icmp_ge (tgt := 46) C.x C.b dX5_raise_7 (by decide) (fun c9 => ?_) (fun c9 => ?_)
    · replace hp := it_t c9 hp
      exact kx _ H locs ls (Option.some.inj hp).symm hw (lv_sub hl [] rfl)
    · replace hp := it_f c9 hp
      refine lv_aload_n C.x C.b dX5_raise_10 rfl (lv_at hl 0 rfl) ?_
      refine q_get (v := .ref a_this_told) (T := TX5) C hw 0 0 rfl rfl rfl inX5 (by decide) kw152 rfl dX5_raise_11 ?_
      refine lv_iload_n C.x C.b dX5_raise_14 rfl (lv_at hl 2 rfl) ?_
      obtain ⟨hi, hp⟩ := ck_some hp
      refine q_lald C hw 1 rfl hi dX5_raise_15 ?_
      refine lv_ldc2 C.x C.b C.ow (C.ts _ (List.mem_cons_of_mem _ kw705)) dX5_raise_16 ?_
      refine W.lcmp C.x C.b dX5_raise_19 ?_
      refine lv_if_eq (tgt := 40) C.x C.b dX5_raise_20 (by decide) (fun c9 => ?_) (fun c9 => ?_)
      · replace hp := it_t c9 hp
        exact wX5_raise_b2j40 a_this a_this_told n_this_told (v1) (z2.1) (x_held) (z2.2) o C H locs ls hp hw (lv_sub hl [0, 1, 2] rfl) kb kx
      · replace hp := it_f c9 hp
        refine lv_aload_n C.x C.b dX5_raise_23 rfl (lv_at hl 0 rfl) ?_
        refine q_get (v := .ref a_this_told) (T := TX5) C hw 0 0 rfl rfl rfl inX5 (by decide) kw152 rfl dX5_raise_24 ?_
        refine lv_iload_n C.x C.b dX5_raise_27 rfl (lv_at hl 2 rfl) ?_
        refine lv_aload_n C.x C.b dX5_raise_28 rfl (lv_at hl 0 rfl) ?_
        refine q_get (v := .ref a_this_told) (T := TX5) C hw 0 0 rfl rfl rfl inX5 (by decide) kw152 rfl dX5_raise_29 ?_
        refine lv_iload_n C.x C.b dX5_raise_32 rfl (lv_at hl 2 rfl) ?_
        obtain ⟨hi, hp⟩ := ck_some hp
        refine q_lald C hw 1 rfl hi dX5_raise_33 ?_
        refine lv_iload_n C.x C.b dX5_raise_34 rfl (lv_at hl 1 rfl) ?_
        refine lv_i2l C.x C.b dX5_raise_35 rfl ?_
        refine lv_ladd C.x C.b dX5_raise_36 ?_
        refine lv_l2i C.x C.b dX5_raise_37 rfl ?_
        refine lv_i2l C.x C.b dX5_raise_38 rfl ?_
        obtain ⟨hi, hp⟩ := ck_some hp
        refine q_last (w2 := [(a_this, .inr (5, [.ref a_this_told, .int (x_held)])), (a_this_told, .inl (y 1, n_this_told, .inr (.inl ((vp_updL z2.2 z2.1.toNatClampNeg ((((z2.2 z2.1.toNatClampNeg) + v1.toInt64).toInt32).toInt64))))))]) C hw 1 rfl rfl hi dX5_raise_39 (fun H locs hw => ?_)
        exact wX5_raise_b2j40 a_this a_this_told n_this_told (v1) (z2.1) (x_held) ((vp_updL z2.2 z2.1.toNatClampNeg ((((z2.2 z2.1.toNatClampNeg) + v1.toInt64).toInt32).toInt64))) o C H locs ls hp hw (lv_sub hl [0, 1, 2] rfl) kb kx
set_option maxRecDepth 100000 in
set_option maxHeartbeats 4000000 in
theorem tX5_raise (l : Launch) (D : va_G) (y : Nat → ClassId) (a_this a_this_told : Nat) (n_this_told : Nat) (v1 : Int32) (x_held : Int32) (x_told : Nat → Int64) (z0 : Nat → Int64) (hp : pX5_raise n_this_told v1 x_held x_told = some z0) : CV D y l yX5_raise (Cond.code yX5_raise cX5_raise 3 none :: tbG) { frames := 0, cells := 0, slots := 0, locals := 0 } [.ref a_this, .int (v1)] [(a_this, .inr (5, [.ref a_this_told, .int (x_held)])), (a_this_told, .inl (y 1, n_this_told, .inr (.inl (x_told))))] [(a_this, .inr (5, [.ref a_this_told, .int (x_held)])), (a_this_told, .inl (y 1, n_this_told, .inr (.inl (z0))))] := by
  refine CV.of (own := RX5) (by decide) rfl (Nat.le_of_ble_eq_true rfl) ?_
  intro p e s m args below meth c A H locs ls C hw hl
  have hl : lv_has ls 3 [(0, .ref a_this), (1, .int (v1))] := hl
  unfold pX5_raise at hp
  refine lv_iconst (v := 0) C.x C.b dX5_raise_0 (by decide) ?_
  refine lv_istore_n (lv' := [(2, .int (0)), (0, .ref a_this), (1, .int (v1))]) C.x C.b dX5_raise_1 rfl hl (by decide) rfl (fun ls hl => ?_)
  obtain ⟨y2, hlp, hp⟩ := bd_some hp
  refine wX5_raise_b2 a_this a_this_told n_this_told (v1) (x_held) C FU (0, x_told) y2 H locs ls hlp hw (lv_sub hl [1, 2, 0] rfl) (fun H locs ls hw hl => ?_)
  obtain rfl := Option.some.inj hp
  exact q_vret C hw dX5_raise_46
theorem okX5_mirror : okY yX5_mirror 1 := ⟨by decide +kernel, by decide +kernel, by decide +kernel⟩
set_option maxRecDepth 100000 in
set_option maxHeartbeats 4000000 in
theorem tX5_mirror (l : Launch) (D : va_G) (y : Nat → ClassId) (a_this a_p1 a_this_told a_p1_told : Nat) (n_this_told n_p1_told : Nat) (x_held : Int32) (x_told : Nat → Int64) (x_p1_held : Int32) (x_p1_told : Nat → Int64) (z0 : Int32 × (Nat → Int64)) (hp : pX5_mirror n_this_told n_p1_told x_held x_told x_p1_held x_p1_told = some z0) : CV D y l yX5_mirror (Cond.code yX5_mirror cX5_mirror 3 none :: tbG) { frames := 1, cells := 0, slots := 0, locals := 31 } [.ref a_this, .ref a_p1] [(a_this, .inr (5, [.ref a_this_told, .int (x_held)])), (a_this_told, .inl (y 1, n_this_told, .inr (.inl (x_told)))), (a_p1, .inr (5, [.ref a_p1_told, .int (x_p1_held)])), (a_p1_told, .inl (y 1, n_p1_told, .inr (.inl (x_p1_told))))] [(a_this, .inr (5, [.ref a_this_told, .int (z0.1)])), (a_this_told, .inl (y 1, n_this_told, .inr (.inl (z0.2)))), (a_p1, .inr (5, [.ref a_p1_told, .int (x_p1_held)])), (a_p1_told, .inl (y 1, n_p1_told, .inr (.inl (x_p1_told))))] := by
  refine CV.of (own := RX5) (by decide) rfl (Nat.le_of_ble_eq_true rfl) ?_
  intro p e s m args below meth c A H locs ls C hw hl
  have hl : lv_has ls 3 [(0, .ref a_this), (1, .ref a_p1)] := hl
  unfold pX5_mirror at hp
  refine lv_aload_n C.x C.b dX5_mirror_0 rfl (lv_at hl 1 rfl) ?_
  refine q_get (v := .int (x_p1_held)) (T := TX5) C hw 2 1 rfl rfl rfl inX5 (by decide) kw154 rfl dX5_mirror_1 ?_
  refine lv_aload_n C.x C.b dX5_mirror_4 rfl (lv_at hl 0 rfl) ?_
  refine q_get (v := .ref a_this_told) (T := TX5) C hw 0 0 rfl rfl rfl inX5 (by decide) kw152 rfl dX5_mirror_5 ?_
  refine va_alen C.x C.b C.k.1 hw.1 1 1 rfl rfl rfl dX5_mirror_8 ?_
  obtain ⟨k9, hk, hp⟩ := bd_some hp
  refine q_aftI (wc := []) (wr := [(a_this, .inr (5, [.ref a_this_told, .int (x_held)])), (a_this_told, .inl (y 1, n_this_told, .inr (.inl (x_told)))), (a_p1, .inr (5, [.ref a_p1_told, .int (x_p1_held)])), (a_p1_told, .inl (y 1, n_p1_told, .inr (.inl (x_p1_told))))]) (w1 := []) (w2 := [(a_this, .inr (5, [.ref a_this_told, .int (x_held)])), (a_this_told, .inl (y 1, n_this_told, .inr (.inl (x_told)))), (a_p1, .inr (5, [.ref a_p1_told, .int (x_p1_held)])), (a_p1_told, .inl (y 1, n_p1_told, .inr (.inl (x_p1_told))))]) C hw [] [0, 1, 2, 3] [0, 1, 2, 3] rfl rfl (by decide) (by decide) (by decide) rfl (q_runS (As := [.int (x_p1_held), .int ((Int32.ofNat n_this_told))]) (rest := []) C hw (tJ9_min_7cf53 l D y x_p1_held (Int32.ofNat n_this_told) k9 hk H.size) [] rfl (by decide) kw497 kw498 kw124 kw499 okJ9_min_7cf53 ⟨rfl, rfl⟩ ⟨Nat.le_of_ble_eq_true rfl, Nat.le_of_ble_eq_true rfl⟩ rfl hl.1 rfl (Nat.le_of_ble_eq_true rfl) dX5_mirror_9 ⟨Nat.zero_le _, Nat.zero_le _⟩) (fun H locs hw => ?_)
  refine lv_istore_n (lv' := [(2, .int (k9)), (0, .ref a_this), (1, .ref a_p1)]) C.x C.b dX5_mirror_12 rfl hl (by decide) rfl (fun ls hl => ?_)
  refine lv_aload_n C.x C.b dX5_mirror_13 rfl (lv_at hl 2 rfl) ?_
  refine q_get (v := .ref a_p1_told) (T := TX5) C hw 2 0 rfl rfl rfl inX5 (by decide) kw152 rfl dX5_mirror_14 ?_
  refine lv_iconst (v := 0) C.x C.b dX5_mirror_17 (by decide) ?_
  refine lv_aload_n C.x C.b dX5_mirror_18 rfl (lv_at hl 1 rfl) ?_
  refine q_get (v := .ref a_this_told) (T := TX5) C hw 0 0 rfl rfl rfl inX5 (by decide) kw152 rfl dX5_mirror_19 ?_
  refine lv_iconst (v := 0) C.x C.b dX5_mirror_22 (by decide) ?_
  refine lv_iload_n C.x C.b dX5_mirror_23 rfl (lv_at hl 0 rfl) ?_
  obtain ⟨hi, hp⟩ := cpk_some hp
  refine q_cpl (w2 := [(a_this, .inr (5, [.ref a_this_told, .int (x_held)])), (a_this_told, .inl (y 1, n_this_told, .inr (.inl ((va_cpy x_p1_told x_told (0 : Int32).toNatClampNeg (0 : Int32).toNatClampNeg k9.toNatClampNeg))))), (a_p1, .inr (5, [.ref a_p1_told, .int (x_p1_held)])), (a_p1_told, .inl (y 1, n_p1_told, .inr (.inl (x_p1_told))))]) C hw 3 1 rfl rfl rfl hi hl.1 kw500 kw502 kw501 kw125 (Nat.le_of_ble_eq_true rfl) (Nat.le_of_ble_eq_true rfl) dX5_mirror_24 (fun H locs hw => ?_)
  refine lv_aload_n C.x C.b dX5_mirror_27 rfl (lv_at hl 1 rfl) ?_
  refine lv_iload_n C.x C.b dX5_mirror_28 rfl (lv_at hl 0 rfl) ?_
  refine q_pf (v := .int (k9)) (w2 := [(a_this, .inr (5, [.ref a_this_told, .int (k9)])), (a_this_told, .inl (y 1, n_this_told, .inr (.inl ((va_cpy x_p1_told x_told (0 : Int32).toNatClampNeg (0 : Int32).toNatClampNeg k9.toNatClampNeg))))), (a_p1, .inr (5, [.ref a_p1_told, .int (x_p1_held)])), (a_p1_told, .inl (y 1, n_p1_told, .inr (.inl (x_p1_told))))]) (T := TX5) (ty0 := tyX5) (ty := .int) C hw 0 1 rfl rfl (Nat.le_of_ble_eq_true rfl) rfl inX5 tyX5_ok nmX5 (by decide) kw154 rfl rfl rfl rfl rfl dX5_mirror_29 (fun H locs hw => ?_)
  obtain rfl := Option.some.inj hp
  exact q_vret C hw dX5_mirror_32
theorem okX5_vacantWithin : okY yX5_vacantWithin 2 := ⟨by decide +kernel, by decide +kernel, by decide +kernel⟩
set_option maxRecDepth 100000 in
set_option maxHeartbeats 4000000 in
theorem wX5_vacantWithin_b5j23 {D : va_G} {y : Nat → ClassId} {p : Program} {l : Launch} {e : Env} {s : State} {m : MethodId} {args : Array Value} {below : List Frame} {meth : Method} {c : Code} {A : Nat → Prop} (a_this a_this_told : Nat) (n_this_told : Nat) (v2 : Int32) (v3 : Int32) (v4 : Int32)   (x_held : Int32) (x_told : Nat → Int64) (o : (Int32 × Int32) ⊕ (Int32 × Int32)) (C : Cx D y p s m args meth c A RX5 cX5_vacantWithin (Cond.code yX5_vacantWithin cX5_vacantWithin 5 (some .int)) (some .int) 5) {Q : State → Prop} (H : Heap) (locs : List Loc) (ls : Array Slot) (hp : pX5_vacantWithin_b5j23 n_this_told v3 v4 = some o) (hw : St D A s H locs [(a_this, .inr (5, [.ref a_this_told, .int (x_held)])), (a_this_told, .inl (y 1, n_this_told, .inr (.inl (x_told))))]) (hl : lv_has ls 5 [(0, .ref a_this), (2, .int (v2)), (3, .int (v3)), (4, .int (v4))]) (kb : ∀ (z9 : Int32 × Int32) (H : Heap) (locs : List Loc) (ls : Array Slot), o = .inl z9 → St D A s H locs [(a_this, .inr (5, [.ref a_this_told, .int (x_held)])), (a_this_told, .inl (y 1, n_this_told, .inr (.inl (x_told))))] → lv_has ls 5 [(0, .ref a_this), (2, .int (v2)), (3, .int (z9.1)), (4, .int (z9.2))] → W p l e { frames := 2, cells := 0, slots := 0, locals := 42 } s m args below meth c H locs 0 0 Q (F0 m 5 ls [])) (kx : ∀ (z9 : Int32 × Int32) (H : Heap) (locs : List Loc) (ls : Array Slot), o = .inr z9 → St D A s H locs [(a_this, .inr (5, [.ref a_this_told, .int (x_held)])), (a_this_told, .inl (y 1, n_this_told, .inr (.inl (x_told))))] → lv_has ls 5 [(3, .int (z9.1))] → W p l e { frames := 2, cells := 0, slots := 0, locals := 42 } s m args below meth c H locs 0 0 Q (F0 m 29 ls [])) : W p l e { frames := 2, cells := 0, slots := 0, locals := 42 } s m args below meth c H locs 0 0 Q (F0 m 23 ls []) := by
  unfold pX5_vacantWithin_b5j23 at hp
  refine lv_iinc (v := (v4 + 1)) (lv' := [(4, .int ((v4 + 1))), (0, .ref a_this), (2, .int (v2)), (3, .int (v3))]) C.x C.b dX5_vacantWithin_23 hl (k := 3) rfl rfl (by decide) rfl (fun ls hl => ?_)
  refine lv_goto (tgt := 5) C.x C.b dX5_vacantWithin_26 (by decide) ?_
  exact kb _ H locs ls (Option.some.inj hp).symm hw (lv_sub hl [1, 2, 3, 0] rfl)
set_option maxRecDepth 100000 in
set_option maxHeartbeats 4000000 in
theorem wX5_vacantWithin_b5 {D : va_G} {y : Nat → ClassId} {p : Program} {l : Launch} {e : Env} {s : State} {m : MethodId} {args : Array Value} {below : List Frame} {meth : Method} {c : Code} {A : Nat → Prop} (a_this a_this_told : Nat) (n_this_told : Nat) (v2 : Int32) (x_held : Int32) (x_told : Nat → Int64)  (C : Cx D y p s m args meth c A RX5 cX5_vacantWithin (Cond.code yX5_vacantWithin cX5_vacantWithin 5 (some .int)) (some .int) 5) {Q : State → Prop} : ∀ (k : Nat) (z5 : Int32 × Int32) (o5 : Int32 × Int32) (H : Heap) (locs : List Loc) (ls : Array Slot), lp (pX5_vacantWithin_b5 n_this_told v2 x_held x_told) k z5 = some o5 → St D A s H locs [(a_this, .inr (5, [.ref a_this_told, .int (x_held)])), (a_this_told, .inl (y 1, n_this_told, .inr (.inl (x_told))))] → lv_has ls 5 [(0, .ref a_this), (2, .int (v2)), (3, .int (z5.1)), (4, .int (z5.2))] → (∀ (H : Heap) (locs : List Loc) (ls : Array Slot), St D A s H locs [(a_this, .inr (5, [.ref a_this_told, .int (x_held)])), (a_this_told, .inl (y 1, n_this_told, .inr (.inl (x_told))))] → lv_has ls 5 [(3, .int (o5.1))] → W p l e { frames := 2, cells := 0, slots := 0, locals := 42 } s m args below meth c H locs 0 0 Q (F0 m 29 ls [])) → W p l e { frames := 2, cells := 0, slots := 0, locals := 42 } s m args below meth c H locs 0 0 Q (F0 m 5 ls []) := by
  intro k
  induction k with
  | zero => intro z5 o9 H locs ls hp; exact lp_zero hp
  | succ k ih =>
    intro z5 o5 H locs ls hlp hw hl kx0
    obtain ⟨o, hp, hk1, hk2⟩ := lp_succ hlp
    have kb : ∀ (z9 : Int32 × Int32) (H : Heap) (locs : List Loc) (ls : Array Slot), o = .inl z9 → St D A s H locs [(a_this, .inr (5, [.ref a_this_told, .int (x_held)])), (a_this_told, .inl (y 1, n_this_told, .inr (.inl (x_told))))] → lv_has ls 5 [(0, .ref a_this), (2, .int (v2)), (3, .int (z9.1)), (4, .int (z9.2))] → W p l e { frames := 2, cells := 0, slots := 0, locals := 42 } s m args below meth c H locs 0 0 Q (F0 m 5 ls []) := fun z9 H locs ls ho hw hl => ih z9 o5 H locs ls (hk1 z9 ho) hw hl kx0
    have kx : ∀ (z9 : Int32 × Int32) (H : Heap) (locs : List Loc) (ls : Array Slot), o = .inr z9 → St D A s H locs [(a_this, .inr (5, [.ref a_this_told, .int (x_held)])), (a_this_told, .inl (y 1, n_this_told, .inr (.inl (x_told))))] → lv_has ls 5 [(3, .int (z9.1))] → W p l e { frames := 2, cells := 0, slots := 0, locals := 42 } s m args below meth c H locs 0 0 Q (F0 m 29 ls []) := fun z9 H locs ls ho hw hl => by obtain rfl := hk2 z9 ho; exact kx0 H locs ls hw hl
    clear ih hk1 hk2 hlp kx0
    unfold pX5_vacantWithin_b5 at hp
    refine lv_iload C.x C.b dX5_vacantWithin_5 (lv_at hl 3 rfl) ?_
    refine lv_iload_n C.x C.b dX5_vacantWithin_7 rfl (lv_at hl 1 rfl) ?_
    refine lv_icmp_ge (tgt := 29) C.x C.b dX5_vacantWithin_8 (by decide) (fun c9 => ?_) (fun c9 => ?_)
    · replace hp := it_t c9 hp
      exact kx _ H locs ls (Option.some.inj hp).symm hw (lv_sub hl [2] rfl)
    · replace hp := it_f c9 hp
      refine lv_aload_n C.x C.b dX5_vacantWithin_11 rfl (lv_at hl 0 rfl) ?_
      refine lv_iload C.x C.b dX5_vacantWithin_12 (lv_at hl 3 rfl) ?_
      obtain ⟨k14, hk, hp⟩ := bd_some hp
      refine q_aftZ (wc := [(a_this, .inr (5, [.ref a_this_told, .int (x_held)])), (a_this_told, .inl (y 1, n_this_told, .inr (.inl (x_told))))]) (wr := []) (w1 := [(a_this, .inr (5, [.ref a_this_told, .int (x_held)])), (a_this_told, .inl (y 1, n_this_told, .inr (.inl (x_told))))]) (w2 := [(a_this, .inr (5, [.ref a_this_told, .int (x_held)])), (a_this_told, .inl (y 1, n_this_told, .inr (.inl (x_told))))]) C hw [0, 1] [] [0, 1] rfl rfl (by decide) (by decide) (by decide) rfl (q_runV (As := [.int (z5.2)]) (rest := []) (q0 := 0) (ci := 5) C hw (tX5_isFull l D y a_this a_this_told n_this_told z5.2 x_held x_told k14 hk H.size) [0, 1] rfl (by decide) rfl rfl kw730 kw731 kw732 kw115 kw733 okX5_isFull ⟨rfl, rfl⟩ ⟨Nat.le_of_ble_eq_true rfl, Nat.le_of_ble_eq_true rfl⟩ rfl hl.1 rfl (Nat.le_of_ble_eq_true rfl) dX5_vacantWithin_14 ⟨Nat.zero_le _, Nat.zero_le _⟩) (fun H locs hz14 hw => ?_)
      refine lv_if_ne (tgt := 23) C.x C.b dX5_vacantWithin_17 (by decide) (fun c9 => ?_) (fun c9 => ?_)
      · replace hp := it_f c9 hp
        exact wX5_vacantWithin_b5j23 a_this a_this_told n_this_told (v2) (z5.1) (z5.2) (x_held) (x_told) o C H locs ls hp hw (lv_sub hl [0, 1, 2, 3] rfl) kb kx
      · replace hp := it_t c9 hp
        refine lv_iinc (v := (z5.1 + 1)) (lv' := [(3, .int ((z5.1 + 1))), (0, .ref a_this), (2, .int (v2)), (4, .int (z5.2))]) C.x C.b dX5_vacantWithin_20 hl (k := 2) rfl rfl (by decide) rfl (fun ls hl => ?_)
        exact wX5_vacantWithin_b5j23 a_this a_this_told n_this_told (v2) ((z5.1 + 1)) (z5.2) (x_held) (x_told) o C H locs ls hp hw (lv_sub hl [1, 2, 0, 3] rfl) kb kx
set_option maxRecDepth 100000 in
set_option maxHeartbeats 4000000 in
theorem tX5_vacantWithin (l : Launch) (D : va_G) (y : Nat → ClassId) (a_this a_this_told : Nat) (n_this_told : Nat) (v1 : Int32) (v2 : Int32) (x_held : Int32) (x_told : Nat → Int64) (z0 : Int32) (hp : pX5_vacantWithin n_this_told v1 v2 x_held x_told = some z0) : CI D y l yX5_vacantWithin (Cond.code yX5_vacantWithin cX5_vacantWithin 5 (some .int) :: tbG) { frames := 2, cells := 0, slots := 0, locals := 42 } [.ref a_this, .int (v1), .int (v2)] [(a_this, .inr (5, [.ref a_this_told, .int (x_held)])), (a_this_told, .inl (y 1, n_this_told, .inr (.inl (x_told))))] [(a_this, .inr (5, [.ref a_this_told, .int (x_held)])), (a_this_told, .inl (y 1, n_this_told, .inr (.inl (x_told))))] (z0) := by
  refine CI.of (own := RX5) (by decide) rfl (Nat.le_of_ble_eq_true rfl) ?_
  intro p e s m args below meth c A H locs ls C hw hl
  have hl : lv_has ls 5 [(0, .ref a_this), (1, .int (v1)), (2, .int (v2))] := hl
  unfold pX5_vacantWithin at hp
  refine lv_iconst (v := 0) C.x C.b dX5_vacantWithin_0 (by decide) ?_
  refine lv_istore_n (lv' := [(3, .int (0)), (0, .ref a_this), (1, .int (v1)), (2, .int (v2))]) C.x C.b dX5_vacantWithin_1 rfl hl (by decide) rfl (fun ls hl => ?_)
  refine lv_iload_n C.x C.b dX5_vacantWithin_2 rfl (lv_at hl 2 rfl) ?_
  refine lv_istore (lv' := [(4, .int (v1)), (3, .int (0)), (0, .ref a_this), (1, .int (v1)), (2, .int (v2))]) C.x C.b dX5_vacantWithin_3 hl (by decide) rfl (fun ls hl => ?_)
  obtain ⟨y5, hlp, hp⟩ := bd_some hp
  refine wX5_vacantWithin_b5 a_this a_this_told n_this_told (v2) (x_held) (x_told) C FU (0, v1) y5 H locs ls hlp hw (lv_sub hl [2, 4, 1, 0] rfl) (fun H locs ls hw hl => ?_)
  refine lv_iload_n C.x C.b dX5_vacantWithin_29 rfl (lv_at hl 0 rfl) ?_
  obtain rfl := Option.some.inj hp
  exact q_iret C hw rfl dX5_vacantWithin_30
theorem okX5_differenceAt : okY yX5_differenceAt 1 := ⟨by decide +kernel, by decide +kernel, by decide +kernel⟩
set_option maxRecDepth 100000 in
set_option maxHeartbeats 4000000 in
theorem wX5_differenceAt_b18 {D : va_G} {y : Nat → ClassId} {p : Program} {l : Launch} {e : Env} {s : State} {m : MethodId} {args : Array Value} {below : List Frame} {meth : Method} {c : Code} {A : Nat → Prop} (a_this a_this_told : Nat) (n_this_told : Nat) (v1 : Int32) (x_held : Int32) (x_told : Nat → Int64) (z0 : Int64) (C : Cx D y p s m args meth c A RX5 cX5_differenceAt (Cond.code yX5_differenceAt cX5_differenceAt 3 (some .long)) (some .long) 3) : ∀ (k : Nat) (z18 : Int32) (q18 : (Int32) ⊕ (Int64)) (H : Heap) (locs : List Loc) (ls : Array Slot), lp (pX5_differenceAt_b18 n_this_told v1 x_told) k z18 = some q18 → St D A s H locs [(a_this, .inr (5, [.ref a_this_told, .int (x_held)])), (a_this_told, .inl (y 1, n_this_told, .inr (.inl (x_told))))] → lv_has ls 3 [(0, .ref a_this), (1, .int (v1)), (2, .int (z18))] → (∀ (o18 : Int32) (H : Heap) (locs : List Loc) (ls : Array Slot), q18 = .inl o18 → St D A s H locs [(a_this, .inr (5, [.ref a_this_told, .int (x_held)])), (a_this_told, .inl (y 1, n_this_told, .inr (.inl (x_told))))] → lv_has ls 3 [] → W p l e { frames := 2, cells := 0, slots := 0, locals := 42 } s m args below meth c H locs 0 0 (QL D s A args below [(a_this, .inr (5, [.ref a_this_told, .int (x_held)])), (a_this_told, .inl (y 1, n_this_told, .inr (.inl (x_told))))] (z0)) (F0 m 57 ls [])) → (∀ z9 : Int64, q18 = .inr z9 → z9 = z0) → W p l e { frames := 2, cells := 0, slots := 0, locals := 42 } s m args below meth c H locs 0 0 (QL D s A args below [(a_this, .inr (5, [.ref a_this_told, .int (x_held)])), (a_this_told, .inl (y 1, n_this_told, .inr (.inl (x_told))))] (z0)) (F0 m 18 ls []) := by
  intro k
  induction k with
  | zero => intro z18 o9 H locs ls hp; exact lp_zero hp
  | succ k ih =>
    intro z18 q18 H locs ls hlp hw hl kx0 kr0
    obtain ⟨o, hp, hk1, hk2⟩ := lp_succ hlp
    have kb : ∀ (z9 : Int32) (H : Heap) (locs : List Loc) (ls : Array Slot), o = .inl z9 → St D A s H locs [(a_this, .inr (5, [.ref a_this_told, .int (x_held)])), (a_this_told, .inl (y 1, n_this_told, .inr (.inl (x_told))))] → lv_has ls 3 [(0, .ref a_this), (1, .int (v1)), (2, .int (z9))] → W p l e { frames := 2, cells := 0, slots := 0, locals := 42 } s m args below meth c H locs 0 0 (QL D s A args below [(a_this, .inr (5, [.ref a_this_told, .int (x_held)])), (a_this_told, .inl (y 1, n_this_told, .inr (.inl (x_told))))] (z0)) (F0 m 18 ls []) := fun z9 H locs ls ho hw hl => ih z9 q18 H locs ls (hk1 z9 ho) hw hl kx0 kr0
    have kx : ∀ (z9 : Int32) (H : Heap) (locs : List Loc) (ls : Array Slot), o = .inr (.inl z9) → St D A s H locs [(a_this, .inr (5, [.ref a_this_told, .int (x_held)])), (a_this_told, .inl (y 1, n_this_told, .inr (.inl (x_told))))] → lv_has ls 3 [] → W p l e { frames := 2, cells := 0, slots := 0, locals := 42 } s m args below meth c H locs 0 0 (QL D s A args below [(a_this, .inr (5, [.ref a_this_told, .int (x_held)])), (a_this_told, .inl (y 1, n_this_told, .inr (.inl (x_told))))] (z0)) (F0 m 57 ls []) := fun z9 H locs ls ho hw hl => kx0 z9 H locs ls (hk2 _ ho).symm hw hl
    have kr : ∀ z9 : Int64, o = .inr (.inr z9) → z9 = z0 := fun z9 ho => kr0 z9 (hk2 _ ho).symm
    clear ih hk1 hk2 hlp kx0
    unfold pX5_differenceAt_b18 at hp
    refine lv_iload_n C.x C.b dX5_differenceAt_18 rfl (lv_at hl 2 rfl) ?_
    refine lv_if_lt (tgt := 57) C.x C.b dX5_differenceAt_19 (by decide) (fun c9 => ?_) (fun c9 => ?_)
    · replace hp := it_t c9 hp
      exact kx _ H locs ls (Option.some.inj hp).symm hw (lv_sub hl [] rfl)
    · replace hp := it_f c9 hp
      refine lv_aload_n C.x C.b dX5_differenceAt_22 rfl (lv_at hl 0 rfl) ?_
      refine q_get (v := .ref a_this_told) (T := TX5) C hw 0 0 rfl rfl rfl inX5 (by decide) kw152 rfl dX5_differenceAt_23 ?_
      refine lv_iload_n C.x C.b dX5_differenceAt_26 rfl (lv_at hl 2 rfl) ?_
      obtain ⟨hi, hp⟩ := ck_some hp
      refine q_lald C hw 1 rfl hi dX5_differenceAt_27 ?_
      refine lv_ldc2 C.x C.b C.ow (C.ts _ (List.mem_cons_of_mem _ kw705)) dX5_differenceAt_28 ?_
      refine W.lcmp C.x C.b dX5_differenceAt_31 ?_
      refine lv_if_eq (tgt := 51) C.x C.b dX5_differenceAt_32 (by decide) (fun c9 => ?_) (fun c9 => ?_)
      · replace hp := it_t c9 hp
        refine lv_iinc (v := (z18 + (-1))) (lv' := [(2, .int ((z18 + (-1)))), (0, .ref a_this), (1, .int (v1))]) C.x C.b dX5_differenceAt_51 hl (k := 2) rfl rfl (by decide) rfl (fun ls hl => ?_)
        refine lv_goto (tgt := 18) C.x C.b dX5_differenceAt_54 (by decide) ?_
        exact kb _ H locs ls (Option.some.inj hp).symm hw (lv_sub hl [1, 2, 0] rfl)
      · replace hp := it_f c9 hp
        refine lv_aload_n C.x C.b dX5_differenceAt_35 rfl (lv_at hl 0 rfl) ?_
        refine q_get (v := .ref a_this_told) (T := TX5) C hw 0 0 rfl rfl rfl inX5 (by decide) kw152 rfl dX5_differenceAt_36 ?_
        refine lv_iload_n C.x C.b dX5_differenceAt_39 rfl (lv_at hl 1 rfl) ?_
        obtain ⟨hi, hp⟩ := ck_some hp
        refine q_lald C hw 1 rfl hi dX5_differenceAt_40 ?_
        refine lv_aload_n C.x C.b dX5_differenceAt_41 rfl (lv_at hl 0 rfl) ?_
        refine q_get (v := .ref a_this_told) (T := TX5) C hw 0 0 rfl rfl rfl inX5 (by decide) kw152 rfl dX5_differenceAt_42 ?_
        refine lv_iload_n C.x C.b dX5_differenceAt_45 rfl (lv_at hl 2 rfl) ?_
        obtain ⟨hi, hp⟩ := ck_some hp
        refine q_lald C hw 1 rfl hi dX5_differenceAt_46 ?_
        refine lv_lsub C.x C.b dX5_differenceAt_47 ?_
        refine lv_l2i C.x C.b dX5_differenceAt_48 rfl ?_
        refine lv_i2l C.x C.b dX5_differenceAt_49 rfl ?_
        obtain rfl := kr _ (Option.some.inj hp).symm
        exact q_lret C hw rfl dX5_differenceAt_50
set_option maxRecDepth 100000 in
set_option maxHeartbeats 4000000 in
theorem tX5_differenceAt (l : Launch) (D : va_G) (y : Nat → ClassId) (a_this a_this_told : Nat) (n_this_told : Nat) (v1 : Int32) (x_held : Int32) (x_told : Nat → Int64) (z0 : Int64) (hp : pX5_differenceAt n_this_told v1 x_held x_told = some z0) : CL D y l yX5_differenceAt (Cond.code yX5_differenceAt cX5_differenceAt 3 (some .long) :: tbG) { frames := 2, cells := 0, slots := 0, locals := 42 } [.ref a_this, .int (v1)] [(a_this, .inr (5, [.ref a_this_told, .int (x_held)])), (a_this_told, .inl (y 1, n_this_told, .inr (.inl (x_told))))] [(a_this, .inr (5, [.ref a_this_told, .int (x_held)])), (a_this_told, .inl (y 1, n_this_told, .inr (.inl (x_told))))] (z0) := by
  refine CL.of (own := RX5) (by decide) rfl (Nat.le_of_ble_eq_true rfl) ?_
  intro p e s m args below meth c A H locs ls C hw hl
  have hl : lv_has ls 3 [(0, .ref a_this), (1, .int (v1))] := hl
  unfold pX5_differenceAt at hp
  refine lv_aload_n C.x C.b dX5_differenceAt_0 rfl (lv_at hl 0 rfl) ?_
  refine lv_iload_n C.x C.b dX5_differenceAt_1 rfl (lv_at hl 1 rfl) ?_
  obtain ⟨k2, hk, hp⟩ := bd_some hp
  refine q_aftZ (wc := [(a_this, .inr (5, [.ref a_this_told, .int (x_held)])), (a_this_told, .inl (y 1, n_this_told, .inr (.inl (x_told))))]) (wr := []) (w1 := [(a_this, .inr (5, [.ref a_this_told, .int (x_held)])), (a_this_told, .inl (y 1, n_this_told, .inr (.inl (x_told))))]) (w2 := [(a_this, .inr (5, [.ref a_this_told, .int (x_held)])), (a_this_told, .inl (y 1, n_this_told, .inr (.inl (x_told))))]) C hw [0, 1] [] [0, 1] rfl rfl (by decide) (by decide) (by decide) rfl (q_runV (As := [.int (v1)]) (rest := []) (q0 := 0) (ci := 5) C hw (tX5_isFull l D y a_this a_this_told n_this_told v1 x_held x_told k2 hk H.size) [0, 1] rfl (by decide) rfl rfl kw730 kw731 kw732 kw115 kw733 okX5_isFull ⟨rfl, rfl⟩ ⟨Nat.le_of_ble_eq_true rfl, Nat.le_of_ble_eq_true rfl⟩ rfl hl.1 rfl (Nat.le_of_ble_eq_true rfl) dX5_differenceAt_2 ⟨Nat.zero_le _, Nat.zero_le _⟩) (fun H locs hz2 hw => ?_)
  refine lv_if_ne (tgt := 14) C.x C.b dX5_differenceAt_5 (by decide) (fun c9 => ?_) (fun c9 => ?_)
  · replace hp := it_f c9 hp
    refine lv_iload_n C.x C.b dX5_differenceAt_14 rfl (lv_at hl 1 rfl) ?_
    refine lv_iconst (v := 1) C.x C.b dX5_differenceAt_15 (by decide) ?_
    refine lv_isub C.x C.b dX5_differenceAt_16 ?_
    refine lv_istore_n (lv' := [(2, .int ((v1 - 1))), (0, .ref a_this), (1, .int (v1))]) C.x C.b dX5_differenceAt_17 rfl hl (by decide) rfl (fun ls hl => ?_)
    obtain ⟨y18, hlp, hp⟩ := bd_some hp
    refine wX5_differenceAt_b18 a_this a_this_told n_this_told (v1) (x_held) (x_told) z0 C FU (v1 - 1) y18 H locs ls hlp hw (lv_sub hl [1, 2, 0] rfl) (fun s18 H locs ls hq hw hl => ?_) (fun z9 hq => by subst hq; exact Option.some.inj hp)
    subst hq
    replace hp := sx_inl hp
    refine lv_ldc2 C.x C.b C.ow (C.ts _ (List.mem_cons_of_mem _ kw705)) dX5_differenceAt_57 ?_
    obtain rfl := Option.some.inj hp
    exact q_lret C hw rfl dX5_differenceAt_60
  · replace hp := it_t c9 hp
    refine lv_aload_n C.x C.b dX5_differenceAt_8 rfl (lv_at hl 0 rfl) ?_
    refine lv_iload_n C.x C.b dX5_differenceAt_9 rfl (lv_at hl 1 rfl) ?_
    obtain ⟨k10, hk, hp⟩ := bd_some hp
    refine q_aftL (wc := [(a_this, .inr (5, [.ref a_this_told, .int (x_held)])), (a_this_told, .inl (y 1, n_this_told, .inr (.inl (x_told))))]) (wr := []) (w1 := [(a_this, .inr (5, [.ref a_this_told, .int (x_held)])), (a_this_told, .inl (y 1, n_this_told, .inr (.inl (x_told))))]) (w2 := [(a_this, .inr (5, [.ref a_this_told, .int (x_held)])), (a_this_told, .inl (y 1, n_this_told, .inr (.inl (x_told))))]) C hw [0, 1] [] [0, 1] rfl rfl (by decide) (by decide) (by decide) rfl (q_runV (As := [.int (v1)]) (rest := []) (q0 := 0) (ci := 5) C hw (tX5_tellAt l D y a_this a_this_told n_this_told v1 x_held x_told k10 hk H.size) [0, 1] rfl (by decide) rfl rfl kw792 kw556 kw557 kw115 kw558 okX5_tellAt ⟨rfl, rfl⟩ ⟨Nat.le_of_ble_eq_true rfl, Nat.le_of_ble_eq_true rfl⟩ rfl hl.1 rfl (Nat.le_of_ble_eq_true rfl) dX5_differenceAt_10 ⟨Nat.zero_le _, Nat.zero_le _⟩) (fun H locs hw => ?_)
    obtain rfl := Option.some.inj hp
    exact q_lret C hw rfl dX5_differenceAt_13
theorem okX5_isSorted : okY yX5_isSorted 0 := ⟨by decide +kernel, by decide +kernel, by decide +kernel⟩
set_option maxRecDepth 100000 in
set_option maxHeartbeats 4000000 in
theorem wX5_isSorted_b6j47 {D : va_G} {y : Nat → ClassId} {p : Program} {l : Launch} {e : Env} {s : State} {m : MethodId} {args : Array Value} {below : List Frame} {meth : Method} {c : Code} {A : Nat → Prop} (a_this a_this_told : Nat) (n_this_told : Nat) (v1 : Int64) (v3 : Int32)   (x_held : Int32) (x_told : Nat → Int64) (o : (Int64 × Int32) ⊕ ((Int64 × Int32) ⊕ (Int32))) (z0 : Int32) (C : Cx D y p s m args meth c A RX5 cX5_isSorted (Cond.code yX5_isSorted cX5_isSorted 4 (some .boolean)) (some .boolean) 4) (H : Heap) (locs : List Loc) (ls : Array Slot) (hp : pX5_isSorted_b6j47 n_this_told v1 v3 = some o) (hw : St D A s H locs [(a_this, .inr (5, [.ref a_this_told, .int (x_held)])), (a_this_told, .inl (y 1, n_this_told, .inr (.inl (x_told))))]) (hl : lv_has ls 4 [(0, .ref a_this), (1, .long (v1)), (3, .int (v3))]) (kb : ∀ (z9 : Int64 × Int32) (H : Heap) (locs : List Loc) (ls : Array Slot), o = .inl z9 → St D A s H locs [(a_this, .inr (5, [.ref a_this_told, .int (x_held)])), (a_this_told, .inl (y 1, n_this_told, .inr (.inl (x_told))))] → lv_has ls 4 [(0, .ref a_this), (1, .long (z9.1)), (3, .int (z9.2))] → W p l e { frames := 0, cells := 0, slots := 0, locals := 0 } s m args below meth c H locs 0 0 (QZ D s A args below [(a_this, .inr (5, [.ref a_this_told, .int (x_held)])), (a_this_told, .inl (y 1, n_this_told, .inr (.inl (x_told))))] (z0)) (F0 m 6 ls [])) (kx : ∀ (z9 : Int64 × Int32) (H : Heap) (locs : List Loc) (ls : Array Slot), o = .inr (.inl z9) → St D A s H locs [(a_this, .inr (5, [.ref a_this_told, .int (x_held)])), (a_this_told, .inl (y 1, n_this_told, .inr (.inl (x_told))))] → lv_has ls 4 [] → W p l e { frames := 0, cells := 0, slots := 0, locals := 0 } s m args below meth c H locs 0 0 (QZ D s A args below [(a_this, .inr (5, [.ref a_this_told, .int (x_held)])), (a_this_told, .inl (y 1, n_this_told, .inr (.inl (x_told))))] (z0)) (F0 m 53 ls [])) (kr : ∀ z9 : Int32, o = .inr (.inr z9) → z9 = z0) : W p l e { frames := 0, cells := 0, slots := 0, locals := 0 } s m args below meth c H locs 0 0 (QZ D s A args below [(a_this, .inr (5, [.ref a_this_told, .int (x_held)])), (a_this_told, .inl (y 1, n_this_told, .inr (.inl (x_told))))] (z0)) (F0 m 47 ls []) := by
  unfold pX5_isSorted_b6j47 at hp
  refine lv_iinc (v := (v3 + 1)) (lv' := [(3, .int ((v3 + 1))), (0, .ref a_this), (1, .long (v1))]) C.x C.b dX5_isSorted_47 hl (k := 2) rfl rfl (by decide) rfl (fun ls hl => ?_)
  refine lv_goto (tgt := 6) C.x C.b dX5_isSorted_50 (by decide) ?_
  exact kb _ H locs ls (Option.some.inj hp).symm hw (lv_sub hl [1, 2, 0] rfl)
set_option maxRecDepth 100000 in
set_option maxHeartbeats 4000000 in
theorem wX5_isSorted_b6 {D : va_G} {y : Nat → ClassId} {p : Program} {l : Launch} {e : Env} {s : State} {m : MethodId} {args : Array Value} {below : List Frame} {meth : Method} {c : Code} {A : Nat → Prop} (a_this a_this_told : Nat) (n_this_told : Nat)  (x_held : Int32) (x_told : Nat → Int64) (z0 : Int32) (C : Cx D y p s m args meth c A RX5 cX5_isSorted (Cond.code yX5_isSorted cX5_isSorted 4 (some .boolean)) (some .boolean) 4) : ∀ (k : Nat) (z6 : Int64 × Int32) (q6 : (Int64 × Int32) ⊕ (Int32)) (H : Heap) (locs : List Loc) (ls : Array Slot), lp (pX5_isSorted_b6 n_this_told x_held x_told) k z6 = some q6 → St D A s H locs [(a_this, .inr (5, [.ref a_this_told, .int (x_held)])), (a_this_told, .inl (y 1, n_this_told, .inr (.inl (x_told))))] → lv_has ls 4 [(0, .ref a_this), (1, .long (z6.1)), (3, .int (z6.2))] → (∀ (o6 : Int64 × Int32) (H : Heap) (locs : List Loc) (ls : Array Slot), q6 = .inl o6 → St D A s H locs [(a_this, .inr (5, [.ref a_this_told, .int (x_held)])), (a_this_told, .inl (y 1, n_this_told, .inr (.inl (x_told))))] → lv_has ls 4 [] → W p l e { frames := 0, cells := 0, slots := 0, locals := 0 } s m args below meth c H locs 0 0 (QZ D s A args below [(a_this, .inr (5, [.ref a_this_told, .int (x_held)])), (a_this_told, .inl (y 1, n_this_told, .inr (.inl (x_told))))] (z0)) (F0 m 53 ls [])) → (∀ z9 : Int32, q6 = .inr z9 → z9 = z0) → W p l e { frames := 0, cells := 0, slots := 0, locals := 0 } s m args below meth c H locs 0 0 (QZ D s A args below [(a_this, .inr (5, [.ref a_this_told, .int (x_held)])), (a_this_told, .inl (y 1, n_this_told, .inr (.inl (x_told))))] (z0)) (F0 m 6 ls []) := by
  intro k
  induction k with
  | zero => intro z6 o9 H locs ls hp; exact lp_zero hp
  | succ k ih =>
    intro z6 q6 H locs ls hlp hw hl kx0 kr0
    obtain ⟨o, hp, hk1, hk2⟩ := lp_succ hlp
    have kb : ∀ (z9 : Int64 × Int32) (H : Heap) (locs : List Loc) (ls : Array Slot), o = .inl z9 → St D A s H locs [(a_this, .inr (5, [.ref a_this_told, .int (x_held)])), (a_this_told, .inl (y 1, n_this_told, .inr (.inl (x_told))))] → lv_has ls 4 [(0, .ref a_this), (1, .long (z9.1)), (3, .int (z9.2))] → W p l e { frames := 0, cells := 0, slots := 0, locals := 0 } s m args below meth c H locs 0 0 (QZ D s A args below [(a_this, .inr (5, [.ref a_this_told, .int (x_held)])), (a_this_told, .inl (y 1, n_this_told, .inr (.inl (x_told))))] (z0)) (F0 m 6 ls []) := fun z9 H locs ls ho hw hl => ih z9 q6 H locs ls (hk1 z9 ho) hw hl kx0 kr0
    have kx : ∀ (z9 : Int64 × Int32) (H : Heap) (locs : List Loc) (ls : Array Slot), o = .inr (.inl z9) → St D A s H locs [(a_this, .inr (5, [.ref a_this_told, .int (x_held)])), (a_this_told, .inl (y 1, n_this_told, .inr (.inl (x_told))))] → lv_has ls 4 [] → W p l e { frames := 0, cells := 0, slots := 0, locals := 0 } s m args below meth c H locs 0 0 (QZ D s A args below [(a_this, .inr (5, [.ref a_this_told, .int (x_held)])), (a_this_told, .inl (y 1, n_this_told, .inr (.inl (x_told))))] (z0)) (F0 m 53 ls []) := fun z9 H locs ls ho hw hl => kx0 z9 H locs ls (hk2 _ ho).symm hw hl
    have kr : ∀ z9 : Int32, o = .inr (.inr z9) → z9 = z0 := fun z9 ho => kr0 z9 (hk2 _ ho).symm
    clear ih hk1 hk2 hlp kx0
    unfold pX5_isSorted_b6 at hp
    refine lv_iload_n C.x C.b dX5_isSorted_6 rfl (lv_at hl 2 rfl) ?_
    refine lv_aload_n C.x C.b dX5_isSorted_7 rfl (lv_at hl 0 rfl) ?_
    refine q_get (v := .int (x_held)) (T := TX5) C hw 0 1 rfl rfl rfl inX5 (by decide) kw154 rfl dX5_isSorted_8 ?_
    refine lv_icmp_ge (tgt := 53) C.x C.b dX5_isSorted_11 (by decide) (fun c9 => ?_) (fun c9 => ?_)
    · replace hp := it_t c9 hp
      exact kx _ H locs ls (Option.some.inj hp).symm hw (lv_sub hl [] rfl)
    · replace hp := it_f c9 hp
      refine lv_aload_n C.x C.b dX5_isSorted_14 rfl (lv_at hl 0 rfl) ?_
      refine q_get (v := .ref a_this_told) (T := TX5) C hw 0 0 rfl rfl rfl inX5 (by decide) kw152 rfl dX5_isSorted_15 ?_
      refine lv_iload_n C.x C.b dX5_isSorted_18 rfl (lv_at hl 2 rfl) ?_
      obtain ⟨hi, hp⟩ := ck_some hp
      refine q_lald C hw 1 rfl hi dX5_isSorted_19 ?_
      refine lv_ldc2 C.x C.b C.ow (C.ts _ (List.mem_cons_of_mem _ kw705)) dX5_isSorted_20 ?_
      refine W.lcmp C.x C.b dX5_isSorted_23 ?_
      refine lv_if_eq (tgt := 47) C.x C.b dX5_isSorted_24 (by decide) (fun c9 => ?_) (fun c9 => ?_)
      · replace hp := it_t c9 hp
        exact wX5_isSorted_b6j47 a_this a_this_told n_this_told (z6.1) (z6.2) (x_held) (x_told) o z0 C H locs ls hp hw (lv_sub hl [0, 1, 2] rfl) kb kx kr
      · replace hp := it_f c9 hp
        refine lv_aload_n C.x C.b dX5_isSorted_27 rfl (lv_at hl 0 rfl) ?_
        refine q_get (v := .ref a_this_told) (T := TX5) C hw 0 0 rfl rfl rfl inX5 (by decide) kw152 rfl dX5_isSorted_28 ?_
        refine lv_iload_n C.x C.b dX5_isSorted_31 rfl (lv_at hl 2 rfl) ?_
        obtain ⟨hi, hp⟩ := ck_some hp
        refine q_lald C hw 1 rfl hi dX5_isSorted_32 ?_
        refine lv_lload_n C.x C.b dX5_isSorted_33 rfl (lv_at hl 1 rfl) ?_
        refine W.lcmp C.x C.b dX5_isSorted_34 ?_
        refine lv_if_ge (tgt := 40) C.x C.b dX5_isSorted_35 (by decide) (fun c9 => ?_) (fun c9 => ?_)
        · replace hp := it_t c9 hp
          refine lv_aload_n C.x C.b dX5_isSorted_40 rfl (lv_at hl 0 rfl) ?_
          refine q_get (v := .ref a_this_told) (T := TX5) C hw 0 0 rfl rfl rfl inX5 (by decide) kw152 rfl dX5_isSorted_41 ?_
          refine lv_iload_n C.x C.b dX5_isSorted_44 rfl (lv_at hl 2 rfl) ?_
          obtain ⟨hi, hp⟩ := ck_some hp
          refine q_lald C hw 1 rfl hi dX5_isSorted_45 ?_
          refine lv_lstore_n (lv' := [(1, .long ((x_told z6.2.toNatClampNeg))), (0, .ref a_this), (3, .int (z6.2))]) C.x C.b dX5_isSorted_46 rfl hl (by decide) rfl (fun ls hl => ?_)
          exact wX5_isSorted_b6j47 a_this a_this_told n_this_told ((x_told z6.2.toNatClampNeg)) (z6.2) (x_held) (x_told) o z0 C H locs ls hp hw (lv_sub hl [1, 0, 2] rfl) kb kx kr
        · replace hp := it_f c9 hp
          refine lv_iconst (v := 0) C.x C.b dX5_isSorted_38 (by decide) ?_
          obtain rfl := kr _ (Option.some.inj hp).symm
          exact q_zret C hw (by decide) rfl dX5_isSorted_39
set_option maxRecDepth 100000 in
set_option maxHeartbeats 4000000 in
theorem tX5_isSorted (l : Launch) (D : va_G) (y : Nat → ClassId) (a_this a_this_told : Nat) (n_this_told : Nat) (x_held : Int32) (x_told : Nat → Int64) (z0 : Int32) (hp : pX5_isSorted n_this_told x_held x_told = some z0) : CZ D y l yX5_isSorted (Cond.code yX5_isSorted cX5_isSorted 4 (some .boolean) :: tbG) { frames := 0, cells := 0, slots := 0, locals := 0 } [.ref a_this] [(a_this, .inr (5, [.ref a_this_told, .int (x_held)])), (a_this_told, .inl (y 1, n_this_told, .inr (.inl (x_told))))] [(a_this, .inr (5, [.ref a_this_told, .int (x_held)])), (a_this_told, .inl (y 1, n_this_told, .inr (.inl (x_told))))] (z0) := by
  refine CZ.of (own := RX5) (by decide) rfl (Nat.le_of_ble_eq_true rfl) ?_
  intro p e s m args below meth c A H locs ls C hw hl
  have hl : lv_has ls 4 [(0, .ref a_this)] := hl
  unfold pX5_isSorted at hp
  refine lv_ldc2 C.x C.b C.ow (C.ts _ (List.mem_cons_of_mem _ kw559)) dX5_isSorted_0 ?_
  refine lv_lstore_n (lv' := [(1, .long ((-4294967296))), (0, .ref a_this)]) C.x C.b dX5_isSorted_3 rfl hl (by decide) rfl (fun ls hl => ?_)
  refine lv_iconst (v := 0) C.x C.b dX5_isSorted_4 (by decide) ?_
  refine lv_istore_n (lv' := [(3, .int (0)), (1, .long ((-4294967296))), (0, .ref a_this)]) C.x C.b dX5_isSorted_5 rfl hl (by decide) rfl (fun ls hl => ?_)
  obtain ⟨y6, hlp, hp⟩ := bd_some hp
  refine wX5_isSorted_b6 a_this a_this_told n_this_told (x_held) (x_told) z0 C FU ((-4294967296), 0) y6 H locs ls hlp hw (lv_sub hl [2, 1, 0] rfl) (fun s6 H locs ls hq hw hl => ?_) (fun z9 hq => by subst hq; exact Option.some.inj hp)
  subst hq
  replace hp := sx_inl hp
  refine lv_iconst (v := 1) C.x C.b dX5_isSorted_53 (by decide) ?_
  obtain rfl := Option.some.inj hp
  exact q_zret C hw (by decide) rfl dX5_isSorted_54
theorem okX5_firstFrom : okY yX5_firstFrom 1 := ⟨by decide +kernel, by decide +kernel, by decide +kernel⟩
set_option maxRecDepth 100000 in
set_option maxHeartbeats 4000000 in
theorem wX5_firstFrom_b2j37 {D : va_G} {y : Nat → ClassId} {p : Program} {l : Launch} {e : Env} {s : State} {m : MethodId} {args : Array Value} {below : List Frame} {meth : Method} {c : Code} {A : Nat → Prop} (a_this a_this_told : Nat) (n_this_told : Nat) (v1 : Int32) (v2 : Int32)   (x_held : Int32) (x_told : Nat → Int64) (o : (Int32) ⊕ ((Int32) ⊕ (Int32))) (z0 : Int32) (C : Cx D y p s m args meth c A RX5 cX5_firstFrom (Cond.code yX5_firstFrom cX5_firstFrom 3 (some .int)) (some .int) 3) (H : Heap) (locs : List Loc) (ls : Array Slot) (hp : pX5_firstFrom_b2j37 n_this_told v2 = some o) (hw : St D A s H locs [(a_this, .inr (5, [.ref a_this_told, .int (x_held)])), (a_this_told, .inl (y 1, n_this_told, .inr (.inl (x_told))))]) (hl : lv_has ls 3 [(0, .ref a_this), (1, .int (v1)), (2, .int (v2))]) (kb : ∀ (z9 : Int32) (H : Heap) (locs : List Loc) (ls : Array Slot), o = .inl z9 → St D A s H locs [(a_this, .inr (5, [.ref a_this_told, .int (x_held)])), (a_this_told, .inl (y 1, n_this_told, .inr (.inl (x_told))))] → lv_has ls 3 [(0, .ref a_this), (1, .int (v1)), (2, .int (z9))] → W p l e { frames := 0, cells := 0, slots := 0, locals := 0 } s m args below meth c H locs 0 0 (QI D s A args below [(a_this, .inr (5, [.ref a_this_told, .int (x_held)])), (a_this_told, .inl (y 1, n_this_told, .inr (.inl (x_told))))] (z0)) (F0 m 2 ls [])) (kx : ∀ (z9 : Int32) (H : Heap) (locs : List Loc) (ls : Array Slot), o = .inr (.inl z9) → St D A s H locs [(a_this, .inr (5, [.ref a_this_told, .int (x_held)])), (a_this_told, .inl (y 1, n_this_told, .inr (.inl (x_told))))] → lv_has ls 3 [] → W p l e { frames := 0, cells := 0, slots := 0, locals := 0 } s m args below meth c H locs 0 0 (QI D s A args below [(a_this, .inr (5, [.ref a_this_told, .int (x_held)])), (a_this_told, .inl (y 1, n_this_told, .inr (.inl (x_told))))] (z0)) (F0 m 43 ls [])) (kr : ∀ z9 : Int32, o = .inr (.inr z9) → z9 = z0) : W p l e { frames := 0, cells := 0, slots := 0, locals := 0 } s m args below meth c H locs 0 0 (QI D s A args below [(a_this, .inr (5, [.ref a_this_told, .int (x_held)])), (a_this_told, .inl (y 1, n_this_told, .inr (.inl (x_told))))] (z0)) (F0 m 37 ls []) := by
  unfold pX5_firstFrom_b2j37 at hp
  refine lv_iinc (v := (v2 + 1)) (lv' := [(2, .int ((v2 + 1))), (0, .ref a_this), (1, .int (v1))]) C.x C.b dX5_firstFrom_37 hl (k := 2) rfl rfl (by decide) rfl (fun ls hl => ?_)
  refine lv_goto (tgt := 2) C.x C.b dX5_firstFrom_40 (by decide) ?_
  exact kb _ H locs ls (Option.some.inj hp).symm hw (lv_sub hl [1, 2, 0] rfl)
set_option maxRecDepth 100000 in
set_option maxHeartbeats 4000000 in
theorem wX5_firstFrom_b2 {D : va_G} {y : Nat → ClassId} {p : Program} {l : Launch} {e : Env} {s : State} {m : MethodId} {args : Array Value} {below : List Frame} {meth : Method} {c : Code} {A : Nat → Prop} (a_this a_this_told : Nat) (n_this_told : Nat) (v1 : Int32) (x_held : Int32) (x_told : Nat → Int64) (z0 : Int32) (C : Cx D y p s m args meth c A RX5 cX5_firstFrom (Cond.code yX5_firstFrom cX5_firstFrom 3 (some .int)) (some .int) 3) : ∀ (k : Nat) (z2 : Int32) (q2 : (Int32) ⊕ (Int32)) (H : Heap) (locs : List Loc) (ls : Array Slot), lp (pX5_firstFrom_b2 n_this_told v1 x_held x_told) k z2 = some q2 → St D A s H locs [(a_this, .inr (5, [.ref a_this_told, .int (x_held)])), (a_this_told, .inl (y 1, n_this_told, .inr (.inl (x_told))))] → lv_has ls 3 [(0, .ref a_this), (1, .int (v1)), (2, .int (z2))] → (∀ (o2 : Int32) (H : Heap) (locs : List Loc) (ls : Array Slot), q2 = .inl o2 → St D A s H locs [(a_this, .inr (5, [.ref a_this_told, .int (x_held)])), (a_this_told, .inl (y 1, n_this_told, .inr (.inl (x_told))))] → lv_has ls 3 [] → W p l e { frames := 0, cells := 0, slots := 0, locals := 0 } s m args below meth c H locs 0 0 (QI D s A args below [(a_this, .inr (5, [.ref a_this_told, .int (x_held)])), (a_this_told, .inl (y 1, n_this_told, .inr (.inl (x_told))))] (z0)) (F0 m 43 ls [])) → (∀ z9 : Int32, q2 = .inr z9 → z9 = z0) → W p l e { frames := 0, cells := 0, slots := 0, locals := 0 } s m args below meth c H locs 0 0 (QI D s A args below [(a_this, .inr (5, [.ref a_this_told, .int (x_held)])), (a_this_told, .inl (y 1, n_this_told, .inr (.inl (x_told))))] (z0)) (F0 m 2 ls []) := by
  intro k
  induction k with
  | zero => intro z2 o9 H locs ls hp; exact lp_zero hp
  | succ k ih =>
    intro z2 q2 H locs ls hlp hw hl kx0 kr0
    obtain ⟨o, hp, hk1, hk2⟩ := lp_succ hlp
    have kb : ∀ (z9 : Int32) (H : Heap) (locs : List Loc) (ls : Array Slot), o = .inl z9 → St D A s H locs [(a_this, .inr (5, [.ref a_this_told, .int (x_held)])), (a_this_told, .inl (y 1, n_this_told, .inr (.inl (x_told))))] → lv_has ls 3 [(0, .ref a_this), (1, .int (v1)), (2, .int (z9))] → W p l e { frames := 0, cells := 0, slots := 0, locals := 0 } s m args below meth c H locs 0 0 (QI D s A args below [(a_this, .inr (5, [.ref a_this_told, .int (x_held)])), (a_this_told, .inl (y 1, n_this_told, .inr (.inl (x_told))))] (z0)) (F0 m 2 ls []) := fun z9 H locs ls ho hw hl => ih z9 q2 H locs ls (hk1 z9 ho) hw hl kx0 kr0
    have kx : ∀ (z9 : Int32) (H : Heap) (locs : List Loc) (ls : Array Slot), o = .inr (.inl z9) → St D A s H locs [(a_this, .inr (5, [.ref a_this_told, .int (x_held)])), (a_this_told, .inl (y 1, n_this_told, .inr (.inl (x_told))))] → lv_has ls 3 [] → W p l e { frames := 0, cells := 0, slots := 0, locals := 0 } s m args below meth c H locs 0 0 (QI D s A args below [(a_this, .inr (5, [.ref a_this_told, .int (x_held)])), (a_this_told, .inl (y 1, n_this_told, .inr (.inl (x_told))))] (z0)) (F0 m 43 ls []) := fun z9 H locs ls ho hw hl => kx0 z9 H locs ls (hk2 _ ho).symm hw hl
    have kr : ∀ z9 : Int32, o = .inr (.inr z9) → z9 = z0 := fun z9 ho => kr0 z9 (hk2 _ ho).symm
    clear ih hk1 hk2 hlp kx0
    unfold pX5_firstFrom_b2 at hp
    refine lv_iload_n C.x C.b dX5_firstFrom_2 rfl (lv_at hl 2 rfl) ?_
    refine lv_aload_n C.x C.b dX5_firstFrom_3 rfl (lv_at hl 0 rfl) ?_
    refine q_get (v := .int (x_held)) (T := TX5) C hw 0 1 rfl rfl rfl inX5 (by decide) kw154 rfl dX5_firstFrom_4 ?_
    refine lv_icmp_ge (tgt := 43) C.x C.b dX5_firstFrom_7 (by decide) (fun c9 => ?_) (fun c9 => ?_)
    · replace hp := it_t c9 hp
      exact kx _ H locs ls (Option.some.inj hp).symm hw (lv_sub hl [] rfl)
    · replace hp := it_f c9 hp
      refine lv_aload_n C.x C.b dX5_firstFrom_10 rfl (lv_at hl 0 rfl) ?_
      refine q_get (v := .ref a_this_told) (T := TX5) C hw 0 0 rfl rfl rfl inX5 (by decide) kw152 rfl dX5_firstFrom_11 ?_
      refine lv_iload_n C.x C.b dX5_firstFrom_14 rfl (lv_at hl 2 rfl) ?_
      obtain ⟨hi, hp⟩ := ck_some hp
      refine q_lald C hw 1 rfl hi dX5_firstFrom_15 ?_
      refine lv_ldc2 C.x C.b C.ow (C.ts _ (List.mem_cons_of_mem _ kw705)) dX5_firstFrom_16 ?_
      refine W.lcmp C.x C.b dX5_firstFrom_19 ?_
      refine lv_if_eq (tgt := 37) C.x C.b dX5_firstFrom_20 (by decide) (fun c9 => ?_) (fun c9 => ?_)
      · replace hp := it_t c9 hp
        exact wX5_firstFrom_b2j37 a_this a_this_told n_this_told (v1) (z2) (x_held) (x_told) o z0 C H locs ls hp hw (lv_sub hl [0, 1, 2] rfl) kb kx kr
      · replace hp := it_f c9 hp
        refine lv_aload_n C.x C.b dX5_firstFrom_23 rfl (lv_at hl 0 rfl) ?_
        refine q_get (v := .ref a_this_told) (T := TX5) C hw 0 0 rfl rfl rfl inX5 (by decide) kw152 rfl dX5_firstFrom_24 ?_
        refine lv_iload_n C.x C.b dX5_firstFrom_27 rfl (lv_at hl 2 rfl) ?_
        obtain ⟨hi, hp⟩ := ck_some hp
        refine q_lald C hw 1 rfl hi dX5_firstFrom_28 ?_
        refine lv_iload_n C.x C.b dX5_firstFrom_29 rfl (lv_at hl 1 rfl) ?_
        refine lv_i2l C.x C.b dX5_firstFrom_30 rfl ?_
        refine W.lcmp C.x C.b dX5_firstFrom_31 ?_
        refine lv_if_lt (tgt := 37) C.x C.b dX5_firstFrom_32 (by decide) (fun c9 => ?_) (fun c9 => ?_)
        · replace hp := it_t c9 hp
          exact wX5_firstFrom_b2j37 a_this a_this_told n_this_told (v1) (z2) (x_held) (x_told) o z0 C H locs ls hp hw (lv_sub hl [0, 1, 2] rfl) kb kx kr
        · replace hp := it_f c9 hp
          refine lv_iload_n C.x C.b dX5_firstFrom_35 rfl (lv_at hl 2 rfl) ?_
          obtain rfl := kr _ (Option.some.inj hp).symm
          exact q_iret C hw rfl dX5_firstFrom_36
set_option maxRecDepth 100000 in
set_option maxHeartbeats 4000000 in
theorem tX5_firstFrom (l : Launch) (D : va_G) (y : Nat → ClassId) (a_this a_this_told : Nat) (n_this_told : Nat) (v1 : Int32) (x_held : Int32) (x_told : Nat → Int64) (z0 : Int32) (hp : pX5_firstFrom n_this_told v1 x_held x_told = some z0) : CI D y l yX5_firstFrom (Cond.code yX5_firstFrom cX5_firstFrom 3 (some .int) :: tbG) { frames := 0, cells := 0, slots := 0, locals := 0 } [.ref a_this, .int (v1)] [(a_this, .inr (5, [.ref a_this_told, .int (x_held)])), (a_this_told, .inl (y 1, n_this_told, .inr (.inl (x_told))))] [(a_this, .inr (5, [.ref a_this_told, .int (x_held)])), (a_this_told, .inl (y 1, n_this_told, .inr (.inl (x_told))))] (z0) := by
  refine CI.of (own := RX5) (by decide) rfl (Nat.le_of_ble_eq_true rfl) ?_
  intro p e s m args below meth c A H locs ls C hw hl
  have hl : lv_has ls 3 [(0, .ref a_this), (1, .int (v1))] := hl
  unfold pX5_firstFrom at hp
  refine lv_iconst (v := 0) C.x C.b dX5_firstFrom_0 (by decide) ?_
  refine lv_istore_n (lv' := [(2, .int (0)), (0, .ref a_this), (1, .int (v1))]) C.x C.b dX5_firstFrom_1 rfl hl (by decide) rfl (fun ls hl => ?_)
  obtain ⟨y2, hlp, hp⟩ := bd_some hp
  refine wX5_firstFrom_b2 a_this a_this_told n_this_told (v1) (x_held) (x_told) z0 C FU 0 y2 H locs ls hlp hw (lv_sub hl [1, 2, 0] rfl) (fun s2 H locs ls hq hw hl => ?_) (fun z9 hq => by subst hq; exact Option.some.inj hp)
  subst hq
  replace hp := sx_inl hp
  refine lv_iconst (v := (-1)) C.x C.b dX5_firstFrom_43 (by decide) ?_
  obtain rfl := Option.some.inj hp
  exact q_iret C hw rfl dX5_firstFrom_44
theorem okX5_together : okY yX5_together 2 := ⟨by decide +kernel, by decide +kernel, by decide +kernel⟩
set_option maxRecDepth 100000 in
set_option maxHeartbeats 4000000 in
theorem wX5_together_b5j30 {D : va_G} {y : Nat → ClassId} {p : Program} {l : Launch} {e : Env} {s : State} {m : MethodId} {args : Array Value} {below : List Frame} {meth : Method} {c : Code} {A : Nat → Prop} (a_this a_this_told : Nat) (n_this_told : Nat) (v2 : Int32) (v3 : Int64) (v5 : Int32)   (x_held : Int32) (x_told : Nat → Int64) (o : (Int64 × Int32) ⊕ (Int64 × Int32)) (C : Cx D y p s m args meth c A RX5 cX5_together (Cond.code yX5_together cX5_together 6 (some .long)) (some .long) 6) {Q : State → Prop} (H : Heap) (locs : List Loc) (ls : Array Slot) (hp : pX5_together_b5j30 n_this_told v3 v5 = some o) (hw : St D A s H locs [(a_this, .inr (5, [.ref a_this_told, .int (x_held)])), (a_this_told, .inl (y 1, n_this_told, .inr (.inl (x_told))))]) (hl : lv_has ls 6 [(0, .ref a_this), (2, .int (v2)), (3, .long (v3)), (5, .int (v5))]) (kb : ∀ (z9 : Int64 × Int32) (H : Heap) (locs : List Loc) (ls : Array Slot), o = .inl z9 → St D A s H locs [(a_this, .inr (5, [.ref a_this_told, .int (x_held)])), (a_this_told, .inl (y 1, n_this_told, .inr (.inl (x_told))))] → lv_has ls 6 [(0, .ref a_this), (2, .int (v2)), (3, .long (z9.1)), (5, .int (z9.2))] → W p l e { frames := 2, cells := 0, slots := 0, locals := 42 } s m args below meth c H locs 0 0 Q (F0 m 5 ls [])) (kx : ∀ (z9 : Int64 × Int32) (H : Heap) (locs : List Loc) (ls : Array Slot), o = .inr z9 → St D A s H locs [(a_this, .inr (5, [.ref a_this_told, .int (x_held)])), (a_this_told, .inl (y 1, n_this_told, .inr (.inl (x_told))))] → lv_has ls 6 [(3, .long (z9.1))] → W p l e { frames := 2, cells := 0, slots := 0, locals := 42 } s m args below meth c H locs 0 0 Q (F0 m 36 ls [])) : W p l e { frames := 2, cells := 0, slots := 0, locals := 42 } s m args below meth c H locs 0 0 Q (F0 m 30 ls []) := by
  unfold pX5_together_b5j30 at hp
  refine lv_iinc (v := (v5 + 1)) (lv' := [(5, .int ((v5 + 1))), (0, .ref a_this), (2, .int (v2)), (3, .long (v3))]) C.x C.b dX5_together_30 hl (k := 3) rfl rfl (by decide) rfl (fun ls hl => ?_)
  refine lv_goto (tgt := 5) C.x C.b dX5_together_33 (by decide) ?_
  exact kb _ H locs ls (Option.some.inj hp).symm hw (lv_sub hl [1, 2, 3, 0] rfl)
set_option maxRecDepth 100000 in
set_option maxHeartbeats 4000000 in
theorem wX5_together_b5 {D : va_G} {y : Nat → ClassId} {p : Program} {l : Launch} {e : Env} {s : State} {m : MethodId} {args : Array Value} {below : List Frame} {meth : Method} {c : Code} {A : Nat → Prop} (a_this a_this_told : Nat) (n_this_told : Nat) (v2 : Int32) (x_held : Int32) (x_told : Nat → Int64)  (C : Cx D y p s m args meth c A RX5 cX5_together (Cond.code yX5_together cX5_together 6 (some .long)) (some .long) 6) {Q : State → Prop} : ∀ (k : Nat) (z5 : Int64 × Int32) (o5 : Int64 × Int32) (H : Heap) (locs : List Loc) (ls : Array Slot), lp (pX5_together_b5 n_this_told v2 x_held x_told) k z5 = some o5 → St D A s H locs [(a_this, .inr (5, [.ref a_this_told, .int (x_held)])), (a_this_told, .inl (y 1, n_this_told, .inr (.inl (x_told))))] → lv_has ls 6 [(0, .ref a_this), (2, .int (v2)), (3, .long (z5.1)), (5, .int (z5.2))] → (∀ (H : Heap) (locs : List Loc) (ls : Array Slot), St D A s H locs [(a_this, .inr (5, [.ref a_this_told, .int (x_held)])), (a_this_told, .inl (y 1, n_this_told, .inr (.inl (x_told))))] → lv_has ls 6 [(3, .long (o5.1))] → W p l e { frames := 2, cells := 0, slots := 0, locals := 42 } s m args below meth c H locs 0 0 Q (F0 m 36 ls [])) → W p l e { frames := 2, cells := 0, slots := 0, locals := 42 } s m args below meth c H locs 0 0 Q (F0 m 5 ls []) := by
  intro k
  induction k with
  | zero => intro z5 o9 H locs ls hp; exact lp_zero hp
  | succ k ih =>
    intro z5 o5 H locs ls hlp hw hl kx0
    obtain ⟨o, hp, hk1, hk2⟩ := lp_succ hlp
    have kb : ∀ (z9 : Int64 × Int32) (H : Heap) (locs : List Loc) (ls : Array Slot), o = .inl z9 → St D A s H locs [(a_this, .inr (5, [.ref a_this_told, .int (x_held)])), (a_this_told, .inl (y 1, n_this_told, .inr (.inl (x_told))))] → lv_has ls 6 [(0, .ref a_this), (2, .int (v2)), (3, .long (z9.1)), (5, .int (z9.2))] → W p l e { frames := 2, cells := 0, slots := 0, locals := 42 } s m args below meth c H locs 0 0 Q (F0 m 5 ls []) := fun z9 H locs ls ho hw hl => ih z9 o5 H locs ls (hk1 z9 ho) hw hl kx0
    have kx : ∀ (z9 : Int64 × Int32) (H : Heap) (locs : List Loc) (ls : Array Slot), o = .inr z9 → St D A s H locs [(a_this, .inr (5, [.ref a_this_told, .int (x_held)])), (a_this_told, .inl (y 1, n_this_told, .inr (.inl (x_told))))] → lv_has ls 6 [(3, .long (z9.1))] → W p l e { frames := 2, cells := 0, slots := 0, locals := 42 } s m args below meth c H locs 0 0 Q (F0 m 36 ls []) := fun z9 H locs ls ho hw hl => by obtain rfl := hk2 z9 ho; exact kx0 H locs ls hw hl
    clear ih hk1 hk2 hlp kx0
    unfold pX5_together_b5 at hp
    refine lv_iload C.x C.b dX5_together_5 (lv_at hl 3 rfl) ?_
    refine lv_iload_n C.x C.b dX5_together_7 rfl (lv_at hl 1 rfl) ?_
    refine lv_icmp_ge (tgt := 36) C.x C.b dX5_together_8 (by decide) (fun c9 => ?_) (fun c9 => ?_)
    · replace hp := it_t c9 hp
      exact kx _ H locs ls (Option.some.inj hp).symm hw (lv_sub hl [2] rfl)
    · replace hp := it_f c9 hp
      refine lv_aload_n C.x C.b dX5_together_11 rfl (lv_at hl 0 rfl) ?_
      refine lv_iload C.x C.b dX5_together_12 (lv_at hl 3 rfl) ?_
      obtain ⟨k14, hk, hp⟩ := bd_some hp
      refine q_aftZ (wc := [(a_this, .inr (5, [.ref a_this_told, .int (x_held)])), (a_this_told, .inl (y 1, n_this_told, .inr (.inl (x_told))))]) (wr := []) (w1 := [(a_this, .inr (5, [.ref a_this_told, .int (x_held)])), (a_this_told, .inl (y 1, n_this_told, .inr (.inl (x_told))))]) (w2 := [(a_this, .inr (5, [.ref a_this_told, .int (x_held)])), (a_this_told, .inl (y 1, n_this_told, .inr (.inl (x_told))))]) C hw [0, 1] [] [0, 1] rfl rfl (by decide) (by decide) (by decide) rfl (q_runV (As := [.int (z5.2)]) (rest := []) (q0 := 0) (ci := 5) C hw (tX5_isFull l D y a_this a_this_told n_this_told z5.2 x_held x_told k14 hk H.size) [0, 1] rfl (by decide) rfl rfl kw730 kw731 kw732 kw115 kw733 okX5_isFull ⟨rfl, rfl⟩ ⟨Nat.le_of_ble_eq_true rfl, Nat.le_of_ble_eq_true rfl⟩ rfl hl.1 rfl (Nat.le_of_ble_eq_true rfl) dX5_together_14 ⟨Nat.zero_le _, Nat.zero_le _⟩) (fun H locs hz14 hw => ?_)
      refine lv_if_eq (tgt := 30) C.x C.b dX5_together_17 (by decide) (fun c9 => ?_) (fun c9 => ?_)
      · replace hp := it_t c9 hp
        exact wX5_together_b5j30 a_this a_this_told n_this_told (v2) (z5.1) (z5.2) (x_held) (x_told) o C H locs ls hp hw (lv_sub hl [0, 1, 2, 3] rfl) kb kx
      · replace hp := it_f c9 hp
        refine lv_lload_n C.x C.b dX5_together_20 rfl (lv_at hl 2 rfl) ?_
        refine lv_aload_n C.x C.b dX5_together_21 rfl (lv_at hl 0 rfl) ?_
        refine q_get (v := .ref a_this_told) (T := TX5) C hw 0 0 rfl rfl rfl inX5 (by decide) kw152 rfl dX5_together_22 ?_
        refine lv_iload C.x C.b dX5_together_25 (lv_at hl 3 rfl) ?_
        obtain ⟨hi, hp⟩ := ck_some hp
        refine q_lald C hw 1 rfl hi dX5_together_27 ?_
        refine lv_ladd C.x C.b dX5_together_28 ?_
        refine lv_lstore_n (lv' := [(3, .long ((z5.1 + (x_told z5.2.toNatClampNeg)))), (0, .ref a_this), (2, .int (v2)), (5, .int (z5.2))]) C.x C.b dX5_together_29 rfl hl (by decide) rfl (fun ls hl => ?_)
        exact wX5_together_b5j30 a_this a_this_told n_this_told (v2) ((z5.1 + (x_told z5.2.toNatClampNeg))) (z5.2) (x_held) (x_told) o C H locs ls hp hw (lv_sub hl [1, 2, 0, 3] rfl) kb kx
set_option maxRecDepth 100000 in
set_option maxHeartbeats 4000000 in
theorem tX5_together (l : Launch) (D : va_G) (y : Nat → ClassId) (a_this a_this_told : Nat) (n_this_told : Nat) (v1 : Int32) (v2 : Int32) (x_held : Int32) (x_told : Nat → Int64) (z0 : Int64) (hp : pX5_together n_this_told v1 v2 x_held x_told = some z0) : CL D y l yX5_together (Cond.code yX5_together cX5_together 6 (some .long) :: tbG) { frames := 2, cells := 0, slots := 0, locals := 42 } [.ref a_this, .int (v1), .int (v2)] [(a_this, .inr (5, [.ref a_this_told, .int (x_held)])), (a_this_told, .inl (y 1, n_this_told, .inr (.inl (x_told))))] [(a_this, .inr (5, [.ref a_this_told, .int (x_held)])), (a_this_told, .inl (y 1, n_this_told, .inr (.inl (x_told))))] (z0) := by
  refine CL.of (own := RX5) (by decide) rfl (Nat.le_of_ble_eq_true rfl) ?_
  intro p e s m args below meth c A H locs ls C hw hl
  have hl : lv_has ls 6 [(0, .ref a_this), (1, .int (v1)), (2, .int (v2))] := hl
  unfold pX5_together at hp
  refine lv_lconst (v := 0) C.x C.b dX5_together_0 (by decide) ?_
  refine lv_lstore_n (lv' := [(3, .long (0)), (0, .ref a_this), (1, .int (v1)), (2, .int (v2))]) C.x C.b dX5_together_1 rfl hl (by decide) rfl (fun ls hl => ?_)
  refine lv_iload_n C.x C.b dX5_together_2 rfl (lv_at hl 2 rfl) ?_
  refine lv_istore (lv' := [(5, .int (v1)), (3, .long (0)), (0, .ref a_this), (1, .int (v1)), (2, .int (v2))]) C.x C.b dX5_together_3 hl (by decide) rfl (fun ls hl => ?_)
  obtain ⟨y5, hlp, hp⟩ := bd_some hp
  refine wX5_together_b5 a_this a_this_told n_this_told (v2) (x_held) (x_told) C FU (0, v1) y5 H locs ls hlp hw (lv_sub hl [2, 4, 1, 0] rfl) (fun H locs ls hw hl => ?_)
  refine lv_lload_n C.x C.b dX5_together_36 rfl (lv_at hl 0 rfl) ?_
  obtain rfl := Option.some.inj hp
  exact q_lret C hw rfl dX5_together_37
theorem okX5_howManyWithin : okY yX5_howManyWithin 2 := ⟨by decide +kernel, by decide +kernel, by decide +kernel⟩
set_option maxRecDepth 100000 in
set_option maxHeartbeats 4000000 in
theorem wX5_howManyWithin_b5j43 {D : va_G} {y : Nat → ClassId} {p : Program} {l : Launch} {e : Env} {s : State} {m : MethodId} {args : Array Value} {below : List Frame} {meth : Method} {c : Code} {A : Nat → Prop} (a_this a_this_told : Nat) (n_this_told : Nat) (v1 : Int32) (v2 : Int32) (v3 : Int32) (v4 : Int32)   (x_held : Int32) (x_told : Nat → Int64) (o : (Int32 × Int32) ⊕ (Int32 × Int32)) (C : Cx D y p s m args meth c A RX5 cX5_howManyWithin (Cond.code yX5_howManyWithin cX5_howManyWithin 5 (some .int)) (some .int) 5) {Q : State → Prop} (H : Heap) (locs : List Loc) (ls : Array Slot) (hp : pX5_howManyWithin_b5j43 n_this_told v3 v4 = some o) (hw : St D A s H locs [(a_this, .inr (5, [.ref a_this_told, .int (x_held)])), (a_this_told, .inl (y 1, n_this_told, .inr (.inl (x_told))))]) (hl : lv_has ls 5 [(0, .ref a_this), (1, .int (v1)), (2, .int (v2)), (3, .int (v3)), (4, .int (v4))]) (kb : ∀ (z9 : Int32 × Int32) (H : Heap) (locs : List Loc) (ls : Array Slot), o = .inl z9 → St D A s H locs [(a_this, .inr (5, [.ref a_this_told, .int (x_held)])), (a_this_told, .inl (y 1, n_this_told, .inr (.inl (x_told))))] → lv_has ls 5 [(0, .ref a_this), (1, .int (v1)), (2, .int (v2)), (3, .int (z9.1)), (4, .int (z9.2))] → W p l e { frames := 0, cells := 0, slots := 0, locals := 0 } s m args below meth c H locs 0 0 Q (F0 m 5 ls [])) (kx : ∀ (z9 : Int32 × Int32) (H : Heap) (locs : List Loc) (ls : Array Slot), o = .inr z9 → St D A s H locs [(a_this, .inr (5, [.ref a_this_told, .int (x_held)])), (a_this_told, .inl (y 1, n_this_told, .inr (.inl (x_told))))] → lv_has ls 5 [(3, .int (z9.1))] → W p l e { frames := 0, cells := 0, slots := 0, locals := 0 } s m args below meth c H locs 0 0 Q (F0 m 49 ls [])) : W p l e { frames := 0, cells := 0, slots := 0, locals := 0 } s m args below meth c H locs 0 0 Q (F0 m 43 ls []) := by
  unfold pX5_howManyWithin_b5j43 at hp
  refine lv_iinc (v := (v4 + 1)) (lv' := [(4, .int ((v4 + 1))), (0, .ref a_this), (1, .int (v1)), (2, .int (v2)), (3, .int (v3))]) C.x C.b dX5_howManyWithin_43 hl (k := 4) rfl rfl (by decide) rfl (fun ls hl => ?_)
  refine lv_goto (tgt := 5) C.x C.b dX5_howManyWithin_46 (by decide) ?_
  exact kb _ H locs ls (Option.some.inj hp).symm hw (lv_sub hl [1, 2, 3, 4, 0] rfl)
set_option maxRecDepth 100000 in
set_option maxHeartbeats 4000000 in
theorem wX5_howManyWithin_b5 {D : va_G} {y : Nat → ClassId} {p : Program} {l : Launch} {e : Env} {s : State} {m : MethodId} {args : Array Value} {below : List Frame} {meth : Method} {c : Code} {A : Nat → Prop} (a_this a_this_told : Nat) (n_this_told : Nat) (v1 : Int32) (v2 : Int32) (x_held : Int32) (x_told : Nat → Int64)  (C : Cx D y p s m args meth c A RX5 cX5_howManyWithin (Cond.code yX5_howManyWithin cX5_howManyWithin 5 (some .int)) (some .int) 5) {Q : State → Prop} : ∀ (k : Nat) (z5 : Int32 × Int32) (o5 : Int32 × Int32) (H : Heap) (locs : List Loc) (ls : Array Slot), lp (pX5_howManyWithin_b5 n_this_told v1 v2 x_held x_told) k z5 = some o5 → St D A s H locs [(a_this, .inr (5, [.ref a_this_told, .int (x_held)])), (a_this_told, .inl (y 1, n_this_told, .inr (.inl (x_told))))] → lv_has ls 5 [(0, .ref a_this), (1, .int (v1)), (2, .int (v2)), (3, .int (z5.1)), (4, .int (z5.2))] → (∀ (H : Heap) (locs : List Loc) (ls : Array Slot), St D A s H locs [(a_this, .inr (5, [.ref a_this_told, .int (x_held)])), (a_this_told, .inl (y 1, n_this_told, .inr (.inl (x_told))))] → lv_has ls 5 [(3, .int (o5.1))] → W p l e { frames := 0, cells := 0, slots := 0, locals := 0 } s m args below meth c H locs 0 0 Q (F0 m 49 ls [])) → W p l e { frames := 0, cells := 0, slots := 0, locals := 0 } s m args below meth c H locs 0 0 Q (F0 m 5 ls []) := by
  intro k
  induction k with
  | zero => intro z5 o9 H locs ls hp; exact lp_zero hp
  | succ k ih =>
    intro z5 o5 H locs ls hlp hw hl kx0
    obtain ⟨o, hp, hk1, hk2⟩ := lp_succ hlp
    have kb : ∀ (z9 : Int32 × Int32) (H : Heap) (locs : List Loc) (ls : Array Slot), o = .inl z9 → St D A s H locs [(a_this, .inr (5, [.ref a_this_told, .int (x_held)])), (a_this_told, .inl (y 1, n_this_told, .inr (.inl (x_told))))] → lv_has ls 5 [(0, .ref a_this), (1, .int (v1)), (2, .int (v2)), (3, .int (z9.1)), (4, .int (z9.2))] → W p l e { frames := 0, cells := 0, slots := 0, locals := 0 } s m args below meth c H locs 0 0 Q (F0 m 5 ls []) := fun z9 H locs ls ho hw hl => ih z9 o5 H locs ls (hk1 z9 ho) hw hl kx0
    have kx : ∀ (z9 : Int32 × Int32) (H : Heap) (locs : List Loc) (ls : Array Slot), o = .inr z9 → St D A s H locs [(a_this, .inr (5, [.ref a_this_told, .int (x_held)])), (a_this_told, .inl (y 1, n_this_told, .inr (.inl (x_told))))] → lv_has ls 5 [(3, .int (z9.1))] → W p l e { frames := 0, cells := 0, slots := 0, locals := 0 } s m args below meth c H locs 0 0 Q (F0 m 49 ls []) := fun z9 H locs ls ho hw hl => by obtain rfl := hk2 z9 ho; exact kx0 H locs ls hw hl
    clear ih hk1 hk2 hlp kx0
    unfold pX5_howManyWithin_b5 at hp
    refine lv_iload C.x C.b dX5_howManyWithin_5 (lv_at hl 4 rfl) ?_
    refine lv_aload_n C.x C.b dX5_howManyWithin_7 rfl (lv_at hl 0 rfl) ?_
    refine q_get (v := .int (x_held)) (T := TX5) C hw 0 1 rfl rfl rfl inX5 (by decide) kw154 rfl dX5_howManyWithin_8 ?_
    refine lv_icmp_ge (tgt := 49) C.x C.b dX5_howManyWithin_11 (by decide) (fun c9 => ?_) (fun c9 => ?_)
    · replace hp := it_t c9 hp
      exact kx _ H locs ls (Option.some.inj hp).symm hw (lv_sub hl [3] rfl)
    · replace hp := it_f c9 hp
      refine lv_aload_n C.x C.b dX5_howManyWithin_14 rfl (lv_at hl 0 rfl) ?_
      refine q_get (v := .ref a_this_told) (T := TX5) C hw 0 0 rfl rfl rfl inX5 (by decide) kw152 rfl dX5_howManyWithin_15 ?_
      refine lv_iload C.x C.b dX5_howManyWithin_18 (lv_at hl 4 rfl) ?_
      obtain ⟨hi, hp⟩ := ck_some hp
      refine q_lald C hw 1 rfl hi dX5_howManyWithin_20 ?_
      refine lv_iload_n C.x C.b dX5_howManyWithin_21 rfl (lv_at hl 1 rfl) ?_
      refine lv_i2l C.x C.b dX5_howManyWithin_22 rfl ?_
      refine W.lcmp C.x C.b dX5_howManyWithin_23 ?_
      refine lv_if_lt (tgt := 43) C.x C.b dX5_howManyWithin_24 (by decide) (fun c9 => ?_) (fun c9 => ?_)
      · replace hp := it_t c9 hp
        exact wX5_howManyWithin_b5j43 a_this a_this_told n_this_told (v1) (v2) (z5.1) (z5.2) (x_held) (x_told) o C H locs ls hp hw (lv_sub hl [0, 1, 2, 3, 4] rfl) kb kx
      · replace hp := it_f c9 hp
        refine lv_aload_n C.x C.b dX5_howManyWithin_27 rfl (lv_at hl 0 rfl) ?_
        refine q_get (v := .ref a_this_told) (T := TX5) C hw 0 0 rfl rfl rfl inX5 (by decide) kw152 rfl dX5_howManyWithin_28 ?_
        refine lv_iload C.x C.b dX5_howManyWithin_31 (lv_at hl 4 rfl) ?_
        obtain ⟨hi, hp⟩ := ck_some hp
        refine q_lald C hw 1 rfl hi dX5_howManyWithin_33 ?_
        refine lv_iload_n C.x C.b dX5_howManyWithin_34 rfl (lv_at hl 2 rfl) ?_
        refine lv_i2l C.x C.b dX5_howManyWithin_35 rfl ?_
        refine W.lcmp C.x C.b dX5_howManyWithin_36 ?_
        refine lv_if_gt (tgt := 43) C.x C.b dX5_howManyWithin_37 (by decide) (fun c9 => ?_) (fun c9 => ?_)
        · replace hp := it_t c9 hp
          exact wX5_howManyWithin_b5j43 a_this a_this_told n_this_told (v1) (v2) (z5.1) (z5.2) (x_held) (x_told) o C H locs ls hp hw (lv_sub hl [0, 1, 2, 3, 4] rfl) kb kx
        · replace hp := it_f c9 hp
          refine lv_iinc (v := (z5.1 + 1)) (lv' := [(3, .int ((z5.1 + 1))), (0, .ref a_this), (1, .int (v1)), (2, .int (v2)), (4, .int (z5.2))]) C.x C.b dX5_howManyWithin_40 hl (k := 3) rfl rfl (by decide) rfl (fun ls hl => ?_)
          exact wX5_howManyWithin_b5j43 a_this a_this_told n_this_told (v1) (v2) ((z5.1 + 1)) (z5.2) (x_held) (x_told) o C H locs ls hp hw (lv_sub hl [1, 2, 3, 0, 4] rfl) kb kx
set_option maxRecDepth 100000 in
set_option maxHeartbeats 4000000 in
theorem tX5_howManyWithin (l : Launch) (D : va_G) (y : Nat → ClassId) (a_this a_this_told : Nat) (n_this_told : Nat) (v1 : Int32) (v2 : Int32) (x_held : Int32) (x_told : Nat → Int64) (z0 : Int32) (hp : pX5_howManyWithin n_this_told v1 v2 x_held x_told = some z0) : CI D y l yX5_howManyWithin (Cond.code yX5_howManyWithin cX5_howManyWithin 5 (some .int) :: tbG) { frames := 0, cells := 0, slots := 0, locals := 0 } [.ref a_this, .int (v1), .int (v2)] [(a_this, .inr (5, [.ref a_this_told, .int (x_held)])), (a_this_told, .inl (y 1, n_this_told, .inr (.inl (x_told))))] [(a_this, .inr (5, [.ref a_this_told, .int (x_held)])), (a_this_told, .inl (y 1, n_this_told, .inr (.inl (x_told))))] (z0) := by
  refine CI.of (own := RX5) (by decide) rfl (Nat.le_of_ble_eq_true rfl) ?_
  intro p e s m args below meth c A H locs ls C hw hl
  have hl : lv_has ls 5 [(0, .ref a_this), (1, .int (v1)), (2, .int (v2))] := hl
  unfold pX5_howManyWithin at hp
  refine lv_iconst (v := 0) C.x C.b dX5_howManyWithin_0 (by decide) ?_
  refine lv_istore_n (lv' := [(3, .int (0)), (0, .ref a_this), (1, .int (v1)), (2, .int (v2))]) C.x C.b dX5_howManyWithin_1 rfl hl (by decide) rfl (fun ls hl => ?_)
  refine lv_iconst (v := 0) C.x C.b dX5_howManyWithin_2 (by decide) ?_
  refine lv_istore (lv' := [(4, .int (0)), (3, .int (0)), (0, .ref a_this), (1, .int (v1)), (2, .int (v2))]) C.x C.b dX5_howManyWithin_3 hl (by decide) rfl (fun ls hl => ?_)
  obtain ⟨y5, hlp, hp⟩ := bd_some hp
  refine wX5_howManyWithin_b5 a_this a_this_told n_this_told (v1) (v2) (x_held) (x_told) C FU (0, 0) y5 H locs ls hlp hw (lv_sub hl [2, 3, 4, 1, 0] rfl) (fun H locs ls hw hl => ?_)
  refine lv_iload_n C.x C.b dX5_howManyWithin_49 rfl (lv_at hl 0 rfl) ?_
  obtain rfl := Option.some.inj hp
  exact q_iret C hw rfl dX5_howManyWithin_50
theorem okX5_ranksAs : okY yX5_ranksAs 2 := ⟨by decide +kernel, by decide +kernel, by decide +kernel⟩
set_option maxRecDepth 100000 in
set_option maxHeartbeats 4000000 in
theorem wX5_ranksAs_b9j51 {D : va_G} {y : Nat → ClassId} {p : Program} {l : Launch} {e : Env} {s : State} {m : MethodId} {args : Array Value} {below : List Frame} {meth : Method} {c : Code} {A : Nat → Prop} (a_this a_this_told : Nat) (n_this_told : Nat) (v1 : Int64) (v3 : Int32) (v4 : Int32) (v5 : Int32) (v6 : Int32)   (x_held : Int32) (x_told : Nat → Int64) (o : (Int32 × Int32 × Int32) ⊕ (Int32 × Int32 × Int32)) (C : Cx D y p s m args meth c A RX5 cX5_ranksAs (Cond.code yX5_ranksAs cX5_ranksAs 7 (some .boolean)) (some .boolean) 7) {Q : State → Prop} (H : Heap) (locs : List Loc) (ls : Array Slot) (hp : pX5_ranksAs_b9j51 n_this_told v4 v5 v6 = some o) (hw : St D A s H locs [(a_this, .inr (5, [.ref a_this_told, .int (x_held)])), (a_this_told, .inl (y 1, n_this_told, .inr (.inl (x_told))))]) (hl : lv_has ls 7 [(0, .ref a_this), (1, .long (v1)), (3, .int (v3)), (4, .int (v4)), (5, .int (v5)), (6, .int (v6))]) (kb : ∀ (z9 : Int32 × Int32 × Int32) (H : Heap) (locs : List Loc) (ls : Array Slot), o = .inl z9 → St D A s H locs [(a_this, .inr (5, [.ref a_this_told, .int (x_held)])), (a_this_told, .inl (y 1, n_this_told, .inr (.inl (x_told))))] → lv_has ls 7 [(0, .ref a_this), (1, .long (v1)), (3, .int (v3)), (4, .int (z9.1)), (5, .int (z9.2.1)), (6, .int (z9.2.2))] → W p l e { frames := 0, cells := 0, slots := 0, locals := 0 } s m args below meth c H locs 0 0 Q (F0 m 9 ls [])) (kx : ∀ (z9 : Int32 × Int32 × Int32) (H : Heap) (locs : List Loc) (ls : Array Slot), o = .inr z9 → St D A s H locs [(a_this, .inr (5, [.ref a_this_told, .int (x_held)])), (a_this_told, .inl (y 1, n_this_told, .inr (.inl (x_told))))] → lv_has ls 7 [(3, .int (v3)), (4, .int (z9.1)), (5, .int (z9.2.1))] → W p l e { frames := 0, cells := 0, slots := 0, locals := 0 } s m args below meth c H locs 0 0 Q (F0 m 57 ls [])) : W p l e { frames := 0, cells := 0, slots := 0, locals := 0 } s m args below meth c H locs 0 0 Q (F0 m 51 ls []) := by
  unfold pX5_ranksAs_b9j51 at hp
  refine lv_iinc (v := (v6 + 1)) (lv' := [(6, .int ((v6 + 1))), (0, .ref a_this), (1, .long (v1)), (3, .int (v3)), (4, .int (v4)), (5, .int (v5))]) C.x C.b dX5_ranksAs_51 hl (k := 5) rfl rfl (by decide) rfl (fun ls hl => ?_)
  refine lv_goto (tgt := 9) C.x C.b dX5_ranksAs_54 (by decide) ?_
  exact kb _ H locs ls (Option.some.inj hp).symm hw (lv_sub hl [1, 2, 3, 4, 5, 0] rfl)
set_option maxRecDepth 100000 in
set_option maxHeartbeats 4000000 in
theorem wX5_ranksAs_b9 {D : va_G} {y : Nat → ClassId} {p : Program} {l : Launch} {e : Env} {s : State} {m : MethodId} {args : Array Value} {below : List Frame} {meth : Method} {c : Code} {A : Nat → Prop} (a_this a_this_told : Nat) (n_this_told : Nat) (v1 : Int64) (v3 : Int32) (x_held : Int32) (x_told : Nat → Int64)  (C : Cx D y p s m args meth c A RX5 cX5_ranksAs (Cond.code yX5_ranksAs cX5_ranksAs 7 (some .boolean)) (some .boolean) 7) {Q : State → Prop} : ∀ (k : Nat) (z9 : Int32 × Int32 × Int32) (o9 : Int32 × Int32 × Int32) (H : Heap) (locs : List Loc) (ls : Array Slot), lp (pX5_ranksAs_b9 n_this_told v1 x_held x_told) k z9 = some o9 → St D A s H locs [(a_this, .inr (5, [.ref a_this_told, .int (x_held)])), (a_this_told, .inl (y 1, n_this_told, .inr (.inl (x_told))))] → lv_has ls 7 [(0, .ref a_this), (1, .long (v1)), (3, .int (v3)), (4, .int (z9.1)), (5, .int (z9.2.1)), (6, .int (z9.2.2))] → (∀ (H : Heap) (locs : List Loc) (ls : Array Slot), St D A s H locs [(a_this, .inr (5, [.ref a_this_told, .int (x_held)])), (a_this_told, .inl (y 1, n_this_told, .inr (.inl (x_told))))] → lv_has ls 7 [(3, .int (v3)), (4, .int (o9.1)), (5, .int (o9.2.1))] → W p l e { frames := 0, cells := 0, slots := 0, locals := 0 } s m args below meth c H locs 0 0 Q (F0 m 57 ls [])) → W p l e { frames := 0, cells := 0, slots := 0, locals := 0 } s m args below meth c H locs 0 0 Q (F0 m 9 ls []) := by
  intro k
  induction k with
  | zero => intro z9 o9 H locs ls hp; exact lp_zero hp
  | succ k ih =>
    intro z9 o9 H locs ls hlp hw hl kx0
    obtain ⟨o, hp, hk1, hk2⟩ := lp_succ hlp
    have kb : ∀ (z9 : Int32 × Int32 × Int32) (H : Heap) (locs : List Loc) (ls : Array Slot), o = .inl z9 → St D A s H locs [(a_this, .inr (5, [.ref a_this_told, .int (x_held)])), (a_this_told, .inl (y 1, n_this_told, .inr (.inl (x_told))))] → lv_has ls 7 [(0, .ref a_this), (1, .long (v1)), (3, .int (v3)), (4, .int (z9.1)), (5, .int (z9.2.1)), (6, .int (z9.2.2))] → W p l e { frames := 0, cells := 0, slots := 0, locals := 0 } s m args below meth c H locs 0 0 Q (F0 m 9 ls []) := fun z9 H locs ls ho hw hl => ih z9 o9 H locs ls (hk1 z9 ho) hw hl kx0
    have kx : ∀ (z9 : Int32 × Int32 × Int32) (H : Heap) (locs : List Loc) (ls : Array Slot), o = .inr z9 → St D A s H locs [(a_this, .inr (5, [.ref a_this_told, .int (x_held)])), (a_this_told, .inl (y 1, n_this_told, .inr (.inl (x_told))))] → lv_has ls 7 [(3, .int (v3)), (4, .int (z9.1)), (5, .int (z9.2.1))] → W p l e { frames := 0, cells := 0, slots := 0, locals := 0 } s m args below meth c H locs 0 0 Q (F0 m 57 ls []) := fun z9 H locs ls ho hw hl => by obtain rfl := hk2 z9 ho; exact kx0 H locs ls hw hl
    clear ih hk1 hk2 hlp kx0
    unfold pX5_ranksAs_b9 at hp
    refine lv_iload C.x C.b dX5_ranksAs_9 (lv_at hl 5 rfl) ?_
    refine lv_aload_n C.x C.b dX5_ranksAs_11 rfl (lv_at hl 0 rfl) ?_
    refine q_get (v := .int (x_held)) (T := TX5) C hw 0 1 rfl rfl rfl inX5 (by decide) kw154 rfl dX5_ranksAs_12 ?_
    refine lv_icmp_ge (tgt := 57) C.x C.b dX5_ranksAs_15 (by decide) (fun c9 => ?_) (fun c9 => ?_)
    · replace hp := it_t c9 hp
      exact kx _ H locs ls (Option.some.inj hp).symm hw (lv_sub hl [2, 3, 4] rfl)
    · replace hp := it_f c9 hp
      refine lv_aload_n C.x C.b dX5_ranksAs_18 rfl (lv_at hl 0 rfl) ?_
      refine q_get (v := .ref a_this_told) (T := TX5) C hw 0 0 rfl rfl rfl inX5 (by decide) kw152 rfl dX5_ranksAs_19 ?_
      refine lv_iload C.x C.b dX5_ranksAs_22 (lv_at hl 5 rfl) ?_
      obtain ⟨hi, hp⟩ := ck_some hp
      refine q_lald C hw 1 rfl hi dX5_ranksAs_24 ?_
      refine lv_lload_n C.x C.b dX5_ranksAs_25 rfl (lv_at hl 1 rfl) ?_
      refine W.lcmp C.x C.b dX5_ranksAs_26 ?_
      refine lv_if_ge (tgt := 36) C.x C.b dX5_ranksAs_27 (by decide) (fun c9 => ?_) (fun c9 => ?_)
      · replace hp := it_t c9 hp
        refine lv_aload_n C.x C.b dX5_ranksAs_36 rfl (lv_at hl 0 rfl) ?_
        refine q_get (v := .ref a_this_told) (T := TX5) C hw 0 0 rfl rfl rfl inX5 (by decide) kw152 rfl dX5_ranksAs_37 ?_
        refine lv_iload C.x C.b dX5_ranksAs_40 (lv_at hl 5 rfl) ?_
        obtain ⟨hi, hp⟩ := ck_some hp
        refine q_lald C hw 1 rfl hi dX5_ranksAs_42 ?_
        refine lv_lload_n C.x C.b dX5_ranksAs_43 rfl (lv_at hl 1 rfl) ?_
        refine W.lcmp C.x C.b dX5_ranksAs_44 ?_
        refine lv_if_ne (tgt := 51) C.x C.b dX5_ranksAs_45 (by decide) (fun c9 => ?_) (fun c9 => ?_)
        · replace hp := it_f c9 hp
          exact wX5_ranksAs_b9j51 a_this a_this_told n_this_told (v1) (v3) (z9.1) (z9.2.1) (z9.2.2) (x_held) (x_told) o C H locs ls hp hw (lv_sub hl [0, 1, 2, 3, 4, 5] rfl) kb kx
        · replace hp := it_t c9 hp
          refine lv_iinc (v := (z9.2.1 + 1)) (lv' := [(5, .int ((z9.2.1 + 1))), (0, .ref a_this), (1, .long (v1)), (3, .int (v3)), (4, .int (z9.1)), (6, .int (z9.2.2))]) C.x C.b dX5_ranksAs_48 hl (k := 4) rfl rfl (by decide) rfl (fun ls hl => ?_)
          exact wX5_ranksAs_b9j51 a_this a_this_told n_this_told (v1) (v3) (z9.1) ((z9.2.1 + 1)) (z9.2.2) (x_held) (x_told) o C H locs ls hp hw (lv_sub hl [1, 2, 3, 4, 0, 5] rfl) kb kx
      · replace hp := it_f c9 hp
        refine lv_iinc (v := (z9.1 + 1)) (lv' := [(4, .int ((z9.1 + 1))), (0, .ref a_this), (1, .long (v1)), (3, .int (v3)), (5, .int (z9.2.1)), (6, .int (z9.2.2))]) C.x C.b dX5_ranksAs_30 hl (k := 3) rfl rfl (by decide) rfl (fun ls hl => ?_)
        refine lv_goto (tgt := 51) C.x C.b dX5_ranksAs_33 (by decide) ?_
        exact wX5_ranksAs_b9j51 a_this a_this_told n_this_told (v1) (v3) ((z9.1 + 1)) (z9.2.1) (z9.2.2) (x_held) (x_told) o C H locs ls hp hw (lv_sub hl [1, 2, 3, 0, 4, 5] rfl) kb kx
set_option maxRecDepth 100000 in
set_option maxHeartbeats 4000000 in
theorem tX5_ranksAs (l : Launch) (D : va_G) (y : Nat → ClassId) (a_this a_this_told : Nat) (n_this_told : Nat) (v1 : Int64) (v3 : Int32) (x_held : Int32) (x_told : Nat → Int64) (z0 : Int32) (hp : pX5_ranksAs n_this_told v1 v3 x_held x_told = some z0) : CZ D y l yX5_ranksAs (Cond.code yX5_ranksAs cX5_ranksAs 7 (some .boolean) :: tbG) { frames := 0, cells := 0, slots := 0, locals := 0 } [.ref a_this, .long (v1), .int (v3)] [(a_this, .inr (5, [.ref a_this_told, .int (x_held)])), (a_this_told, .inl (y 1, n_this_told, .inr (.inl (x_told))))] [(a_this, .inr (5, [.ref a_this_told, .int (x_held)])), (a_this_told, .inl (y 1, n_this_told, .inr (.inl (x_told))))] (z0) := by
  refine CZ.of (own := RX5) (by decide) rfl (Nat.le_of_ble_eq_true rfl) ?_
  intro p e s m args below meth c A H locs ls C hw hl
  have hl : lv_has ls 7 [(0, .ref a_this), (1, .long (v1)), (3, .int (v3))] := hl
  unfold pX5_ranksAs at hp
  refine lv_iconst (v := 0) C.x C.b dX5_ranksAs_0 (by decide) ?_
  refine lv_istore (lv' := [(4, .int (0)), (0, .ref a_this), (1, .long (v1)), (3, .int (v3))]) C.x C.b dX5_ranksAs_1 hl (by decide) rfl (fun ls hl => ?_)
  refine lv_iconst (v := 0) C.x C.b dX5_ranksAs_3 (by decide) ?_
  refine lv_istore (lv' := [(5, .int (0)), (4, .int (0)), (0, .ref a_this), (1, .long (v1)), (3, .int (v3))]) C.x C.b dX5_ranksAs_4 hl (by decide) rfl (fun ls hl => ?_)
  refine lv_iconst (v := 0) C.x C.b dX5_ranksAs_6 (by decide) ?_
  refine lv_istore (lv' := [(6, .int (0)), (5, .int (0)), (4, .int (0)), (0, .ref a_this), (1, .long (v1)), (3, .int (v3))]) C.x C.b dX5_ranksAs_7 hl (by decide) rfl (fun ls hl => ?_)
  obtain ⟨y9, hlp, hp⟩ := bd_some hp
  refine wX5_ranksAs_b9 a_this a_this_told n_this_told (v1) (v3) (x_held) (x_told) C FU (0, 0, 0) y9 H locs ls hlp hw (lv_sub hl [3, 4, 5, 2, 1, 0] rfl) (fun H locs ls hw hl => ?_)
  refine lv_iload C.x C.b dX5_ranksAs_57 (lv_at hl 1 rfl) ?_
  refine lv_iload_n C.x C.b dX5_ranksAs_59 rfl (lv_at hl 0 rfl) ?_
  refine lv_icmp_gt (tgt := 76) C.x C.b dX5_ranksAs_60 (by decide) (fun c9 => ?_) (fun c9 => ?_)
  · replace hp := it_t c9 hp
    refine lv_iconst (v := 0) C.x C.b dX5_ranksAs_76 (by decide) ?_
    obtain rfl := Option.some.inj hp
    exact q_zret C hw (by decide) rfl dX5_ranksAs_77
  · replace hp := it_f c9 hp
    refine lv_iload_n C.x C.b dX5_ranksAs_63 rfl (lv_at hl 0 rfl) ?_
    refine lv_iload C.x C.b dX5_ranksAs_64 (lv_at hl 1 rfl) ?_
    refine lv_iload C.x C.b dX5_ranksAs_66 (lv_at hl 2 rfl) ?_
    refine lv_iadd C.x C.b dX5_ranksAs_68 ?_
    refine lv_icmp_ge (tgt := 76) C.x C.b dX5_ranksAs_69 (by decide) (fun c9 => ?_) (fun c9 => ?_)
    · replace hp := it_t c9 hp
      refine lv_iconst (v := 0) C.x C.b dX5_ranksAs_76 (by decide) ?_
      obtain rfl := Option.some.inj hp
      exact q_zret C hw (by decide) rfl dX5_ranksAs_77
    · replace hp := it_f c9 hp
      refine lv_iconst (v := 1) C.x C.b dX5_ranksAs_72 (by decide) ?_
      refine lv_goto (tgt := 77) C.x C.b dX5_ranksAs_73 (by decide) ?_
      obtain rfl := Option.some.inj hp
      exact q_zret C hw (by decide) rfl dX5_ranksAs_77
theorem okX5_bySize : okY yX5_bySize 1 := ⟨by decide +kernel, by decide +kernel, by decide +kernel⟩
set_option maxRecDepth 100000 in
set_option maxHeartbeats 4000000 in
theorem wX5_bySize_b2j48 {D : va_G} {y : Nat → ClassId} {p : Program} {l : Launch} {e : Env} {s : State} {m : MethodId} {args : Array Value} {below : List Frame} {meth : Method} {c : Code} {A : Nat → Prop} (a_this a_this_told : Nat) (n_this_told : Nat) (v1 : Int32) (v2 : Int32)   (x_held : Int32) (x_told : Nat → Int64) (o : (Int32) ⊕ ((Int32) ⊕ (Int64))) (z0 : Int64) (C : Cx D y p s m args meth c A RX5 cX5_bySize (Cond.code yX5_bySize cX5_bySize 3 (some .long)) (some .long) 3) (H : Heap) (locs : List Loc) (ls : Array Slot) (hp : pX5_bySize_b2j48 n_this_told v2 = some o) (hw : St D A s H locs [(a_this, .inr (5, [.ref a_this_told, .int (x_held)])), (a_this_told, .inl (y 1, n_this_told, .inr (.inl (x_told))))]) (hl : lv_has ls 3 [(0, .ref a_this), (1, .int (v1)), (2, .int (v2))]) (kb : ∀ (z9 : Int32) (H : Heap) (locs : List Loc) (ls : Array Slot), o = .inl z9 → St D A s H locs [(a_this, .inr (5, [.ref a_this_told, .int (x_held)])), (a_this_told, .inl (y 1, n_this_told, .inr (.inl (x_told))))] → lv_has ls 3 [(0, .ref a_this), (1, .int (v1)), (2, .int (z9))] → W p l e { frames := 1, cells := 0, slots := 0, locals := 26 } s m args below meth c H locs 0 0 (QL D s A args below [(a_this, .inr (5, [.ref a_this_told, .int (x_held)])), (a_this_told, .inl (y 1, n_this_told, .inr (.inl (x_told))))] (z0)) (F0 m 2 ls [])) (kx : ∀ (z9 : Int32) (H : Heap) (locs : List Loc) (ls : Array Slot), o = .inr (.inl z9) → St D A s H locs [(a_this, .inr (5, [.ref a_this_told, .int (x_held)])), (a_this_told, .inl (y 1, n_this_told, .inr (.inl (x_told))))] → lv_has ls 3 [] → W p l e { frames := 1, cells := 0, slots := 0, locals := 26 } s m args below meth c H locs 0 0 (QL D s A args below [(a_this, .inr (5, [.ref a_this_told, .int (x_held)])), (a_this_told, .inl (y 1, n_this_told, .inr (.inl (x_told))))] (z0)) (F0 m 54 ls [])) (kr : ∀ z9 : Int64, o = .inr (.inr z9) → z9 = z0) : W p l e { frames := 1, cells := 0, slots := 0, locals := 26 } s m args below meth c H locs 0 0 (QL D s A args below [(a_this, .inr (5, [.ref a_this_told, .int (x_held)])), (a_this_told, .inl (y 1, n_this_told, .inr (.inl (x_told))))] (z0)) (F0 m 48 ls []) := by
  unfold pX5_bySize_b2j48 at hp
  refine lv_iinc (v := (v2 + 1)) (lv' := [(2, .int ((v2 + 1))), (0, .ref a_this), (1, .int (v1))]) C.x C.b dX5_bySize_48 hl (k := 2) rfl rfl (by decide) rfl (fun ls hl => ?_)
  refine lv_goto (tgt := 2) C.x C.b dX5_bySize_51 (by decide) ?_
  exact kb _ H locs ls (Option.some.inj hp).symm hw (lv_sub hl [1, 2, 0] rfl)
set_option maxRecDepth 100000 in
set_option maxHeartbeats 4000000 in
theorem wX5_bySize_b2 {D : va_G} {y : Nat → ClassId} {p : Program} {l : Launch} {e : Env} {s : State} {m : MethodId} {args : Array Value} {below : List Frame} {meth : Method} {c : Code} {A : Nat → Prop} (a_this a_this_told : Nat) (n_this_told : Nat) (v1 : Int32) (x_held : Int32) (x_told : Nat → Int64) (z0 : Int64) (C : Cx D y p s m args meth c A RX5 cX5_bySize (Cond.code yX5_bySize cX5_bySize 3 (some .long)) (some .long) 3) : ∀ (k : Nat) (z2 : Int32) (q2 : (Int32) ⊕ (Int64)) (H : Heap) (locs : List Loc) (ls : Array Slot), lp (pX5_bySize_b2 n_this_told v1 x_held x_told) k z2 = some q2 → St D A s H locs [(a_this, .inr (5, [.ref a_this_told, .int (x_held)])), (a_this_told, .inl (y 1, n_this_told, .inr (.inl (x_told))))] → lv_has ls 3 [(0, .ref a_this), (1, .int (v1)), (2, .int (z2))] → (∀ (o2 : Int32) (H : Heap) (locs : List Loc) (ls : Array Slot), q2 = .inl o2 → St D A s H locs [(a_this, .inr (5, [.ref a_this_told, .int (x_held)])), (a_this_told, .inl (y 1, n_this_told, .inr (.inl (x_told))))] → lv_has ls 3 [] → W p l e { frames := 1, cells := 0, slots := 0, locals := 26 } s m args below meth c H locs 0 0 (QL D s A args below [(a_this, .inr (5, [.ref a_this_told, .int (x_held)])), (a_this_told, .inl (y 1, n_this_told, .inr (.inl (x_told))))] (z0)) (F0 m 54 ls [])) → (∀ z9 : Int64, q2 = .inr z9 → z9 = z0) → W p l e { frames := 1, cells := 0, slots := 0, locals := 26 } s m args below meth c H locs 0 0 (QL D s A args below [(a_this, .inr (5, [.ref a_this_told, .int (x_held)])), (a_this_told, .inl (y 1, n_this_told, .inr (.inl (x_told))))] (z0)) (F0 m 2 ls []) := by
  intro k
  induction k with
  | zero => intro z2 o9 H locs ls hp; exact lp_zero hp
  | succ k ih =>
    intro z2 q2 H locs ls hlp hw hl kx0 kr0
    obtain ⟨o, hp, hk1, hk2⟩ := lp_succ hlp
    have kb : ∀ (z9 : Int32) (H : Heap) (locs : List Loc) (ls : Array Slot), o = .inl z9 → St D A s H locs [(a_this, .inr (5, [.ref a_this_told, .int (x_held)])), (a_this_told, .inl (y 1, n_this_told, .inr (.inl (x_told))))] → lv_has ls 3 [(0, .ref a_this), (1, .int (v1)), (2, .int (z9))] → W p l e { frames := 1, cells := 0, slots := 0, locals := 26 } s m args below meth c H locs 0 0 (QL D s A args below [(a_this, .inr (5, [.ref a_this_told, .int (x_held)])), (a_this_told, .inl (y 1, n_this_told, .inr (.inl (x_told))))] (z0)) (F0 m 2 ls []) := fun z9 H locs ls ho hw hl => ih z9 q2 H locs ls (hk1 z9 ho) hw hl kx0 kr0
    have kx : ∀ (z9 : Int32) (H : Heap) (locs : List Loc) (ls : Array Slot), o = .inr (.inl z9) → St D A s H locs [(a_this, .inr (5, [.ref a_this_told, .int (x_held)])), (a_this_told, .inl (y 1, n_this_told, .inr (.inl (x_told))))] → lv_has ls 3 [] → W p l e { frames := 1, cells := 0, slots := 0, locals := 26 } s m args below meth c H locs 0 0 (QL D s A args below [(a_this, .inr (5, [.ref a_this_told, .int (x_held)])), (a_this_told, .inl (y 1, n_this_told, .inr (.inl (x_told))))] (z0)) (F0 m 54 ls []) := fun z9 H locs ls ho hw hl => kx0 z9 H locs ls (hk2 _ ho).symm hw hl
    have kr : ∀ z9 : Int64, o = .inr (.inr z9) → z9 = z0 := fun z9 ho => kr0 z9 (hk2 _ ho).symm
    clear ih hk1 hk2 hlp kx0
    unfold pX5_bySize_b2 at hp
    refine lv_iload_n C.x C.b dX5_bySize_2 rfl (lv_at hl 2 rfl) ?_
    refine lv_aload_n C.x C.b dX5_bySize_3 rfl (lv_at hl 0 rfl) ?_
    refine q_get (v := .int (x_held)) (T := TX5) C hw 0 1 rfl rfl rfl inX5 (by decide) kw154 rfl dX5_bySize_4 ?_
    refine lv_icmp_ge (tgt := 54) C.x C.b dX5_bySize_7 (by decide) (fun c9 => ?_) (fun c9 => ?_)
    · replace hp := it_t c9 hp
      exact kx _ H locs ls (Option.some.inj hp).symm hw (lv_sub hl [] rfl)
    · replace hp := it_f c9 hp
      refine lv_iload_n C.x C.b dX5_bySize_10 rfl (lv_at hl 1 rfl) ?_
      refine lv_if_lt (tgt := 54) C.x C.b dX5_bySize_11 (by decide) (fun c9 => ?_) (fun c9 => ?_)
      · replace hp := it_t c9 hp
        exact kx _ H locs ls (Option.some.inj hp).symm hw (lv_sub hl [] rfl)
      · replace hp := it_f c9 hp
        refine lv_aload_n C.x C.b dX5_bySize_14 rfl (lv_at hl 0 rfl) ?_
        refine q_get (v := .ref a_this_told) (T := TX5) C hw 0 0 rfl rfl rfl inX5 (by decide) kw152 rfl dX5_bySize_15 ?_
        refine lv_iload_n C.x C.b dX5_bySize_18 rfl (lv_at hl 2 rfl) ?_
        obtain ⟨hi, hp⟩ := ck_some hp
        refine q_lald C hw 1 rfl hi dX5_bySize_19 ?_
        refine lv_ldc2 C.x C.b C.ow (C.ts _ (List.mem_cons_of_mem _ kw705)) dX5_bySize_20 ?_
        refine W.lcmp C.x C.b dX5_bySize_23 ?_
        refine lv_if_eq (tgt := 48) C.x C.b dX5_bySize_24 (by decide) (fun c9 => ?_) (fun c9 => ?_)
        · replace hp := it_t c9 hp
          exact wX5_bySize_b2j48 a_this a_this_told n_this_told (v1) (z2) (x_held) (x_told) o z0 C H locs ls hp hw (lv_sub hl [0, 1, 2] rfl) kb kx kr
        · replace hp := it_f c9 hp
          refine lv_aload_n C.x C.b dX5_bySize_27 rfl (lv_at hl 0 rfl) ?_
          refine lv_aload_n C.x C.b dX5_bySize_28 rfl (lv_at hl 0 rfl) ?_
          refine q_get (v := .ref a_this_told) (T := TX5) C hw 0 0 rfl rfl rfl inX5 (by decide) kw152 rfl dX5_bySize_29 ?_
          refine lv_iload_n C.x C.b dX5_bySize_32 rfl (lv_at hl 2 rfl) ?_
          obtain ⟨hi, hp⟩ := ck_some hp
          refine q_lald C hw 1 rfl hi dX5_bySize_33 ?_
          refine lv_iload_n C.x C.b dX5_bySize_34 rfl (lv_at hl 1 rfl) ?_
          obtain ⟨k35, hk, hp⟩ := bd_some hp
          refine q_aftZ (wc := [(a_this, .inr (5, [.ref a_this_told, .int (x_held)])), (a_this_told, .inl (y 1, n_this_told, .inr (.inl (x_told))))]) (wr := []) (w1 := [(a_this, .inr (5, [.ref a_this_told, .int (x_held)])), (a_this_told, .inl (y 1, n_this_told, .inr (.inl (x_told))))]) (w2 := [(a_this, .inr (5, [.ref a_this_told, .int (x_held)])), (a_this_told, .inl (y 1, n_this_told, .inr (.inl (x_told))))]) C hw [0, 1] [] [0, 1] rfl rfl (by decide) (by decide) (by decide) rfl (q_runV (As := [.long ((x_told z2.toNatClampNeg)), .int (v1)]) (rest := []) (q0 := 0) (ci := 5) C hw (tX5_ranksAs l D y a_this a_this_told n_this_told (x_told z2.toNatClampNeg) v1 x_held x_told k35 hk H.size) [0, 1] rfl (by decide) rfl rfl kw1266 kw1268 kw44 kw115 kw1269 okX5_ranksAs ⟨rfl, rfl⟩ ⟨Nat.le_of_ble_eq_true rfl, Nat.le_of_ble_eq_true rfl⟩ rfl hl.1 rfl (Nat.le_of_ble_eq_true rfl) dX5_bySize_35 ⟨Nat.zero_le _, Nat.zero_le _⟩) (fun H locs hz35 hw => ?_)
          refine lv_if_eq (tgt := 48) C.x C.b dX5_bySize_38 (by decide) (fun c9 => ?_) (fun c9 => ?_)
          · replace hp := it_t c9 hp
            exact wX5_bySize_b2j48 a_this a_this_told n_this_told (v1) (z2) (x_held) (x_told) o z0 C H locs ls hp hw (lv_sub hl [0, 1, 2] rfl) kb kx kr
          · replace hp := it_f c9 hp
            refine lv_aload_n C.x C.b dX5_bySize_41 rfl (lv_at hl 0 rfl) ?_
            refine q_get (v := .ref a_this_told) (T := TX5) C hw 0 0 rfl rfl rfl inX5 (by decide) kw152 rfl dX5_bySize_42 ?_
            refine lv_iload_n C.x C.b dX5_bySize_45 rfl (lv_at hl 2 rfl) ?_
            obtain ⟨hi, hp⟩ := ck_some hp
            refine q_lald C hw 1 rfl hi dX5_bySize_46 ?_
            obtain rfl := kr _ (Option.some.inj hp).symm
            exact q_lret C hw rfl dX5_bySize_47
set_option maxRecDepth 100000 in
set_option maxHeartbeats 4000000 in
theorem tX5_bySize (l : Launch) (D : va_G) (y : Nat → ClassId) (a_this a_this_told : Nat) (n_this_told : Nat) (v1 : Int32) (x_held : Int32) (x_told : Nat → Int64) (z0 : Int64) (hp : pX5_bySize n_this_told v1 x_held x_told = some z0) : CL D y l yX5_bySize (Cond.code yX5_bySize cX5_bySize 3 (some .long) :: tbG) { frames := 1, cells := 0, slots := 0, locals := 26 } [.ref a_this, .int (v1)] [(a_this, .inr (5, [.ref a_this_told, .int (x_held)])), (a_this_told, .inl (y 1, n_this_told, .inr (.inl (x_told))))] [(a_this, .inr (5, [.ref a_this_told, .int (x_held)])), (a_this_told, .inl (y 1, n_this_told, .inr (.inl (x_told))))] (z0) := by
  refine CL.of (own := RX5) (by decide) rfl (Nat.le_of_ble_eq_true rfl) ?_
  intro p e s m args below meth c A H locs ls C hw hl
  have hl : lv_has ls 3 [(0, .ref a_this), (1, .int (v1))] := hl
  unfold pX5_bySize at hp
  refine lv_iconst (v := 0) C.x C.b dX5_bySize_0 (by decide) ?_
  refine lv_istore_n (lv' := [(2, .int (0)), (0, .ref a_this), (1, .int (v1))]) C.x C.b dX5_bySize_1 rfl hl (by decide) rfl (fun ls hl => ?_)
  obtain ⟨y2, hlp, hp⟩ := bd_some hp
  refine wX5_bySize_b2 a_this a_this_told n_this_told (v1) (x_held) (x_told) z0 C FU 0 y2 H locs ls hlp hw (lv_sub hl [1, 2, 0] rfl) (fun s2 H locs ls hq hw hl => ?_) (fun z9 hq => by subst hq; exact Option.some.inj hp)
  subst hq
  replace hp := sx_inl hp
  refine lv_ldc2 C.x C.b C.ow (C.ts _ (List.mem_cons_of_mem _ kw559)) dX5_bySize_54 ?_
  obtain rfl := Option.some.inj hp
  exact q_lret C hw rfl dX5_bySize_57
theorem okX5_standsAhead : okY yX5_standsAhead 1 := ⟨by decide +kernel, by decide +kernel, by decide +kernel⟩
set_option maxRecDepth 100000 in
set_option maxHeartbeats 4000000 in
theorem wX5_standsAhead_b2 {D : va_G} {y : Nat → ClassId} {p : Program} {l : Launch} {e : Env} {s : State} {m : MethodId} {args : Array Value} {below : List Frame} {meth : Method} {c : Code} {A : Nat → Prop} (a_this a_this_told : Nat) (n_this_told : Nat) (v1 : Int32) (x_held : Int32) (x_told : Nat → Int64) (z0 : Int32) (C : Cx D y p s m args meth c A RX5 cX5_standsAhead (Cond.code yX5_standsAhead cX5_standsAhead 3 (some .boolean)) (some .boolean) 3) : ∀ (k : Nat) (z2 : Int32) (q2 : (Int32) ⊕ (Int32)) (H : Heap) (locs : List Loc) (ls : Array Slot), lp (pX5_standsAhead_b2 n_this_told v1 x_told) k z2 = some q2 → St D A s H locs [(a_this, .inr (5, [.ref a_this_told, .int (x_held)])), (a_this_told, .inl (y 1, n_this_told, .inr (.inl (x_told))))] → lv_has ls 3 [(0, .ref a_this), (1, .int (v1)), (2, .int (z2))] → (∀ (o2 : Int32) (H : Heap) (locs : List Loc) (ls : Array Slot), q2 = .inl o2 → St D A s H locs [(a_this, .inr (5, [.ref a_this_told, .int (x_held)])), (a_this_told, .inl (y 1, n_this_told, .inr (.inl (x_told))))] → lv_has ls 3 [] → W p l e { frames := 0, cells := 0, slots := 0, locals := 0 } s m args below meth c H locs 0 0 (QZ D s A args below [(a_this, .inr (5, [.ref a_this_told, .int (x_held)])), (a_this_told, .inl (y 1, n_this_told, .inr (.inl (x_told))))] (z0)) (F0 m 31 ls [])) → (∀ z9 : Int32, q2 = .inr z9 → z9 = z0) → W p l e { frames := 0, cells := 0, slots := 0, locals := 0 } s m args below meth c H locs 0 0 (QZ D s A args below [(a_this, .inr (5, [.ref a_this_told, .int (x_held)])), (a_this_told, .inl (y 1, n_this_told, .inr (.inl (x_told))))] (z0)) (F0 m 2 ls []) := by
  intro k
  induction k with
  | zero => intro z2 o9 H locs ls hp; exact lp_zero hp
  | succ k ih =>
    intro z2 q2 H locs ls hlp hw hl kx0 kr0
    obtain ⟨o, hp, hk1, hk2⟩ := lp_succ hlp
    have kb : ∀ (z9 : Int32) (H : Heap) (locs : List Loc) (ls : Array Slot), o = .inl z9 → St D A s H locs [(a_this, .inr (5, [.ref a_this_told, .int (x_held)])), (a_this_told, .inl (y 1, n_this_told, .inr (.inl (x_told))))] → lv_has ls 3 [(0, .ref a_this), (1, .int (v1)), (2, .int (z9))] → W p l e { frames := 0, cells := 0, slots := 0, locals := 0 } s m args below meth c H locs 0 0 (QZ D s A args below [(a_this, .inr (5, [.ref a_this_told, .int (x_held)])), (a_this_told, .inl (y 1, n_this_told, .inr (.inl (x_told))))] (z0)) (F0 m 2 ls []) := fun z9 H locs ls ho hw hl => ih z9 q2 H locs ls (hk1 z9 ho) hw hl kx0 kr0
    have kx : ∀ (z9 : Int32) (H : Heap) (locs : List Loc) (ls : Array Slot), o = .inr (.inl z9) → St D A s H locs [(a_this, .inr (5, [.ref a_this_told, .int (x_held)])), (a_this_told, .inl (y 1, n_this_told, .inr (.inl (x_told))))] → lv_has ls 3 [] → W p l e { frames := 0, cells := 0, slots := 0, locals := 0 } s m args below meth c H locs 0 0 (QZ D s A args below [(a_this, .inr (5, [.ref a_this_told, .int (x_held)])), (a_this_told, .inl (y 1, n_this_told, .inr (.inl (x_told))))] (z0)) (F0 m 31 ls []) := fun z9 H locs ls ho hw hl => kx0 z9 H locs ls (hk2 _ ho).symm hw hl
    have kr : ∀ z9 : Int32, o = .inr (.inr z9) → z9 = z0 := fun z9 ho => kr0 z9 (hk2 _ ho).symm
    clear ih hk1 hk2 hlp kx0
    unfold pX5_standsAhead_b2 at hp
    refine lv_iload_n C.x C.b dX5_standsAhead_2 rfl (lv_at hl 2 rfl) ?_
    refine lv_iload_n C.x C.b dX5_standsAhead_3 rfl (lv_at hl 1 rfl) ?_
    refine lv_icmp_ge (tgt := 31) C.x C.b dX5_standsAhead_4 (by decide) (fun c9 => ?_) (fun c9 => ?_)
    · replace hp := it_t c9 hp
      exact kx _ H locs ls (Option.some.inj hp).symm hw (lv_sub hl [] rfl)
    · replace hp := it_f c9 hp
      refine lv_aload_n C.x C.b dX5_standsAhead_7 rfl (lv_at hl 0 rfl) ?_
      refine q_get (v := .ref a_this_told) (T := TX5) C hw 0 0 rfl rfl rfl inX5 (by decide) kw152 rfl dX5_standsAhead_8 ?_
      refine lv_iload_n C.x C.b dX5_standsAhead_11 rfl (lv_at hl 2 rfl) ?_
      obtain ⟨hi, hp⟩ := ck_some hp
      refine q_lald C hw 1 rfl hi dX5_standsAhead_12 ?_
      refine lv_aload_n C.x C.b dX5_standsAhead_13 rfl (lv_at hl 0 rfl) ?_
      refine q_get (v := .ref a_this_told) (T := TX5) C hw 0 0 rfl rfl rfl inX5 (by decide) kw152 rfl dX5_standsAhead_14 ?_
      refine lv_iload_n C.x C.b dX5_standsAhead_17 rfl (lv_at hl 1 rfl) ?_
      obtain ⟨hi, hp⟩ := ck_some hp
      refine q_lald C hw 1 rfl hi dX5_standsAhead_18 ?_
      refine W.lcmp C.x C.b dX5_standsAhead_19 ?_
      refine lv_if_ne (tgt := 25) C.x C.b dX5_standsAhead_20 (by decide) (fun c9 => ?_) (fun c9 => ?_)
      · replace hp := it_f c9 hp
        refine lv_iinc (v := (z2 + 1)) (lv' := [(2, .int ((z2 + 1))), (0, .ref a_this), (1, .int (v1))]) C.x C.b dX5_standsAhead_25 hl (k := 2) rfl rfl (by decide) rfl (fun ls hl => ?_)
        refine lv_goto (tgt := 2) C.x C.b dX5_standsAhead_28 (by decide) ?_
        exact kb _ H locs ls (Option.some.inj hp).symm hw (lv_sub hl [1, 2, 0] rfl)
      · replace hp := it_t c9 hp
        refine lv_iconst (v := 1) C.x C.b dX5_standsAhead_23 (by decide) ?_
        obtain rfl := kr _ (Option.some.inj hp).symm
        exact q_zret C hw (by decide) rfl dX5_standsAhead_24
set_option maxRecDepth 100000 in
set_option maxHeartbeats 4000000 in
theorem tX5_standsAhead (l : Launch) (D : va_G) (y : Nat → ClassId) (a_this a_this_told : Nat) (n_this_told : Nat) (v1 : Int32) (x_held : Int32) (x_told : Nat → Int64) (z0 : Int32) (hp : pX5_standsAhead n_this_told v1 x_told = some z0) : CZ D y l yX5_standsAhead (Cond.code yX5_standsAhead cX5_standsAhead 3 (some .boolean) :: tbG) { frames := 0, cells := 0, slots := 0, locals := 0 } [.ref a_this, .int (v1)] [(a_this, .inr (5, [.ref a_this_told, .int (x_held)])), (a_this_told, .inl (y 1, n_this_told, .inr (.inl (x_told))))] [(a_this, .inr (5, [.ref a_this_told, .int (x_held)])), (a_this_told, .inl (y 1, n_this_told, .inr (.inl (x_told))))] (z0) := by
  refine CZ.of (own := RX5) (by decide) rfl (Nat.le_of_ble_eq_true rfl) ?_
  intro p e s m args below meth c A H locs ls C hw hl
  have hl : lv_has ls 3 [(0, .ref a_this), (1, .int (v1))] := hl
  unfold pX5_standsAhead at hp
  refine lv_iconst (v := 0) C.x C.b dX5_standsAhead_0 (by decide) ?_
  refine lv_istore_n (lv' := [(2, .int (0)), (0, .ref a_this), (1, .int (v1))]) C.x C.b dX5_standsAhead_1 rfl hl (by decide) rfl (fun ls hl => ?_)
  obtain ⟨y2, hlp, hp⟩ := bd_some hp
  refine wX5_standsAhead_b2 a_this a_this_told n_this_told (v1) (x_held) (x_told) z0 C FU 0 y2 H locs ls hlp hw (lv_sub hl [1, 2, 0] rfl) (fun s2 H locs ls hq hw hl => ?_) (fun z9 hq => by subst hq; exact Option.some.inj hp)
  subst hq
  replace hp := sx_inl hp
  refine lv_iconst (v := 0) C.x C.b dX5_standsAhead_31 (by decide) ?_
  obtain rfl := Option.some.inj hp
  exact q_zret C hw (by decide) rfl dX5_standsAhead_32
theorem okX5_howManyUnlike : okY yX5_howManyUnlike 0 := ⟨by decide +kernel, by decide +kernel, by decide +kernel⟩
set_option maxRecDepth 100000 in
set_option maxHeartbeats 4000000 in
theorem wX5_howManyUnlike_b4j36 {D : va_G} {y : Nat → ClassId} {p : Program} {l : Launch} {e : Env} {s : State} {m : MethodId} {args : Array Value} {below : List Frame} {meth : Method} {c : Code} {A : Nat → Prop} (a_this a_this_told : Nat) (n_this_told : Nat) (v1 : Int32) (v2 : Int32)   (x_held : Int32) (x_told : Nat → Int64) (o : (Int32 × Int32) ⊕ (Int32 × Int32)) (C : Cx D y p s m args meth c A RX5 cX5_howManyUnlike (Cond.code yX5_howManyUnlike cX5_howManyUnlike 3 (some .int)) (some .int) 3) {Q : State → Prop} (H : Heap) (locs : List Loc) (ls : Array Slot) (hp : pX5_howManyUnlike_b4j36 n_this_told v1 v2 = some o) (hw : St D A s H locs [(a_this, .inr (5, [.ref a_this_told, .int (x_held)])), (a_this_told, .inl (y 1, n_this_told, .inr (.inl (x_told))))]) (hl : lv_has ls 3 [(0, .ref a_this), (1, .int (v1)), (2, .int (v2))]) (kb : ∀ (z9 : Int32 × Int32) (H : Heap) (locs : List Loc) (ls : Array Slot), o = .inl z9 → St D A s H locs [(a_this, .inr (5, [.ref a_this_told, .int (x_held)])), (a_this_told, .inl (y 1, n_this_told, .inr (.inl (x_told))))] → lv_has ls 3 [(0, .ref a_this), (1, .int (z9.1)), (2, .int (z9.2))] → W p l e { frames := 1, cells := 0, slots := 0, locals := 22 } s m args below meth c H locs 0 0 Q (F0 m 4 ls [])) (kx : ∀ (z9 : Int32 × Int32) (H : Heap) (locs : List Loc) (ls : Array Slot), o = .inr z9 → St D A s H locs [(a_this, .inr (5, [.ref a_this_told, .int (x_held)])), (a_this_told, .inl (y 1, n_this_told, .inr (.inl (x_told))))] → lv_has ls 3 [(1, .int (z9.1))] → W p l e { frames := 1, cells := 0, slots := 0, locals := 22 } s m args below meth c H locs 0 0 Q (F0 m 42 ls [])) : W p l e { frames := 1, cells := 0, slots := 0, locals := 22 } s m args below meth c H locs 0 0 Q (F0 m 36 ls []) := by
  unfold pX5_howManyUnlike_b4j36 at hp
  refine lv_iinc (v := (v2 + 1)) (lv' := [(2, .int ((v2 + 1))), (0, .ref a_this), (1, .int (v1))]) C.x C.b dX5_howManyUnlike_36 hl (k := 2) rfl rfl (by decide) rfl (fun ls hl => ?_)
  refine lv_goto (tgt := 4) C.x C.b dX5_howManyUnlike_39 (by decide) ?_
  exact kb _ H locs ls (Option.some.inj hp).symm hw (lv_sub hl [1, 2, 0] rfl)
set_option maxRecDepth 100000 in
set_option maxHeartbeats 4000000 in
theorem wX5_howManyUnlike_b4 {D : va_G} {y : Nat → ClassId} {p : Program} {l : Launch} {e : Env} {s : State} {m : MethodId} {args : Array Value} {below : List Frame} {meth : Method} {c : Code} {A : Nat → Prop} (a_this a_this_told : Nat) (n_this_told : Nat)  (x_held : Int32) (x_told : Nat → Int64)  (C : Cx D y p s m args meth c A RX5 cX5_howManyUnlike (Cond.code yX5_howManyUnlike cX5_howManyUnlike 3 (some .int)) (some .int) 3) {Q : State → Prop} : ∀ (k : Nat) (z4 : Int32 × Int32) (o4 : Int32 × Int32) (H : Heap) (locs : List Loc) (ls : Array Slot), lp (pX5_howManyUnlike_b4 n_this_told x_held x_told) k z4 = some o4 → St D A s H locs [(a_this, .inr (5, [.ref a_this_told, .int (x_held)])), (a_this_told, .inl (y 1, n_this_told, .inr (.inl (x_told))))] → lv_has ls 3 [(0, .ref a_this), (1, .int (z4.1)), (2, .int (z4.2))] → (∀ (H : Heap) (locs : List Loc) (ls : Array Slot), St D A s H locs [(a_this, .inr (5, [.ref a_this_told, .int (x_held)])), (a_this_told, .inl (y 1, n_this_told, .inr (.inl (x_told))))] → lv_has ls 3 [(1, .int (o4.1))] → W p l e { frames := 1, cells := 0, slots := 0, locals := 22 } s m args below meth c H locs 0 0 Q (F0 m 42 ls [])) → W p l e { frames := 1, cells := 0, slots := 0, locals := 22 } s m args below meth c H locs 0 0 Q (F0 m 4 ls []) := by
  intro k
  induction k with
  | zero => intro z4 o9 H locs ls hp; exact lp_zero hp
  | succ k ih =>
    intro z4 o4 H locs ls hlp hw hl kx0
    obtain ⟨o, hp, hk1, hk2⟩ := lp_succ hlp
    have kb : ∀ (z9 : Int32 × Int32) (H : Heap) (locs : List Loc) (ls : Array Slot), o = .inl z9 → St D A s H locs [(a_this, .inr (5, [.ref a_this_told, .int (x_held)])), (a_this_told, .inl (y 1, n_this_told, .inr (.inl (x_told))))] → lv_has ls 3 [(0, .ref a_this), (1, .int (z9.1)), (2, .int (z9.2))] → W p l e { frames := 1, cells := 0, slots := 0, locals := 22 } s m args below meth c H locs 0 0 Q (F0 m 4 ls []) := fun z9 H locs ls ho hw hl => ih z9 o4 H locs ls (hk1 z9 ho) hw hl kx0
    have kx : ∀ (z9 : Int32 × Int32) (H : Heap) (locs : List Loc) (ls : Array Slot), o = .inr z9 → St D A s H locs [(a_this, .inr (5, [.ref a_this_told, .int (x_held)])), (a_this_told, .inl (y 1, n_this_told, .inr (.inl (x_told))))] → lv_has ls 3 [(1, .int (z9.1))] → W p l e { frames := 1, cells := 0, slots := 0, locals := 22 } s m args below meth c H locs 0 0 Q (F0 m 42 ls []) := fun z9 H locs ls ho hw hl => by obtain rfl := hk2 z9 ho; exact kx0 H locs ls hw hl
    clear ih hk1 hk2 hlp kx0
    unfold pX5_howManyUnlike_b4 at hp
    refine lv_iload_n C.x C.b dX5_howManyUnlike_4 rfl (lv_at hl 2 rfl) ?_
    refine lv_aload_n C.x C.b dX5_howManyUnlike_5 rfl (lv_at hl 0 rfl) ?_
    refine q_get (v := .int (x_held)) (T := TX5) C hw 0 1 rfl rfl rfl inX5 (by decide) kw154 rfl dX5_howManyUnlike_6 ?_
    refine lv_icmp_ge (tgt := 42) C.x C.b dX5_howManyUnlike_9 (by decide) (fun c9 => ?_) (fun c9 => ?_)
    · replace hp := it_t c9 hp
      exact kx _ H locs ls (Option.some.inj hp).symm hw (lv_sub hl [1] rfl)
    · replace hp := it_f c9 hp
      refine lv_aload_n C.x C.b dX5_howManyUnlike_12 rfl (lv_at hl 0 rfl) ?_
      refine q_get (v := .ref a_this_told) (T := TX5) C hw 0 0 rfl rfl rfl inX5 (by decide) kw152 rfl dX5_howManyUnlike_13 ?_
      refine lv_iload_n C.x C.b dX5_howManyUnlike_16 rfl (lv_at hl 2 rfl) ?_
      obtain ⟨hi, hp⟩ := ck_some hp
      refine q_lald C hw 1 rfl hi dX5_howManyUnlike_17 ?_
      refine lv_ldc2 C.x C.b C.ow (C.ts _ (List.mem_cons_of_mem _ kw705)) dX5_howManyUnlike_18 ?_
      refine W.lcmp C.x C.b dX5_howManyUnlike_21 ?_
      refine lv_if_eq (tgt := 36) C.x C.b dX5_howManyUnlike_22 (by decide) (fun c9 => ?_) (fun c9 => ?_)
      · replace hp := it_t c9 hp
        exact wX5_howManyUnlike_b4j36 a_this a_this_told n_this_told (z4.1) (z4.2) (x_held) (x_told) o C H locs ls hp hw (lv_sub hl [0, 1, 2] rfl) kb kx
      · replace hp := it_f c9 hp
        refine lv_aload_n C.x C.b dX5_howManyUnlike_25 rfl (lv_at hl 0 rfl) ?_
        refine lv_iload_n C.x C.b dX5_howManyUnlike_26 rfl (lv_at hl 2 rfl) ?_
        obtain ⟨k27, hk, hp⟩ := bd_some hp
        refine q_aftZ (wc := [(a_this, .inr (5, [.ref a_this_told, .int (x_held)])), (a_this_told, .inl (y 1, n_this_told, .inr (.inl (x_told))))]) (wr := []) (w1 := [(a_this, .inr (5, [.ref a_this_told, .int (x_held)])), (a_this_told, .inl (y 1, n_this_told, .inr (.inl (x_told))))]) (w2 := [(a_this, .inr (5, [.ref a_this_told, .int (x_held)])), (a_this_told, .inl (y 1, n_this_told, .inr (.inl (x_told))))]) C hw [0, 1] [] [0, 1] rfl rfl (by decide) (by decide) (by decide) rfl (q_runV (As := [.int (z4.2)]) (rest := []) (q0 := 0) (ci := 5) C hw (tX5_standsAhead l D y a_this a_this_told n_this_told z4.2 x_held x_told k27 hk H.size) [0, 1] rfl (by decide) rfl rfl kw1278 kw1280 kw45 kw115 kw1281 okX5_standsAhead ⟨rfl, rfl⟩ ⟨Nat.le_of_ble_eq_true rfl, Nat.le_of_ble_eq_true rfl⟩ rfl hl.1 rfl (Nat.le_of_ble_eq_true rfl) dX5_howManyUnlike_27 ⟨Nat.zero_le _, Nat.zero_le _⟩) (fun H locs hz27 hw => ?_)
        refine lv_if_ne (tgt := 36) C.x C.b dX5_howManyUnlike_30 (by decide) (fun c9 => ?_) (fun c9 => ?_)
        · replace hp := it_f c9 hp
          exact wX5_howManyUnlike_b4j36 a_this a_this_told n_this_told (z4.1) (z4.2) (x_held) (x_told) o C H locs ls hp hw (lv_sub hl [0, 1, 2] rfl) kb kx
        · replace hp := it_t c9 hp
          refine lv_iinc (v := (z4.1 + 1)) (lv' := [(1, .int ((z4.1 + 1))), (0, .ref a_this), (2, .int (z4.2))]) C.x C.b dX5_howManyUnlike_33 hl (k := 1) rfl rfl (by decide) rfl (fun ls hl => ?_)
          exact wX5_howManyUnlike_b4j36 a_this a_this_told n_this_told ((z4.1 + 1)) (z4.2) (x_held) (x_told) o C H locs ls hp hw (lv_sub hl [1, 0, 2] rfl) kb kx
set_option maxRecDepth 100000 in
set_option maxHeartbeats 4000000 in
theorem tX5_howManyUnlike (l : Launch) (D : va_G) (y : Nat → ClassId) (a_this a_this_told : Nat) (n_this_told : Nat) (x_held : Int32) (x_told : Nat → Int64) (z0 : Int32) (hp : pX5_howManyUnlike n_this_told x_held x_told = some z0) : CI D y l yX5_howManyUnlike (Cond.code yX5_howManyUnlike cX5_howManyUnlike 3 (some .int) :: tbG) { frames := 1, cells := 0, slots := 0, locals := 22 } [.ref a_this] [(a_this, .inr (5, [.ref a_this_told, .int (x_held)])), (a_this_told, .inl (y 1, n_this_told, .inr (.inl (x_told))))] [(a_this, .inr (5, [.ref a_this_told, .int (x_held)])), (a_this_told, .inl (y 1, n_this_told, .inr (.inl (x_told))))] (z0) := by
  refine CI.of (own := RX5) (by decide) rfl (Nat.le_of_ble_eq_true rfl) ?_
  intro p e s m args below meth c A H locs ls C hw hl
  have hl : lv_has ls 3 [(0, .ref a_this)] := hl
  unfold pX5_howManyUnlike at hp
  refine lv_iconst (v := 0) C.x C.b dX5_howManyUnlike_0 (by decide) ?_
  refine lv_istore_n (lv' := [(1, .int (0)), (0, .ref a_this)]) C.x C.b dX5_howManyUnlike_1 rfl hl (by decide) rfl (fun ls hl => ?_)
  refine lv_iconst (v := 0) C.x C.b dX5_howManyUnlike_2 (by decide) ?_
  refine lv_istore_n (lv' := [(2, .int (0)), (1, .int (0)), (0, .ref a_this)]) C.x C.b dX5_howManyUnlike_3 rfl hl (by decide) rfl (fun ls hl => ?_)
  obtain ⟨y4, hlp, hp⟩ := bd_some hp
  refine wX5_howManyUnlike_b4 a_this a_this_told n_this_told (x_held) (x_told) C FU (0, 0) y4 H locs ls hlp hw (lv_sub hl [2, 1, 0] rfl) (fun H locs ls hw hl => ?_)
  refine lv_iload_n C.x C.b dX5_howManyUnlike_42 rfl (lv_at hl 0 rfl) ?_
  obtain rfl := Option.some.inj hp
  exact q_iret C hw rfl dX5_howManyUnlike_43
theorem okX5_longestRun : okY yX5_longestRun 0 := ⟨by decide +kernel, by decide +kernel, by decide +kernel⟩
set_option maxRecDepth 100000 in
set_option maxHeartbeats 4000000 in
theorem wX5_longestRun_b11j68 {D : va_G} {y : Nat → ClassId} {p : Program} {l : Launch} {e : Env} {s : State} {m : MethodId} {args : Array Value} {below : List Frame} {meth : Method} {c : Code} {A : Nat → Prop} (a_this a_this_told : Nat) (n_this_told : Nat) (v1 : Int32) (v2 : Int32) (v3 : Int64) (v5 : Int32)   (x_held : Int32) (x_told : Nat → Int64) (o : (Int32 × Int32 × Int64 × Int32) ⊕ (Int32 × Int32 × Int64 × Int32)) (C : Cx D y p s m args meth c A RX5 cX5_longestRun (Cond.code yX5_longestRun cX5_longestRun 6 (some .int)) (some .int) 6) {Q : State → Prop} (H : Heap) (locs : List Loc) (ls : Array Slot) (hp : pX5_longestRun_b11j68 n_this_told v1 v2 v3 v5 = some o) (hw : St D A s H locs [(a_this, .inr (5, [.ref a_this_told, .int (x_held)])), (a_this_told, .inl (y 1, n_this_told, .inr (.inl (x_told))))]) (hl : lv_has ls 6 [(0, .ref a_this), (1, .int (v1)), (2, .int (v2)), (3, .long (v3)), (5, .int (v5))]) (kb : ∀ (z9 : Int32 × Int32 × Int64 × Int32) (H : Heap) (locs : List Loc) (ls : Array Slot), o = .inl z9 → St D A s H locs [(a_this, .inr (5, [.ref a_this_told, .int (x_held)])), (a_this_told, .inl (y 1, n_this_told, .inr (.inl (x_told))))] → lv_has ls 6 [(0, .ref a_this), (1, .int (z9.1)), (2, .int (z9.2.1)), (3, .long (z9.2.2.1)), (5, .int (z9.2.2.2))] → W p l e { frames := 1, cells := 0, slots := 0, locals := 21 } s m args below meth c H locs 0 0 Q (F0 m 11 ls [])) (kx : ∀ (z9 : Int32 × Int32 × Int64 × Int32) (H : Heap) (locs : List Loc) (ls : Array Slot), o = .inr z9 → St D A s H locs [(a_this, .inr (5, [.ref a_this_told, .int (x_held)])), (a_this_told, .inl (y 1, n_this_told, .inr (.inl (x_told))))] → lv_has ls 6 [(1, .int (z9.1))] → W p l e { frames := 1, cells := 0, slots := 0, locals := 21 } s m args below meth c H locs 0 0 Q (F0 m 74 ls [])) : W p l e { frames := 1, cells := 0, slots := 0, locals := 21 } s m args below meth c H locs 0 0 Q (F0 m 68 ls []) := by
  unfold pX5_longestRun_b11j68 at hp
  refine lv_iinc (v := (v5 + 1)) (lv' := [(5, .int ((v5 + 1))), (0, .ref a_this), (1, .int (v1)), (2, .int (v2)), (3, .long (v3))]) C.x C.b dX5_longestRun_68 hl (k := 4) rfl rfl (by decide) rfl (fun ls hl => ?_)
  refine lv_goto (tgt := 11) C.x C.b dX5_longestRun_71 (by decide) ?_
  exact kb _ H locs ls (Option.some.inj hp).symm hw (lv_sub hl [1, 2, 3, 4, 0] rfl)
set_option maxRecDepth 100000 in
set_option maxHeartbeats 4000000 in
theorem wX5_longestRun_b11j53 {D : va_G} {y : Nat → ClassId} {p : Program} {l : Launch} {e : Env} {s : State} {m : MethodId} {args : Array Value} {below : List Frame} {meth : Method} {c : Code} {A : Nat → Prop} (a_this a_this_told : Nat) (n_this_told : Nat) (v1 : Int32) (v2 : Int32) (v3 : Int64) (v5 : Int32)  (t0 : Int32) (x_held : Int32) (x_told : Nat → Int64) (o : (Int32 × Int32 × Int64 × Int32) ⊕ (Int32 × Int32 × Int64 × Int32)) (C : Cx D y p s m args meth c A RX5 cX5_longestRun (Cond.code yX5_longestRun cX5_longestRun 6 (some .int)) (some .int) 6) {Q : State → Prop} (H : Heap) (locs : List Loc) (ls : Array Slot) (hp : pX5_longestRun_b11j53 n_this_told v1 v2 v3 v5 t0 x_told = some o) (hw : St D A s H locs [(a_this, .inr (5, [.ref a_this_told, .int (x_held)])), (a_this_told, .inl (y 1, n_this_told, .inr (.inl (x_told))))]) (hl : lv_has ls 6 [(0, .ref a_this), (1, .int (v1)), (2, .int (v2)), (3, .long (v3)), (5, .int (v5))]) (kb : ∀ (z9 : Int32 × Int32 × Int64 × Int32) (H : Heap) (locs : List Loc) (ls : Array Slot), o = .inl z9 → St D A s H locs [(a_this, .inr (5, [.ref a_this_told, .int (x_held)])), (a_this_told, .inl (y 1, n_this_told, .inr (.inl (x_told))))] → lv_has ls 6 [(0, .ref a_this), (1, .int (z9.1)), (2, .int (z9.2.1)), (3, .long (z9.2.2.1)), (5, .int (z9.2.2.2))] → W p l e { frames := 1, cells := 0, slots := 0, locals := 21 } s m args below meth c H locs 0 0 Q (F0 m 11 ls [])) (kx : ∀ (z9 : Int32 × Int32 × Int64 × Int32) (H : Heap) (locs : List Loc) (ls : Array Slot), o = .inr z9 → St D A s H locs [(a_this, .inr (5, [.ref a_this_told, .int (x_held)])), (a_this_told, .inl (y 1, n_this_told, .inr (.inl (x_told))))] → lv_has ls 6 [(1, .int (z9.1))] → W p l e { frames := 1, cells := 0, slots := 0, locals := 21 } s m args below meth c H locs 0 0 Q (F0 m 74 ls [])) : W p l e { frames := 1, cells := 0, slots := 0, locals := 21 } s m args below meth c H locs 0 0 Q (F0 m 53 ls [.int (t0)]) := by
  unfold pX5_longestRun_b11j53 at hp
  refine lv_istore_n (lv' := [(2, .int (t0)), (0, .ref a_this), (1, .int (v1)), (3, .long (v3)), (5, .int (v5))]) C.x C.b dX5_longestRun_53 rfl hl (by decide) rfl (fun ls hl => ?_)
  refine lv_aload_n C.x C.b dX5_longestRun_54 rfl (lv_at hl 1 rfl) ?_
  refine q_get (v := .ref a_this_told) (T := TX5) C hw 0 0 rfl rfl rfl inX5 (by decide) kw152 rfl dX5_longestRun_55 ?_
  refine lv_iload C.x C.b dX5_longestRun_58 (lv_at hl 4 rfl) ?_
  obtain ⟨hi, hp⟩ := ck_some hp
  refine q_lald C hw 1 rfl hi dX5_longestRun_60 ?_
  refine lv_lstore_n (lv' := [(3, .long ((x_told v5.toNatClampNeg))), (2, .int (t0)), (0, .ref a_this), (1, .int (v1)), (5, .int (v5))]) C.x C.b dX5_longestRun_61 rfl hl (by decide) rfl (fun ls hl => ?_)
  refine lv_iload_n C.x C.b dX5_longestRun_62 rfl (lv_at hl 3 rfl) ?_
  refine lv_iload_n C.x C.b dX5_longestRun_63 rfl (lv_at hl 1 rfl) ?_
  obtain ⟨k64, hk, hp⟩ := bd_some hp
  refine q_aftI (wc := []) (wr := [(a_this, .inr (5, [.ref a_this_told, .int (x_held)])), (a_this_told, .inl (y 1, n_this_told, .inr (.inl (x_told))))]) (w1 := []) (w2 := [(a_this, .inr (5, [.ref a_this_told, .int (x_held)])), (a_this_told, .inl (y 1, n_this_told, .inr (.inl (x_told))))]) C hw [] [0, 1] [0, 1] rfl rfl (by decide) (by decide) (by decide) rfl (q_runS (As := [.int (v1), .int (t0)]) (rest := []) C hw (tJ9_max_7cf53 l D y v1 t0 k64 hk H.size) [] rfl (by decide) kw791 kw592 kw124 kw593 okJ9_max_7cf53 ⟨rfl, rfl⟩ ⟨Nat.le_of_ble_eq_true rfl, Nat.le_of_ble_eq_true rfl⟩ rfl hl.1 rfl (Nat.le_of_ble_eq_true rfl) dX5_longestRun_64 ⟨Nat.zero_le _, Nat.zero_le _⟩) (fun H locs hw => ?_)
  refine lv_istore_n (lv' := [(1, .int (k64)), (3, .long ((x_told v5.toNatClampNeg))), (2, .int (t0)), (0, .ref a_this), (5, .int (v5))]) C.x C.b dX5_longestRun_67 rfl hl (by decide) rfl (fun ls hl => ?_)
  exact wX5_longestRun_b11j68 a_this a_this_told n_this_told (k64) (t0) ((x_told v5.toNatClampNeg)) (v5) (x_held) (x_told) o C H locs ls hp hw (lv_sub hl [3, 0, 2, 1, 4] rfl) kb kx
set_option maxRecDepth 100000 in
set_option maxHeartbeats 4000000 in
theorem wX5_longestRun_b11 {D : va_G} {y : Nat → ClassId} {p : Program} {l : Launch} {e : Env} {s : State} {m : MethodId} {args : Array Value} {below : List Frame} {meth : Method} {c : Code} {A : Nat → Prop} (a_this a_this_told : Nat) (n_this_told : Nat)  (x_held : Int32) (x_told : Nat → Int64)  (C : Cx D y p s m args meth c A RX5 cX5_longestRun (Cond.code yX5_longestRun cX5_longestRun 6 (some .int)) (some .int) 6) {Q : State → Prop} : ∀ (k : Nat) (z11 : Int32 × Int32 × Int64 × Int32) (o11 : Int32 × Int32 × Int64 × Int32) (H : Heap) (locs : List Loc) (ls : Array Slot), lp (pX5_longestRun_b11 n_this_told x_held x_told) k z11 = some o11 → St D A s H locs [(a_this, .inr (5, [.ref a_this_told, .int (x_held)])), (a_this_told, .inl (y 1, n_this_told, .inr (.inl (x_told))))] → lv_has ls 6 [(0, .ref a_this), (1, .int (z11.1)), (2, .int (z11.2.1)), (3, .long (z11.2.2.1)), (5, .int (z11.2.2.2))] → (∀ (H : Heap) (locs : List Loc) (ls : Array Slot), St D A s H locs [(a_this, .inr (5, [.ref a_this_told, .int (x_held)])), (a_this_told, .inl (y 1, n_this_told, .inr (.inl (x_told))))] → lv_has ls 6 [(1, .int (o11.1))] → W p l e { frames := 1, cells := 0, slots := 0, locals := 21 } s m args below meth c H locs 0 0 Q (F0 m 74 ls [])) → W p l e { frames := 1, cells := 0, slots := 0, locals := 21 } s m args below meth c H locs 0 0 Q (F0 m 11 ls []) := by
  intro k
  induction k with
  | zero => intro z11 o9 H locs ls hp; exact lp_zero hp
  | succ k ih =>
    intro z11 o11 H locs ls hlp hw hl kx0
    obtain ⟨o, hp, hk1, hk2⟩ := lp_succ hlp
    have kb : ∀ (z9 : Int32 × Int32 × Int64 × Int32) (H : Heap) (locs : List Loc) (ls : Array Slot), o = .inl z9 → St D A s H locs [(a_this, .inr (5, [.ref a_this_told, .int (x_held)])), (a_this_told, .inl (y 1, n_this_told, .inr (.inl (x_told))))] → lv_has ls 6 [(0, .ref a_this), (1, .int (z9.1)), (2, .int (z9.2.1)), (3, .long (z9.2.2.1)), (5, .int (z9.2.2.2))] → W p l e { frames := 1, cells := 0, slots := 0, locals := 21 } s m args below meth c H locs 0 0 Q (F0 m 11 ls []) := fun z9 H locs ls ho hw hl => ih z9 o11 H locs ls (hk1 z9 ho) hw hl kx0
    have kx : ∀ (z9 : Int32 × Int32 × Int64 × Int32) (H : Heap) (locs : List Loc) (ls : Array Slot), o = .inr z9 → St D A s H locs [(a_this, .inr (5, [.ref a_this_told, .int (x_held)])), (a_this_told, .inl (y 1, n_this_told, .inr (.inl (x_told))))] → lv_has ls 6 [(1, .int (z9.1))] → W p l e { frames := 1, cells := 0, slots := 0, locals := 21 } s m args below meth c H locs 0 0 Q (F0 m 74 ls []) := fun z9 H locs ls ho hw hl => by obtain rfl := hk2 z9 ho; exact kx0 H locs ls hw hl
    clear ih hk1 hk2 hlp kx0
    unfold pX5_longestRun_b11 at hp
    refine lv_iload C.x C.b dX5_longestRun_11 (lv_at hl 4 rfl) ?_
    refine lv_aload_n C.x C.b dX5_longestRun_13 rfl (lv_at hl 0 rfl) ?_
    refine q_get (v := .int (x_held)) (T := TX5) C hw 0 1 rfl rfl rfl inX5 (by decide) kw154 rfl dX5_longestRun_14 ?_
    refine lv_icmp_ge (tgt := 74) C.x C.b dX5_longestRun_17 (by decide) (fun c9 => ?_) (fun c9 => ?_)
    · replace hp := it_t c9 hp
      exact kx _ H locs ls (Option.some.inj hp).symm hw (lv_sub hl [1] rfl)
    · replace hp := it_f c9 hp
      refine lv_aload_n C.x C.b dX5_longestRun_20 rfl (lv_at hl 0 rfl) ?_
      refine q_get (v := .ref a_this_told) (T := TX5) C hw 0 0 rfl rfl rfl inX5 (by decide) kw152 rfl dX5_longestRun_21 ?_
      refine lv_iload C.x C.b dX5_longestRun_24 (lv_at hl 4 rfl) ?_
      obtain ⟨hi, hp⟩ := ck_some hp
      refine q_lald C hw 1 rfl hi dX5_longestRun_26 ?_
      refine lv_ldc2 C.x C.b C.ow (C.ts _ (List.mem_cons_of_mem _ kw705)) dX5_longestRun_27 ?_
      refine W.lcmp C.x C.b dX5_longestRun_30 ?_
      refine lv_if_eq (tgt := 68) C.x C.b dX5_longestRun_31 (by decide) (fun c9 => ?_) (fun c9 => ?_)
      · replace hp := it_t c9 hp
        exact wX5_longestRun_b11j68 a_this a_this_told n_this_told (z11.1) (z11.2.1) (z11.2.2.1) (z11.2.2.2) (x_held) (x_told) o C H locs ls hp hw (lv_sub hl [0, 1, 2, 3, 4] rfl) kb kx
      · replace hp := it_f c9 hp
        refine lv_aload_n C.x C.b dX5_longestRun_34 rfl (lv_at hl 0 rfl) ?_
        refine q_get (v := .ref a_this_told) (T := TX5) C hw 0 0 rfl rfl rfl inX5 (by decide) kw152 rfl dX5_longestRun_35 ?_
        refine lv_iload C.x C.b dX5_longestRun_38 (lv_at hl 4 rfl) ?_
        obtain ⟨hi, hp⟩ := ck_some hp
        refine q_lald C hw 1 rfl hi dX5_longestRun_40 ?_
        refine lv_lload_n C.x C.b dX5_longestRun_41 rfl (lv_at hl 3 rfl) ?_
        refine W.lcmp C.x C.b dX5_longestRun_42 ?_
        refine lv_if_ne (tgt := 52) C.x C.b dX5_longestRun_43 (by decide) (fun c9 => ?_) (fun c9 => ?_)
        · replace hp := it_f c9 hp
          refine lv_iconst (v := 1) C.x C.b dX5_longestRun_52 (by decide) ?_
          exact wX5_longestRun_b11j53 a_this a_this_told n_this_told (z11.1) (z11.2.1) (z11.2.2.1) (z11.2.2.2) (1) (x_held) (x_told) o C H locs ls hp hw (lv_sub hl [0, 1, 2, 3, 4] rfl) kb kx
        · replace hp := it_t c9 hp
          refine lv_iload_n C.x C.b dX5_longestRun_46 rfl (lv_at hl 2 rfl) ?_
          refine lv_iconst (v := 1) C.x C.b dX5_longestRun_47 (by decide) ?_
          refine lv_iadd C.x C.b dX5_longestRun_48 ?_
          refine lv_goto (tgt := 53) C.x C.b dX5_longestRun_49 (by decide) ?_
          exact wX5_longestRun_b11j53 a_this a_this_told n_this_told (z11.1) (z11.2.1) (z11.2.2.1) (z11.2.2.2) ((z11.2.1 + 1)) (x_held) (x_told) o C H locs ls hp hw (lv_sub hl [0, 1, 2, 3, 4] rfl) kb kx
set_option maxRecDepth 100000 in
set_option maxHeartbeats 4000000 in
theorem tX5_longestRun (l : Launch) (D : va_G) (y : Nat → ClassId) (a_this a_this_told : Nat) (n_this_told : Nat) (x_held : Int32) (x_told : Nat → Int64) (z0 : Int32) (hp : pX5_longestRun n_this_told x_held x_told = some z0) : CI D y l yX5_longestRun (Cond.code yX5_longestRun cX5_longestRun 6 (some .int) :: tbG) { frames := 1, cells := 0, slots := 0, locals := 21 } [.ref a_this] [(a_this, .inr (5, [.ref a_this_told, .int (x_held)])), (a_this_told, .inl (y 1, n_this_told, .inr (.inl (x_told))))] [(a_this, .inr (5, [.ref a_this_told, .int (x_held)])), (a_this_told, .inl (y 1, n_this_told, .inr (.inl (x_told))))] (z0) := by
  refine CI.of (own := RX5) (by decide) rfl (Nat.le_of_ble_eq_true rfl) ?_
  intro p e s m args below meth c A H locs ls C hw hl
  have hl : lv_has ls 6 [(0, .ref a_this)] := hl
  unfold pX5_longestRun at hp
  refine lv_iconst (v := 0) C.x C.b dX5_longestRun_0 (by decide) ?_
  refine lv_istore_n (lv' := [(1, .int (0)), (0, .ref a_this)]) C.x C.b dX5_longestRun_1 rfl hl (by decide) rfl (fun ls hl => ?_)
  refine lv_iconst (v := 0) C.x C.b dX5_longestRun_2 (by decide) ?_
  refine lv_istore_n (lv' := [(2, .int (0)), (1, .int (0)), (0, .ref a_this)]) C.x C.b dX5_longestRun_3 rfl hl (by decide) rfl (fun ls hl => ?_)
  refine lv_ldc2 C.x C.b C.ow (C.ts _ (List.mem_cons_of_mem _ kw559)) dX5_longestRun_4 ?_
  refine lv_lstore_n (lv' := [(3, .long ((-4294967296))), (2, .int (0)), (1, .int (0)), (0, .ref a_this)]) C.x C.b dX5_longestRun_7 rfl hl (by decide) rfl (fun ls hl => ?_)
  refine lv_iconst (v := 0) C.x C.b dX5_longestRun_8 (by decide) ?_
  refine lv_istore (lv' := [(5, .int (0)), (3, .long ((-4294967296))), (2, .int (0)), (1, .int (0)), (0, .ref a_this)]) C.x C.b dX5_longestRun_9 hl (by decide) rfl (fun ls hl => ?_)
  obtain ⟨y11, hlp, hp⟩ := bd_some hp
  refine wX5_longestRun_b11 a_this a_this_told n_this_told (x_held) (x_told) C FU (0, 0, (-4294967296), 0) y11 H locs ls hlp hw (lv_sub hl [4, 3, 2, 1, 0] rfl) (fun H locs ls hw hl => ?_)
  refine lv_iload_n C.x C.b dX5_longestRun_74 rfl (lv_at hl 0 rfl) ?_
  obtain rfl := Option.some.inj hp
  exact q_iret C hw rfl dX5_longestRun_75
theorem okX5_firstUnlike : okY yX5_firstUnlike 1 := ⟨by decide +kernel, by decide +kernel, by decide +kernel⟩
set_option maxRecDepth 100000 in
set_option maxHeartbeats 4000000 in
theorem wX5_firstUnlike_b14 {D : va_G} {y : Nat → ClassId} {p : Program} {l : Launch} {e : Env} {s : State} {m : MethodId} {args : Array Value} {below : List Frame} {meth : Method} {c : Code} {A : Nat → Prop} (a_this a_p1 a_this_told a_p1_told : Nat) (n_this_told n_p1_told : Nat) (v2 : Int32) (x_held : Int32) (x_told : Nat → Int64) (x_p1_held : Int32) (x_p1_told : Nat → Int64) (z0 : Int32) (C : Cx D y p s m args meth c A RX5 cX5_firstUnlike (Cond.code yX5_firstUnlike cX5_firstUnlike 4 (some .int)) (some .int) 4) : ∀ (k : Nat) (z14 : Int32) (q14 : (Int32) ⊕ (Int32)) (H : Heap) (locs : List Loc) (ls : Array Slot), lp (pX5_firstUnlike_b14 n_this_told n_p1_told v2 x_held x_told x_p1_held x_p1_told) k z14 = some q14 → St D A s H locs [(a_this, .inr (5, [.ref a_this_told, .int (x_held)])), (a_this_told, .inl (y 1, n_this_told, .inr (.inl (x_told)))), (a_p1, .inr (5, [.ref a_p1_told, .int (x_p1_held)])), (a_p1_told, .inl (y 1, n_p1_told, .inr (.inl (x_p1_told))))] → lv_has ls 4 [(0, .ref a_this), (1, .ref a_p1), (2, .int (v2)), (3, .int (z14))] → (∀ (o14 : Int32) (H : Heap) (locs : List Loc) (ls : Array Slot), q14 = .inl o14 → St D A s H locs [(a_this, .inr (5, [.ref a_this_told, .int (x_held)])), (a_this_told, .inl (y 1, n_this_told, .inr (.inl (x_told)))), (a_p1, .inr (5, [.ref a_p1_told, .int (x_p1_held)])), (a_p1_told, .inl (y 1, n_p1_told, .inr (.inl (x_p1_told))))] → lv_has ls 4 [] → W p l e { frames := 2, cells := 0, slots := 0, locals := 42 } s m args below meth c H locs 0 0 (QI D s A args below [(a_this, .inr (5, [.ref a_this_told, .int (x_held)])), (a_this_told, .inl (y 1, n_this_told, .inr (.inl (x_told)))), (a_p1, .inr (5, [.ref a_p1_told, .int (x_p1_held)])), (a_p1_told, .inl (y 1, n_p1_told, .inr (.inl (x_p1_told))))] (z0)) (F0 m 41 ls [])) → (∀ z9 : Int32, q14 = .inr z9 → z9 = z0) → W p l e { frames := 2, cells := 0, slots := 0, locals := 42 } s m args below meth c H locs 0 0 (QI D s A args below [(a_this, .inr (5, [.ref a_this_told, .int (x_held)])), (a_this_told, .inl (y 1, n_this_told, .inr (.inl (x_told)))), (a_p1, .inr (5, [.ref a_p1_told, .int (x_p1_held)])), (a_p1_told, .inl (y 1, n_p1_told, .inr (.inl (x_p1_told))))] (z0)) (F0 m 14 ls []) := by
  intro k
  induction k with
  | zero => intro z14 o9 H locs ls hp; exact lp_zero hp
  | succ k ih =>
    intro z14 q14 H locs ls hlp hw hl kx0 kr0
    obtain ⟨o, hp, hk1, hk2⟩ := lp_succ hlp
    have kb : ∀ (z9 : Int32) (H : Heap) (locs : List Loc) (ls : Array Slot), o = .inl z9 → St D A s H locs [(a_this, .inr (5, [.ref a_this_told, .int (x_held)])), (a_this_told, .inl (y 1, n_this_told, .inr (.inl (x_told)))), (a_p1, .inr (5, [.ref a_p1_told, .int (x_p1_held)])), (a_p1_told, .inl (y 1, n_p1_told, .inr (.inl (x_p1_told))))] → lv_has ls 4 [(0, .ref a_this), (1, .ref a_p1), (2, .int (v2)), (3, .int (z9))] → W p l e { frames := 2, cells := 0, slots := 0, locals := 42 } s m args below meth c H locs 0 0 (QI D s A args below [(a_this, .inr (5, [.ref a_this_told, .int (x_held)])), (a_this_told, .inl (y 1, n_this_told, .inr (.inl (x_told)))), (a_p1, .inr (5, [.ref a_p1_told, .int (x_p1_held)])), (a_p1_told, .inl (y 1, n_p1_told, .inr (.inl (x_p1_told))))] (z0)) (F0 m 14 ls []) := fun z9 H locs ls ho hw hl => ih z9 q14 H locs ls (hk1 z9 ho) hw hl kx0 kr0
    have kx : ∀ (z9 : Int32) (H : Heap) (locs : List Loc) (ls : Array Slot), o = .inr (.inl z9) → St D A s H locs [(a_this, .inr (5, [.ref a_this_told, .int (x_held)])), (a_this_told, .inl (y 1, n_this_told, .inr (.inl (x_told)))), (a_p1, .inr (5, [.ref a_p1_told, .int (x_p1_held)])), (a_p1_told, .inl (y 1, n_p1_told, .inr (.inl (x_p1_told))))] → lv_has ls 4 [] → W p l e { frames := 2, cells := 0, slots := 0, locals := 42 } s m args below meth c H locs 0 0 (QI D s A args below [(a_this, .inr (5, [.ref a_this_told, .int (x_held)])), (a_this_told, .inl (y 1, n_this_told, .inr (.inl (x_told)))), (a_p1, .inr (5, [.ref a_p1_told, .int (x_p1_held)])), (a_p1_told, .inl (y 1, n_p1_told, .inr (.inl (x_p1_told))))] (z0)) (F0 m 41 ls []) := fun z9 H locs ls ho hw hl => kx0 z9 H locs ls (hk2 _ ho).symm hw hl
    have kr : ∀ z9 : Int32, o = .inr (.inr z9) → z9 = z0 := fun z9 ho => kr0 z9 (hk2 _ ho).symm
    clear ih hk1 hk2 hlp kx0
    unfold pX5_firstUnlike_b14 at hp
    refine lv_iload_n C.x C.b dX5_firstUnlike_14 rfl (lv_at hl 3 rfl) ?_
    refine lv_iload_n C.x C.b dX5_firstUnlike_15 rfl (lv_at hl 2 rfl) ?_
    refine lv_icmp_ge (tgt := 41) C.x C.b dX5_firstUnlike_16 (by decide) (fun c9 => ?_) (fun c9 => ?_)
    · replace hp := it_t c9 hp
      exact kx _ H locs ls (Option.some.inj hp).symm hw (lv_sub hl [] rfl)
    · replace hp := it_f c9 hp
      refine lv_aload_n C.x C.b dX5_firstUnlike_19 rfl (lv_at hl 0 rfl) ?_
      refine lv_iload_n C.x C.b dX5_firstUnlike_20 rfl (lv_at hl 3 rfl) ?_
      obtain ⟨k21, hk, hp⟩ := bd_some hp
      refine q_aftL (wc := [(a_this, .inr (5, [.ref a_this_told, .int (x_held)])), (a_this_told, .inl (y 1, n_this_told, .inr (.inl (x_told))))]) (wr := [(a_p1, .inr (5, [.ref a_p1_told, .int (x_p1_held)])), (a_p1_told, .inl (y 1, n_p1_told, .inr (.inl (x_p1_told))))]) (w1 := [(a_this, .inr (5, [.ref a_this_told, .int (x_held)])), (a_this_told, .inl (y 1, n_this_told, .inr (.inl (x_told))))]) (w2 := [(a_this, .inr (5, [.ref a_this_told, .int (x_held)])), (a_this_told, .inl (y 1, n_this_told, .inr (.inl (x_told)))), (a_p1, .inr (5, [.ref a_p1_told, .int (x_p1_held)])), (a_p1_told, .inl (y 1, n_p1_told, .inr (.inl (x_p1_told))))]) C hw [0, 1] [2, 3] [2, 3, 0, 1] rfl rfl (by decide) (by decide) (by decide) rfl (q_runV (As := [.int (z14)]) (rest := []) (q0 := 0) (ci := 5) C hw (tX5_tellAt l D y a_this a_this_told n_this_told z14 x_held x_told k21 hk H.size) [0, 1] rfl (by decide) rfl rfl kw792 kw556 kw557 kw115 kw558 okX5_tellAt ⟨rfl, rfl⟩ ⟨Nat.le_of_ble_eq_true rfl, Nat.le_of_ble_eq_true rfl⟩ rfl hl.1 rfl (Nat.le_of_ble_eq_true rfl) dX5_firstUnlike_21 ⟨Nat.zero_le _, Nat.zero_le _⟩) (fun H locs hw => ?_)
      refine lv_aload_n C.x C.b dX5_firstUnlike_24 rfl (lv_at hl 1 rfl) ?_
      refine lv_iload_n C.x C.b dX5_firstUnlike_25 rfl (lv_at hl 3 rfl) ?_
      obtain ⟨k26, hk, hp⟩ := bd_some hp
      refine q_aftL (wc := [(a_p1, .inr (5, [.ref a_p1_told, .int (x_p1_held)])), (a_p1_told, .inl (y 1, n_p1_told, .inr (.inl (x_p1_told))))]) (wr := [(a_this, .inr (5, [.ref a_this_told, .int (x_held)])), (a_this_told, .inl (y 1, n_this_told, .inr (.inl (x_told))))]) (w1 := [(a_p1, .inr (5, [.ref a_p1_told, .int (x_p1_held)])), (a_p1_told, .inl (y 1, n_p1_told, .inr (.inl (x_p1_told))))]) (w2 := [(a_this, .inr (5, [.ref a_this_told, .int (x_held)])), (a_this_told, .inl (y 1, n_this_told, .inr (.inl (x_told)))), (a_p1, .inr (5, [.ref a_p1_told, .int (x_p1_held)])), (a_p1_told, .inl (y 1, n_p1_told, .inr (.inl (x_p1_told))))]) C hw [2, 3] [0, 1] [0, 1, 2, 3] rfl rfl (by decide) (by decide) (by decide) rfl (q_runV (As := [.int (z14)]) (rest := [.long (k21)]) (q0 := 2) (ci := 5) C hw (tX5_tellAt l D y a_p1 a_p1_told n_p1_told z14 x_p1_held x_p1_told k26 hk H.size) [2, 3] rfl (by decide) rfl rfl kw792 kw556 kw557 kw115 kw558 okX5_tellAt ⟨rfl, rfl⟩ ⟨Nat.le_of_ble_eq_true rfl, Nat.le_of_ble_eq_true rfl⟩ rfl hl.1 rfl (Nat.le_of_ble_eq_true rfl) dX5_firstUnlike_26 ⟨Nat.zero_le _, Nat.zero_le _⟩) (fun H locs hw => ?_)
      refine W.lcmp C.x C.b dX5_firstUnlike_29 ?_
      refine lv_if_eq (tgt := 35) C.x C.b dX5_firstUnlike_30 (by decide) (fun c9 => ?_) (fun c9 => ?_)
      · replace hp := it_t c9 hp
        refine lv_iinc (v := (z14 + 1)) (lv' := [(3, .int ((z14 + 1))), (0, .ref a_this), (1, .ref a_p1), (2, .int (v2))]) C.x C.b dX5_firstUnlike_35 hl (k := 3) rfl rfl (by decide) rfl (fun ls hl => ?_)
        refine lv_goto (tgt := 14) C.x C.b dX5_firstUnlike_38 (by decide) ?_
        exact kb _ H locs ls (Option.some.inj hp).symm hw (lv_sub hl [1, 2, 3, 0] rfl)
      · replace hp := it_f c9 hp
        refine lv_iload_n C.x C.b dX5_firstUnlike_33 rfl (lv_at hl 3 rfl) ?_
        obtain rfl := kr _ (Option.some.inj hp).symm
        exact q_iret C hw rfl dX5_firstUnlike_34
set_option maxRecDepth 100000 in
set_option maxHeartbeats 4000000 in
theorem tX5_firstUnlike (l : Launch) (D : va_G) (y : Nat → ClassId) (a_this a_p1 a_this_told a_p1_told : Nat) (n_this_told n_p1_told : Nat) (x_held : Int32) (x_told : Nat → Int64) (x_p1_held : Int32) (x_p1_told : Nat → Int64) (z0 : Int32) (hp : pX5_firstUnlike n_this_told n_p1_told x_held x_told x_p1_held x_p1_told = some z0) : CI D y l yX5_firstUnlike (Cond.code yX5_firstUnlike cX5_firstUnlike 4 (some .int) :: tbG) { frames := 2, cells := 0, slots := 0, locals := 42 } [.ref a_this, .ref a_p1] [(a_this, .inr (5, [.ref a_this_told, .int (x_held)])), (a_this_told, .inl (y 1, n_this_told, .inr (.inl (x_told)))), (a_p1, .inr (5, [.ref a_p1_told, .int (x_p1_held)])), (a_p1_told, .inl (y 1, n_p1_told, .inr (.inl (x_p1_told))))] [(a_this, .inr (5, [.ref a_this_told, .int (x_held)])), (a_this_told, .inl (y 1, n_this_told, .inr (.inl (x_told)))), (a_p1, .inr (5, [.ref a_p1_told, .int (x_p1_held)])), (a_p1_told, .inl (y 1, n_p1_told, .inr (.inl (x_p1_told))))] (z0) := by
  refine CI.of (own := RX5) (by decide) rfl (Nat.le_of_ble_eq_true rfl) ?_
  intro p e s m args below meth c A H locs ls C hw hl
  have hl : lv_has ls 4 [(0, .ref a_this), (1, .ref a_p1)] := hl
  unfold pX5_firstUnlike at hp
  refine lv_aload_n C.x C.b dX5_firstUnlike_0 rfl (lv_at hl 0 rfl) ?_
  refine q_get (v := .int (x_held)) (T := TX5) C hw 0 1 rfl rfl rfl inX5 (by decide) kw154 rfl dX5_firstUnlike_1 ?_
  refine lv_aload_n C.x C.b dX5_firstUnlike_4 rfl (lv_at hl 1 rfl) ?_
  refine q_get (v := .int (x_p1_held)) (T := TX5) C hw 2 1 rfl rfl rfl inX5 (by decide) kw154 rfl dX5_firstUnlike_5 ?_
  obtain ⟨k8, hk, hp⟩ := bd_some hp
  refine q_aftI (wc := []) (wr := [(a_this, .inr (5, [.ref a_this_told, .int (x_held)])), (a_this_told, .inl (y 1, n_this_told, .inr (.inl (x_told)))), (a_p1, .inr (5, [.ref a_p1_told, .int (x_p1_held)])), (a_p1_told, .inl (y 1, n_p1_told, .inr (.inl (x_p1_told))))]) (w1 := []) (w2 := [(a_this, .inr (5, [.ref a_this_told, .int (x_held)])), (a_this_told, .inl (y 1, n_this_told, .inr (.inl (x_told)))), (a_p1, .inr (5, [.ref a_p1_told, .int (x_p1_held)])), (a_p1_told, .inl (y 1, n_p1_told, .inr (.inl (x_p1_told))))]) C hw [] [0, 1, 2, 3] [0, 1, 2, 3] rfl rfl (by decide) (by decide) (by decide) rfl (q_runS (As := [.int (x_held), .int (x_p1_held)]) (rest := []) C hw (tJ9_max_7cf53 l D y x_held x_p1_held k8 hk H.size) [] rfl (by decide) kw791 kw592 kw124 kw593 okJ9_max_7cf53 ⟨rfl, rfl⟩ ⟨Nat.le_of_ble_eq_true rfl, Nat.le_of_ble_eq_true rfl⟩ rfl hl.1 rfl (Nat.le_of_ble_eq_true rfl) dX5_firstUnlike_8 ⟨Nat.zero_le _, Nat.zero_le _⟩) (fun H locs hw => ?_)
  refine lv_istore_n (lv' := [(2, .int (k8)), (0, .ref a_this), (1, .ref a_p1)]) C.x C.b dX5_firstUnlike_11 rfl hl (by decide) rfl (fun ls hl => ?_)
  refine lv_iconst (v := 0) C.x C.b dX5_firstUnlike_12 (by decide) ?_
  refine lv_istore_n (lv' := [(3, .int (0)), (2, .int (k8)), (0, .ref a_this), (1, .ref a_p1)]) C.x C.b dX5_firstUnlike_13 rfl hl (by decide) rfl (fun ls hl => ?_)
  obtain ⟨y14, hlp, hp⟩ := bd_some hp
  refine wX5_firstUnlike_b14 a_this a_p1 a_this_told a_p1_told n_this_told n_p1_told (k8) (x_held) (x_told) (x_p1_held) (x_p1_told) z0 C FU 0 y14 H locs ls hlp hw (lv_sub hl [2, 3, 1, 0] rfl) (fun s14 H locs ls hq hw hl => ?_) (fun z9 hq => by subst hq; exact Option.some.inj hp)
  subst hq
  replace hp := sx_inl hp
  refine lv_iconst (v := (-1)) C.x C.b dX5_firstUnlike_41 (by decide) ?_
  obtain rfl := Option.some.inj hp
  exact q_iret C hw rfl dX5_firstUnlike_42
theorem okX8_has : okY yX8_has 1 := ⟨by decide +kernel, by decide +kernel, by decide +kernel⟩
set_option maxRecDepth 100000 in
set_option maxHeartbeats 4000000 in
theorem tX8_has (l : Launch) (D : va_G) (y : Nat → ClassId) (a_this a_this_words : Nat) (v1 : Int32) (x_held : Int32) (z0 : Int32) (hp : pX8_has v1 x_held = some z0) : CZ D y l yX8_has (Cond.code yX8_has cX8_has 2 (some .boolean) :: tbG) { frames := 0, cells := 0, slots := 0, locals := 0 } [.ref a_this, .int (v1)] [(a_this, .inr (8, [.ref a_this_words, .int (x_held)]))] [(a_this, .inr (8, [.ref a_this_words, .int (x_held)]))] (z0) := by
  refine CZ.of (own := RX8) (by decide) rfl (Nat.le_of_ble_eq_true rfl) ?_
  intro p e s m args below meth c A H locs ls C hw hl
  have hl : lv_has ls 2 [(0, .ref a_this), (1, .int (v1))] := hl
  unfold pX8_has at hp
  refine lv_iload_n C.x C.b dX8_has_0 rfl (lv_at hl 1 rfl) ?_
  refine lv_if_lt (tgt := 16) C.x C.b dX8_has_1 (by decide) (fun c9 => ?_) (fun c9 => ?_)
  · replace hp := it_t c9 hp
    refine lv_iconst (v := 0) C.x C.b dX8_has_16 (by decide) ?_
    obtain rfl := Option.some.inj hp
    exact q_zret C hw (by decide) rfl dX8_has_17
  · replace hp := it_f c9 hp
    refine lv_iload_n C.x C.b dX8_has_4 rfl (lv_at hl 1 rfl) ?_
    refine lv_aload_n C.x C.b dX8_has_5 rfl (lv_at hl 0 rfl) ?_
    refine q_get (v := .int (x_held)) (T := TX8) C hw 0 1 rfl rfl rfl inX8 (by decide) kw228 rfl dX8_has_6 ?_
    refine lv_icmp_ge (tgt := 16) C.x C.b dX8_has_9 (by decide) (fun c9 => ?_) (fun c9 => ?_)
    · replace hp := it_t c9 hp
      refine lv_iconst (v := 0) C.x C.b dX8_has_16 (by decide) ?_
      obtain rfl := Option.some.inj hp
      exact q_zret C hw (by decide) rfl dX8_has_17
    · replace hp := it_f c9 hp
      refine lv_iconst (v := 1) C.x C.b dX8_has_12 (by decide) ?_
      refine lv_goto (tgt := 17) C.x C.b dX8_has_13 (by decide) ?_
      obtain rfl := Option.some.inj hp
      exact q_zret C hw (by decide) rfl dX8_has_17
theorem okX8_append : okY yX8_append 1 := ⟨by decide +kernel, by decide +kernel, by decide +kernel⟩
set_option maxRecDepth 100000 in
set_option maxHeartbeats 4000000 in
theorem tX8_append (l : Launch) (D : va_G) (y : Nat → ClassId) (a_this a_this_words : Nat) (v1 : Int32) (x_held : Int32) (x_words : Nat → Int32) (z0 : Int32 × Int32 × (Nat → Int32)) (hp : pX8_append v1 x_held x_words = some z0) : CZ D y l yX8_append (Cond.code yX8_append cX8_append 2 (some .boolean) :: tbG) { frames := 0, cells := 0, slots := 0, locals := 0 } [.ref a_this, .int (v1)] [(a_this, .inr (8, [.ref a_this_words, .int (x_held)])), (a_this_words, .inl (y 0, 400, .inl (x_words)))] [(a_this, .inr (8, [.ref a_this_words, .int (z0.2.1)])), (a_this_words, .inl (y 0, 400, .inl (z0.2.2)))] (z0.1) := by
  refine CZ.of (own := RX8) (by decide) rfl (Nat.le_of_ble_eq_true rfl) ?_
  intro p e s m args below meth c A H locs ls C hw hl
  have hl : lv_has ls 2 [(0, .ref a_this), (1, .int (v1))] := hl
  unfold pX8_append at hp
  refine lv_aload_n C.x C.b dX8_append_0 rfl (lv_at hl 0 rfl) ?_
  refine q_get (v := .int (x_held)) (T := TX8) C hw 0 1 rfl rfl rfl inX8 (by decide) kw228 rfl dX8_append_1 ?_
  refine lv_sipush (v := 400) C.x C.b dX8_append_4 (by decide) ?_
  refine lv_icmp_lt (tgt := 12) C.x C.b dX8_append_7 (by decide) (fun c9 => ?_) (fun c9 => ?_)
  · replace hp := it_t c9 hp
    refine lv_aload_n C.x C.b dX8_append_12 rfl (lv_at hl 0 rfl) ?_
    refine q_get (v := .ref a_this_words) (T := TX8) C hw 0 0 rfl rfl rfl inX8 (by decide) kw226 rfl dX8_append_13 ?_
    refine lv_aload_n C.x C.b dX8_append_16 rfl (lv_at hl 0 rfl) ?_
    refine q_get (v := .int (x_held)) (T := TX8) C hw 0 1 rfl rfl rfl inX8 (by decide) kw228 rfl dX8_append_17 ?_
    refine lv_iload_n C.x C.b dX8_append_20 rfl (lv_at hl 1 rfl) ?_
    obtain ⟨hi, hp⟩ := ck_some hp
    refine q_iast (w2 := [(a_this, .inr (8, [.ref a_this_words, .int (x_held)])), (a_this_words, .inl (y 0, 400, .inl ((upd x_words x_held.toNatClampNeg v1))))]) C hw 1 rfl rfl hi dX8_append_21 (fun H locs hw => ?_)
    refine lv_aload_n C.x C.b dX8_append_22 rfl (lv_at hl 0 rfl) ?_
    refine lv_dup C.x C.b dX8_append_23 rfl ?_
    refine q_get (v := .int (x_held)) (T := TX8) C hw 0 1 rfl rfl rfl inX8 (by decide) kw228 rfl dX8_append_24 ?_
    refine lv_iconst (v := 1) C.x C.b dX8_append_27 (by decide) ?_
    refine lv_iadd C.x C.b dX8_append_28 ?_
    refine q_pf (v := .int ((x_held + 1))) (w2 := [(a_this, .inr (8, [.ref a_this_words, .int ((x_held + 1))])), (a_this_words, .inl (y 0, 400, .inl ((upd x_words x_held.toNatClampNeg v1))))]) (T := TX8) (ty0 := tyX8) (ty := .int) C hw 0 1 rfl rfl (Nat.le_of_ble_eq_true rfl) rfl inX8 tyX8_ok nmX8 (by decide) kw228 rfl rfl rfl rfl rfl dX8_append_29 (fun H locs hw => ?_)
    refine lv_iconst (v := 1) C.x C.b dX8_append_32 (by decide) ?_
    obtain rfl := Option.some.inj hp
    exact q_zret C hw (by decide) rfl dX8_append_33
  · replace hp := it_f c9 hp
    refine lv_iconst (v := 0) C.x C.b dX8_append_10 (by decide) ?_
    obtain rfl := Option.some.inj hp
    exact q_zret C hw (by decide) rfl dX8_append_11
theorem okX8_bitAt : okY yX8_bitAt 1 := ⟨by decide +kernel, by decide +kernel, by decide +kernel⟩
set_option maxRecDepth 100000 in
set_option maxHeartbeats 4000000 in
theorem tX8_bitAt (l : Launch) (D : va_G) (y : Nat → ClassId) (a_this a_this_words : Nat) (v1 : Int32) (x_held : Int32) (x_words : Nat → Int32) (z0 : Int32) (hp : pX8_bitAt v1 x_held x_words = some z0) : CI D y l yX8_bitAt (Cond.code yX8_bitAt cX8_bitAt 3 (some .int) :: tbG) { frames := 1, cells := 0, slots := 0, locals := 21 } [.ref a_this, .int (v1)] [(a_this, .inr (8, [.ref a_this_words, .int (x_held)])), (a_this_words, .inl (y 0, 400, .inl (x_words)))] [(a_this, .inr (8, [.ref a_this_words, .int (x_held)])), (a_this_words, .inl (y 0, 400, .inl (x_words)))] (z0) := by
  refine CI.of (own := RX8) (by decide) rfl (Nat.le_of_ble_eq_true rfl) ?_
  intro p e s m args below meth c A H locs ls C hw hl
  have hl : lv_has ls 3 [(0, .ref a_this), (1, .int (v1))] := hl
  unfold pX8_bitAt at hp
  refine lv_iload_n C.x C.b dX8_bitAt_0 rfl (lv_at hl 1 rfl) ?_
  refine lv_bipush (v := 32) C.x C.b dX8_bitAt_1 (by decide) ?_
  refine lv_idiv C.x C.b dX8_bitAt_3 (by decide) ?_
  refine lv_istore_n (lv' := [(2, .int ((v1 / 32))), (0, .ref a_this), (1, .int (v1))]) C.x C.b dX8_bitAt_4 rfl hl (by decide) rfl (fun ls hl => ?_)
  refine lv_aload_n C.x C.b dX8_bitAt_5 rfl (lv_at hl 1 rfl) ?_
  refine lv_iload_n C.x C.b dX8_bitAt_6 rfl (lv_at hl 0 rfl) ?_
  obtain ⟨k7, hk, hp⟩ := bd_some hp
  refine q_aftZ (wc := [(a_this, .inr (8, [.ref a_this_words, .int (x_held)]))]) (wr := [(a_this_words, .inl (y 0, 400, .inl (x_words)))]) (w1 := [(a_this, .inr (8, [.ref a_this_words, .int (x_held)]))]) (w2 := [(a_this, .inr (8, [.ref a_this_words, .int (x_held)])), (a_this_words, .inl (y 0, 400, .inl (x_words)))]) C hw [0] [1] [1, 0] rfl rfl (by decide) (by decide) (by decide) rfl (q_runV (As := [.int ((v1 / 32))]) (rest := []) (q0 := 0) (ci := 8) C hw (tX8_has l D y a_this a_this_words (v1 / 32) x_held k7 hk H.size) [0] rfl (by decide) rfl rfl kw946 kw857 kw858 kw118 kw859 okX8_has ⟨rfl, rfl⟩ ⟨Nat.le_of_ble_eq_true rfl, Nat.le_of_ble_eq_true rfl⟩ rfl hl.1 rfl (Nat.le_of_ble_eq_true rfl) dX8_bitAt_7 ⟨Nat.zero_le _, Nat.zero_le _⟩) (fun H locs hz7 hw => ?_)
  refine lv_if_eq (tgt := 29) C.x C.b dX8_bitAt_10 (by decide) (fun c9 => ?_) (fun c9 => ?_)
  · replace hp := it_t c9 hp
    refine lv_iconst (v := 0) C.x C.b dX8_bitAt_29 (by decide) ?_
    obtain rfl := Option.some.inj hp
    exact q_iret C hw rfl dX8_bitAt_30
  · replace hp := it_f c9 hp
    refine lv_aload_n C.x C.b dX8_bitAt_13 rfl (lv_at hl 1 rfl) ?_
    refine q_get (v := .ref a_this_words) (T := TX8) C hw 0 0 rfl rfl rfl inX8 (by decide) kw226 rfl dX8_bitAt_14 ?_
    refine lv_iload_n C.x C.b dX8_bitAt_17 rfl (lv_at hl 0 rfl) ?_
    obtain ⟨hi, hp⟩ := ck_some hp
    refine q_iald C hw 1 rfl hi dX8_bitAt_18 ?_
    refine lv_iload_n C.x C.b dX8_bitAt_19 rfl (lv_at hl 2 rfl) ?_
    refine lv_bipush (v := 32) C.x C.b dX8_bitAt_20 (by decide) ?_
    refine lv_irem C.x C.b dX8_bitAt_22 (by decide) ?_
    refine lv_iushr C.x C.b dX8_bitAt_23 rfl ?_
    refine lv_iconst (v := 1) C.x C.b dX8_bitAt_24 (by decide) ?_
    refine lv_iand C.x C.b dX8_bitAt_25 ?_
    refine lv_goto (tgt := 30) C.x C.b dX8_bitAt_26 (by decide) ?_
    obtain rfl := Option.some.inj hp
    exact q_iret C hw rfl dX8_bitAt_30

