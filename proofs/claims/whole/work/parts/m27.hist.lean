/-! ===== the steps that are kept: rows of a ring ===== -/
def CVM (D : va_G) (y : Nat → ClassId) (l : Launch) (yn : MethodName) (ws : List Cond) (rm : Room) (av : List Value) (w w1 : va_W) : Prop := ∀ sz : Nat, Met l yn ws rm (va_Pc av (CtPre D y w sz)) (va_Qv (fun (_ : Unit) => True) (CtPost D w1 (va_A w sz)) (va_A w sz)) mC mS (va_A w sz)
def CVB (D : va_G) (y : Nat → ClassId) (l : Launch) (yn : MethodName) (ws : List Cond) (rm : Room) (av : List Value) (w : va_W) (w1 : Nat × (Nat → Nat) → va_W) : Prop := ∀ sz : Nat, Met l yn ws rm (va_Pc av (CtPre D y w sz)) (va_Qv (fun (_ : Nat × (Nat → Nat)) => True) (fun x t => CtPost D (w1 x) (va_A w sz) () t) (va_A w sz)) mC mS (va_A w sz)
def CR (D : va_G) (y : Nat → ClassId) (l : Launch) (yn : MethodName) (ws : List Cond) (rm : Room) (av : List Value) (w : va_W) (w1 : Nat → (Nat → Nat) → va_W) (mc ms : Nat) : Prop := ∀ sz : Nat, Met l yn ws rm (va_Pc av (CtPre D y w sz)) (va_Qr (fun (_ : Nat → Nat) => True) (fun u ra t => CtPost D (w1 ra u) (va_A w sz) () t) (va_A w sz)) mc ms (va_A w sz)
abbrev QVM (D : va_G) (s : State) (A : Nat → Prop) (args : Array Value) (below : List Frame) (w1 : va_W) : State → Prop := MQ below (va_Qv (fun (_ : Unit) => True) (CtPost D w1 A) A) args s mC mS A
abbrev QVB (D : va_G) (s : State) (A : Nat → Prop) (args : Array Value) (below : List Frame) (w1 : Nat × (Nat → Nat) → va_W) : State → Prop := MQ below (va_Qv (fun (_ : Nat × (Nat → Nat)) => True) (fun x t => CtPost D (w1 x) A () t) A) args s mC mS A
abbrev QR (D : va_G) (s : State) (A : Nat → Prop) (args : Array Value) (below : List Frame) (w1 : Nat → (Nat → Nat) → va_W) (mc ms : Nat) : State → Prop := MQ below (va_Qr (fun (_ : Nat → Nat) => True) (fun u ra t => CtPost D (w1 ra u) A () t) A) args s mc ms A
theorem CVM.of {D : va_G} {y : Nat → ClassId} {l : Launch} {yn : MethodName} {rm : Room} {av : List Value} {w : va_W} {w1 : va_W} {cc : ByteArray} {maxL : Nat} {own : String} (hy : plainName yn.cls = true) (ho : yn.cls = own) (hn : (lg_sl av).length ≤ maxL)
    (h : ∀ (p : Program) (e : Env) (s : State) (m : MethodId) (args : Array Value) (below : List Frame) (meth : Method) (c : Code) (A : Nat → Prop) (H : Heap) (locs : List Loc) (ls : Array Slot), Cx D y p s m args meth c A own cc (Cond.code yn cc maxL none) none maxL → St D A s H locs w → lv_has ls maxL (lv_args 0 av) → W p l e rm s m args below meth c H locs 0 0 (QVM D s A args below w1) (F0 m 0 ls [])) : CVM D y l yn (Cond.code yn cc maxL none :: tbG) rm av w w1 := by
  intro sz
  refine Met.ofW (cc := cc) (maxL := maxL) (ret := none) hy rfl ?_
  intro p e s m args below meth c s₁ B hml hv
  obtain ⟨rfl, hsz, hP, hK, hD⟩ := hv
  subst hsz
  rw [lg_entry_eq]
  exact h p e s m _ below meth c _ _ _ _ (of_cx B hml ho hK) ⟨hP, hD.self, va_S.rf⟩ (lv_entry av hn)
theorem CVB.of {D : va_G} {y : Nat → ClassId} {l : Launch} {yn : MethodName} {rm : Room} {av : List Value} {w : va_W} {w1 : Nat × (Nat → Nat) → va_W} {cc : ByteArray} {maxL : Nat} {own : String} (hy : plainName yn.cls = true) (ho : yn.cls = own) (hn : (lg_sl av).length ≤ maxL)
    (h : ∀ (p : Program) (e : Env) (s : State) (m : MethodId) (args : Array Value) (below : List Frame) (meth : Method) (c : Code) (A : Nat → Prop) (H : Heap) (locs : List Loc) (ls : Array Slot), Cx D y p s m args meth c A own cc (Cond.code yn cc maxL none) none maxL → St D A s H locs w → lv_has ls maxL (lv_args 0 av) → W p l e rm s m args below meth c H locs 0 0 (QVB D s A args below w1) (F0 m 0 ls [])) : CVB D y l yn (Cond.code yn cc maxL none :: tbG) rm av w w1 := by
  intro sz
  refine Met.ofW (cc := cc) (maxL := maxL) (ret := none) hy rfl ?_
  intro p e s m args below meth c s₁ B hml hv
  obtain ⟨rfl, hsz, hP, hK, hD⟩ := hv
  subst hsz
  rw [lg_entry_eq]
  exact h p e s m _ below meth c _ _ _ _ (of_cx B hml ho hK) ⟨hP, hD.self, va_S.rf⟩ (lv_entry av hn)
theorem CR.of {D : va_G} {y : Nat → ClassId} {l : Launch} {yn : MethodName} {rm : Room} {av : List Value} {w : va_W} {w1 : Nat → (Nat → Nat) → va_W} {cc : ByteArray} {maxL mc ms : Nat} {own : String} {rt : FieldType} (hy : plainName yn.cls = true) (ho : yn.cls = own) (hn : (lg_sl av).length ≤ maxL)
    (h : ∀ (p : Program) (e : Env) (s : State) (m : MethodId) (args : Array Value) (below : List Frame) (meth : Method) (c : Code) (A : Nat → Prop) (H : Heap) (locs : List Loc) (ls : Array Slot), Cx D y p s m args meth c A own cc (Cond.code yn cc maxL (some rt)) (some rt) maxL → St D A s H locs w → lv_has ls maxL (lv_args 0 av) → W p l e rm s m args below meth c H locs 0 0 (QR D s A args below w1 mc ms) (F0 m 0 ls [])) : CR D y l yn (Cond.code yn cc maxL (some rt) :: tbG) rm av w w1 mc ms := by
  intro sz
  refine Met.ofW (cc := cc) (maxL := maxL) (ret := (some rt)) hy rfl ?_
  intro p e s m args below meth c s₁ B hml hv
  obtain ⟨rfl, hsz, hP, hK, hD⟩ := hv
  subst hsz
  rw [lg_entry_eq]
  exact h p e s m _ below meth c _ _ _ _ (of_cx B hml ho hK) ⟨hP, hD.self, va_S.rf⟩ (lv_entry av hn)
section HistRows
variable {D : va_G} {y : Nat → ClassId} {p : Program} {l : Launch} {e : Env} {R : Room} {s : State} {m : MethodId} {args : Array Value} {below : List Frame} {meth : Method} {c : Code} {H : Heap} {locs : List Loc} {cells slots : Nat} {Q : State → Prop} {A : Nat → Prop} {own : String} {cc : ByteArray} {cd : Cond} {ret : Option FieldType} {nL pc : Nat} {ls : Array Slot} {rest st0 : List Value} {ws wr wc : va_W} {k n : Nat}
theorem q_vretM (C : Cx D y p s m args meth c A own cc cd none nL) (hw : St D A s H locs ws) (hk : k ≤ mC) (hn : n ≤ mS) (hdg : decode cc pc = .ok (.return_, 1)) : W p l e R s m args below meth c H locs k n (QVM D s A args below ws) (F0 m pc ls []) := by
  refine W.widen hk hn ?_
  exact W.vret C.x C.b C.r (fun t ht _ => ⟨⟨(), rfl, trivial, by rw [ht]; exact hw.1, hw.2.1⟩, hw.2.2.F ht⟩) hw.2.2.2.2 hdg C.lk
theorem q_vretB {w1 : Nat × (Nat → Nat) → va_W} (C : Cx D y p s m args meth c A own cc cd none nL) (x : Nat × (Nat → Nat)) (hw : St D A s H locs ws) (hws : ws = w1 x) (hk : k ≤ mC) (hn : n ≤ mS) (hdg : decode cc pc = .ok (.return_, 1)) : W p l e R s m args below meth c H locs k n (QVB D s A args below w1) (F0 m pc ls []) := by
  subst hws
  refine W.widen hk hn ?_
  exact W.vret C.x C.b C.r (fun t ht _ => ⟨⟨x, rfl, trivial, by rw [ht]; exact hw.1, hw.2.1⟩, hw.2.2.F ht⟩) hw.2.2.2.2 hdg C.lk
theorem q_rret {w1 : Nat → (Nat → Nat) → va_W} {mc ms ra : Nat} {cn : String} (C : Cx D y p s m args meth c A own cc cd (some (.object cn)) nL) (u : Nat → Nat) (hw : St D A s H locs ws) (hws : ws = w1 ra u) (hk : k ≤ mc) (hn : n ≤ ms) (hdg : decode cc pc = .ok (.areturn, 1)) : W p l e R s m args below meth c H locs k n (QR D s A args below w1 mc ms) (F0 m pc ls [.ref ra]) := by
  subst hws
  refine W.widen hk hn ?_
  exact W.aret C.x C.b C.r (Or.inl ⟨cn, rfl⟩) (Or.inr ⟨ra, rfl⟩) (fun t ht _ => ⟨⟨u, ra, rfl, trivial, by rw [ht]; exact hw.1, hw.2.1⟩, hw.2.2.F ht⟩) hw.2.2.2.2 hdg C.lk
theorem q_runVm {yn : MethodName} {bytes : ByteArray} {maxL index n mc ms : Nat} {rc : Option FieldType} {rm : Room} {As : List Value} {b ci q0 : Nat} {fs : List Value} {T : u_T} {N : Nat} {Qc : Array Value → State → Outcome → State → Prop} {free : Addr → Prop} (C : Cx D y p s m args meth c A own cc cd ret nL) (hw : St D A s H locs ws) (hM : Met l yn (Cond.code yn bytes maxL rc :: tbG) rm (va_Pc (.ref b :: As) (CtPre D y wc H.size)) Qc mc ms free) (isC : List Nat) (hC : isC.map (fun i => ws[i]?) = wc.map some) (hnC : va_nd isC = true)
    (he : ws[q0]? = some (b, .inr (ci, fs))) (hc : vwCl[ci]? = some (yn.cls, T, N)) (hl : Cond.methodLink own index yn ∈ tbG) (hi : Cond.instanceMethod yn ∈ tbG) (hs : Cond.selects yn.cls yn yn ∈ tbG) (hini : Cond.initialized yn.cls ∈ tbG) (hcd : Cond.code yn bytes maxL rc ∈ tbG) (hk : okY yn n) (hm : rm.cells = mc ∧ rm.slots = ms) (hR : rm.frames + 1 ≤ R.frames ∧ 8 + (maxL + 11) + rm.locals ≤ R.locals) (hn : As.length = n) (hsz : ls.size = nL) (hst : st0 = As.reverse ++ .ref b :: rest) (hro : (rest.map fun v => v.category).sum ≤ 8) (hdg : decode cc pc = .ok (.invokevirtual index, 3)) (hf : cells + mc ≤ R.cells ∧ slots + ms ≤ R.slots) :
    va_Run p l e R s m args below meth c H locs cells slots mc ms (F0 m pc ls st0) rest (Qc (Value.ref b :: As).toArray) free := by
  subst hst
  exact va_runV (As := As) (rest := rest) (C := yn.cls) (bytes := bytes) (maxL := maxL) (ret := rc) (n := n) (index := index) ⟨C.x, C.b, C.ml, C.ow, C.ts⟩ hM ⟨callB_of n C.ts (gdC hcd) rfl hm.1 hm.2 (C.ts _ (List.mem_cons_of_mem _ hini)) (C.ts _ (List.mem_cons_of_mem _ hl)) hk hR, C.ts _ (List.mem_cons_of_mem _ hi), C.ts _ (List.mem_cons_of_mem _ hs)⟩ ⟨pc_blind, va_recv C.k.1 hw.1 hc he, pc_here C hw isC hC hnC⟩ rfl hn hsz rfl (lv_room hro) hdg hf
theorem q_aftR {w1 : Nat → (Nat → Nat) → va_W} {mc ms : Nat} {a9 : Array Value} (C : Cx D y p s m args meth c A own cc cd ret nL) (hw : St D A s H locs ws) (isC isR : List Nat) (hC : isC.map (fun i => ws[i]?) = wc.map some) (hR : isR.map (fun i => ws[i]?) = wr.map some) (hn : va_nd isR = true) (hdis : ∀ i ∈ isR, i ∉ isC)
    (hr : va_Run p l e R s m args below meth c H locs cells slots mc ms (F0 m pc ls st0) rest (va_Qr (fun (_ : Nat → Nat) => True) (fun u ra t => CtPost D (w1 ra u) (va_A wc H.size) () t) (va_A wc H.size) a9) (va_A wc H.size))
    (kk : ∀ (ra : Nat) (u : Nat → Nat) (H1 : Heap) (locs1 : List Loc), St D A s H1 locs1 (wr ++ w1 ra u) → W p l e R s m args below meth c H1 locs1 (cells + mc) (slots + ms) Q (F0 m (pc + 3) ls (.ref ra :: rest))) : W p l e R s m args below meth c H locs cells slots Q (F0 m pc ls st0) := by
  have hF := va_free (wc := wc) hw.2.1 hw.2.2 C.a isC hC
  refine va_callr hr hw.2.2 (fun q _ h => hF q h) hF (fun u ra t H1 locs1 ht hvm hp hB hz1 hk1 hS => ?_)
  obtain ⟨hP1, hD1⟩ := hB
  rw [ht] at hP1
  obtain ⟨hP, hD⟩ := va_join (wr := wr) (w1 := w1 ra u) hw.1 hw.2.1 isC isR hC hR hn hdis hk1 hF hP1 hD1
  exact kk ra u H1 locs1 ⟨hP, hD, hS⟩
end HistRows
theorem okX2_rowAt : okY yX2_rowAt 1 := ⟨by decide +kernel, by decide +kernel, by decide +kernel⟩
set_option maxRecDepth 100000 in
set_option maxHeartbeats 4000000 in
/-- rowAt of a row that is there -/
theorem tX2_rowAt (l : Launch) (D : va_G) (y : Nat → ClassId) (a ak ar : Nat) (v1 f hh : Int32) (xk : Nat → Option Nat) (q : Int32) (hq : pJ9_floorMod_7cf53 (f + v1) 20 = some q) (hin : vp_in q 20) (hr : xk q.toNatClampNeg = some ar) : CQ D y l yX2_rowAt (Cond.code yX2_rowAt cX2_rowAt 4 (some (.object "PatchedColumns$State")) :: tbG) { frames := 2, cells := 0, slots := 0, locals := 40 } [.ref a, .int v1] [(a, .inr (2, [.ref ak, .int f, .int hh])), (ak, .inl (y 4, 20, .inr (.inr (.inr (.inr xk)))))] [(a, .inr (2, [.ref ak, .int f, .int hh])), (ak, .inl (y 4, 20, .inr (.inr (.inr (.inr xk)))))] (some ar) := by
  refine CQ.of (own := RX2) (by decide +kernel) rfl (Nat.le_of_ble_eq_true rfl) ?_
  intro p e s m args below meth c A H locs ls C hw hl
  have hl : lv_has ls 4 [(0, .ref a), (1, .int v1)] := hl
  refine lv_aload_n C.x C.b dX2_rowAt_0 rfl (lv_at hl 0 rfl) ?_
  refine q_get (v := .int f) (T := TX2) C hw 0 1 rfl rfl rfl inX2 (by decide) kw210 rfl dX2_rowAt_1 ?_
  refine lv_iload_n C.x C.b dX2_rowAt_4 rfl (lv_at hl 1 rfl) ?_
  refine lv_iadd C.x C.b dX2_rowAt_5 ?_
  refine lv_bipush (v := 20) C.x C.b dX2_rowAt_6 (by decide) ?_
  refine q_aftI (wc := []) (wr := [(a, .inr (2, [.ref ak, .int f, .int hh])), (ak, .inl (y 4, 20, .inr (.inr (.inr (.inr xk)))))]) (w1 := []) (w2 := [(a, .inr (2, [.ref ak, .int f, .int hh])), (ak, .inl (y 4, 20, .inr (.inr (.inr (.inr xk)))))]) C hw [] [0, 1] [0, 1] rfl rfl (by decide) (by decide) (by decide) rfl (q_runS (As := [.int (f + v1), .int 20]) (rest := []) C hw (tJ9_floorMod_7cf53 l D y (f + v1) 20 q hq H.size) [] rfl (by decide) kw481 kw482 kw124 kw483 okJ9_floorMod_7cf53 ⟨rfl, rfl⟩ ⟨Nat.le_of_ble_eq_true rfl, Nat.le_of_ble_eq_true rfl⟩ rfl hl.1 rfl (Nat.le_of_ble_eq_true rfl) dX2_rowAt_8 ⟨Nat.zero_le _, Nat.zero_le _⟩) (fun H locs hw => ?_)
  refine lv_istore_n (lv' := [(2, .int q), (0, .ref a), (1, .int v1)]) C.x C.b dX2_rowAt_11 rfl hl (by decide) rfl (fun ls hl => ?_)
  refine lv_aload_n C.x C.b dX2_rowAt_12 rfl (lv_at hl 1 rfl) ?_
  refine q_get (v := .ref ak) (T := TX2) C hw 0 0 rfl rfl rfl inX2 (by decide) kw209 rfl dX2_rowAt_13 ?_
  refine lv_iload_n C.x C.b dX2_rowAt_16 rfl (lv_at hl 0 rfl) ?_
  refine q_aldq (t := 4) C hw 1 rfl rfl hin hr dX2_rowAt_17 ?_
  refine lv_astore_n (lv' := [(3, .ref ar), (2, .int q), (0, .ref a), (1, .int v1)]) C.x C.b dX2_rowAt_18 rfl hl (by decide) rfl (fun ls hl => ?_)
  refine lv_aload_n C.x C.b dX2_rowAt_19 rfl (lv_at hl 0 rfl) ?_
  refine lv_ifnonnull (tgt := 38) C.x C.b dX2_rowAt_20 (by decide) ?_
  refine lv_aload_n C.x C.b dX2_rowAt_38 rfl (lv_at hl 0 rfl) ?_
  exact q_aret C hw rfl dX2_rowAt_39
set_option maxRecDepth 100000 in
set_option maxHeartbeats 4000000 in
/-- rowAt where there is no row yet -/
theorem tX2_rowAt_B (l : Launch) (D : va_G) (y : Nat → ClassId) (a ak : Nat) (v1 f hh : Int32) (xk : Nat → Option Nat) (q : Int32) (hq : pJ9_floorMod_7cf53 (f + v1) 20 = some q) (hin : vp_in q 20) (hr : xk q.toNatClampNeg = none) : CR D y l yX2_rowAt (Cond.code yX2_rowAt cX2_rowAt 4 (some (.object "PatchedColumns$State")) :: tbG) { frames := 4, cells := 16, slots := 999, locals := 74 } [.ref a, .int v1] [(a, .inr (2, [.ref ak, .int f, .int hh])), (ak, .inl (y 4, 20, .inr (.inr (.inr (.inr xk)))))] (fun ra u9 => [(a, .inr (2, [.ref ak, .int f, .int hh])), (ak, .inl (y 4, 20, .inr (.inr (.inr (.inr (va_up xk q.toNatClampNeg (some ra))))))), (ra, .inr (7, [.ref (u9 0), .ref (u9 1), .int (647)])), (u9 0, .inl (y 3, 3, .inr (.inr (.inr (.inr ((va_up ((va_up ((va_up (fun _ => none) (0 : Int32).toNatClampNeg (some (u9 3)))) (1 : Int32).toNatClampNeg (some (u9 7)))) (2 : Int32).toNatClampNeg (some (u9 11))))))))), (u9 1, .inr (5, [.ref (u9 2), .int 0])), (u9 2, .inl (y 1, 16, .inr (.inl (fun _ => 0)))), (u9 3, .inr (0, [.ref (u9 4), .ref (u9 6), .int 0])), (u9 4, .inr (5, [.ref (u9 5), .int 0])), (u9 5, .inl (y 1, 128, .inr (.inl (fun _ => 0)))), (u9 6, .inl (y 0, 192, .inl (fun _ => 0))), (u9 7, .inr (0, [.ref (u9 8), .ref (u9 10), .int 0])), (u9 8, .inr (5, [.ref (u9 9), .int 0])), (u9 9, .inl (y 1, 128, .inr (.inl (fun _ => 0)))), (u9 10, .inl (y 0, 192, .inl (fun _ => 0))), (u9 11, .inr (0, [.ref (u9 12), .ref (u9 14), .int 0])), (u9 12, .inr (5, [.ref (u9 13), .int 0])), (u9 13, .inl (y 1, 128, .inr (.inl (fun _ => 0)))), (u9 14, .inl (y 0, 192, .inl (fun _ => 0)))]) 16 999 := by
  refine CR.of (own := RX2) (by decide +kernel) rfl (Nat.le_of_ble_eq_true rfl) ?_
  intro p e s m args below meth c A H locs ls C hw hl
  have hl : lv_has ls 4 [(0, .ref a), (1, .int v1)] := hl
  refine lv_aload_n C.x C.b dX2_rowAt_0 rfl (lv_at hl 0 rfl) ?_
  refine q_get (v := .int f) (T := TX2) C hw 0 1 rfl rfl rfl inX2 (by decide) kw210 rfl dX2_rowAt_1 ?_
  refine lv_iload_n C.x C.b dX2_rowAt_4 rfl (lv_at hl 1 rfl) ?_
  refine lv_iadd C.x C.b dX2_rowAt_5 ?_
  refine lv_bipush (v := 20) C.x C.b dX2_rowAt_6 (by decide) ?_
  refine q_aftI (wc := []) (wr := [(a, .inr (2, [.ref ak, .int f, .int hh])), (ak, .inl (y 4, 20, .inr (.inr (.inr (.inr xk)))))]) (w1 := []) (w2 := [(a, .inr (2, [.ref ak, .int f, .int hh])), (ak, .inl (y 4, 20, .inr (.inr (.inr (.inr xk)))))]) C hw [] [0, 1] [0, 1] rfl rfl (by decide) (by decide) (by decide) rfl (q_runS (As := [.int (f + v1), .int 20]) (rest := []) C hw (tJ9_floorMod_7cf53 l D y (f + v1) 20 q hq H.size) [] rfl (by decide) kw481 kw482 kw124 kw483 okJ9_floorMod_7cf53 ⟨rfl, rfl⟩ ⟨Nat.le_of_ble_eq_true rfl, Nat.le_of_ble_eq_true rfl⟩ rfl hl.1 rfl (Nat.le_of_ble_eq_true rfl) dX2_rowAt_8 ⟨Nat.zero_le _, Nat.zero_le _⟩) (fun H locs hw => ?_)
  refine lv_istore_n (lv' := [(2, .int q), (0, .ref a), (1, .int v1)]) C.x C.b dX2_rowAt_11 rfl hl (by decide) rfl (fun ls hl => ?_)
  refine lv_aload_n C.x C.b dX2_rowAt_12 rfl (lv_at hl 1 rfl) ?_
  refine q_get (v := .ref ak) (T := TX2) C hw 0 0 rfl rfl rfl inX2 (by decide) kw209 rfl dX2_rowAt_13 ?_
  refine lv_iload_n C.x C.b dX2_rowAt_16 rfl (lv_at hl 0 rfl) ?_
  refine q_aldN (t := 4) C hw 1 rfl rfl hin hr dX2_rowAt_17 ?_
  refine lv_astore_nN (lv' := [(3, .null), (2, .int q), (0, .ref a), (1, .int v1)]) C.x C.b dX2_rowAt_18 rfl hl (by decide) rfl (fun ls hl => ?_)
  refine lv_aload_nN C.x C.b dX2_rowAt_19 rfl (lv_at hl 0 rfl) ?_
  refine lv_ifnonnullN C.x C.b dX2_rowAt_20 ?_
  refine q_new (ci := 7) (fs := [.null, .null, .int 0]) (T := TX7) C hw rfl inX7 tyX7 tyX7_ok (by decide) kw207 kw139 kw114 (Nat.le_of_ble_eq_true rfl) (Nat.le_of_ble_eq_true rfl) dX2_rowAt_23 (fun ra H hw => ?_)
  have hw : St D A s H locs [(a, .inr (2, [.ref ak, .int f, .int hh])), (ak, .inl (y 4, 20, .inr (.inr (.inr (.inr xk))))), (ra, .inr (7, [.null, .null, .int 0]))] := hw
  refine W.widen (k := 1) (n := 3) (by decide) (by decide) ?_
  refine lv_dup C.x C.b dX2_rowAt_26 rfl ?_
  refine q_aftN (wc := [(ra, .inr (7, [.null, .null, .int 0]))]) (wr := [(a, .inr (2, [.ref ak, .int f, .int hh])), (ak, .inl (y 4, 20, .inr (.inr (.inr (.inr xk)))))]) C hw [2] [0, 1] rfl rfl (by decide) (by decide) (q_runI (As := []) (rest := [.ref ra]) C hw (tX7_init l D y ra H.size) [2] rfl (by decide) rfl kw484 kw141 kw114 kw142 okX7_init ⟨rfl, rfl⟩ ⟨Nat.le_of_ble_eq_true rfl, Nat.le_of_ble_eq_true rfl⟩ rfl hl.1 rfl (Nat.le_of_ble_eq_true rfl) dX2_rowAt_27 ⟨Nat.le_of_ble_eq_true rfl, Nat.le_of_ble_eq_true rfl⟩) (fun u9 H locs hw => ?_)
  have hw : St D A s H locs [(a, .inr (2, [.ref ak, .int f, .int hh])), (ak, .inl (y 4, 20, .inr (.inr (.inr (.inr xk))))), (ra, .inr (7, [.ref (u9 0), .ref (u9 1), .int (647)])), (u9 0, .inl (y 3, 3, .inr (.inr (.inr (.inr ((va_up ((va_up ((va_up (fun _ => none) (0 : Int32).toNatClampNeg (some (u9 3)))) (1 : Int32).toNatClampNeg (some (u9 7)))) (2 : Int32).toNatClampNeg (some (u9 11))))))))), (u9 1, .inr (5, [.ref (u9 2), .int 0])), (u9 2, .inl (y 1, 16, .inr (.inl (fun _ => 0)))), (u9 3, .inr (0, [.ref (u9 4), .ref (u9 6), .int 0])), (u9 4, .inr (5, [.ref (u9 5), .int 0])), (u9 5, .inl (y 1, 128, .inr (.inl (fun _ => 0)))), (u9 6, .inl (y 0, 192, .inl (fun _ => 0))), (u9 7, .inr (0, [.ref (u9 8), .ref (u9 10), .int 0])), (u9 8, .inr (5, [.ref (u9 9), .int 0])), (u9 9, .inl (y 1, 128, .inr (.inl (fun _ => 0)))), (u9 10, .inl (y 0, 192, .inl (fun _ => 0))), (u9 11, .inr (0, [.ref (u9 12), .ref (u9 14), .int 0])), (u9 12, .inr (5, [.ref (u9 13), .int 0])), (u9 13, .inl (y 1, 128, .inr (.inl (fun _ => 0)))), (u9 14, .inl (y 0, 192, .inl (fun _ => 0)))] := hw
  refine W.widen (k := 16) (n := 999) (by decide) (by decide) ?_
  refine lv_astore_n (lv' := [(3, .ref ra), (2, .int q), (0, .ref a), (1, .int v1)]) C.x C.b dX2_rowAt_30 rfl hl (by decide) rfl (fun ls hl => ?_)
  refine lv_aload_n C.x C.b dX2_rowAt_31 rfl (lv_at hl 2 rfl) ?_
  refine q_get (v := .ref ak) (T := TX2) C hw 0 0 rfl rfl rfl inX2 (by decide) kw209 rfl dX2_rowAt_32 ?_
  refine lv_iload_n C.x C.b dX2_rowAt_35 rfl (lv_at hl 1 rfl) ?_
  refine lv_aload_n C.x C.b dX2_rowAt_36 rfl (lv_at hl 0 rfl) ?_
  refine q_astq (t := 4) (w2 := [(a, .inr (2, [.ref ak, .int f, .int hh])), (ak, .inl (y 4, 20, .inr (.inr (.inr (.inr (va_up xk q.toNatClampNeg (some ra))))))), (ra, .inr (7, [.ref (u9 0), .ref (u9 1), .int (647)])), (u9 0, .inl (y 3, 3, .inr (.inr (.inr (.inr ((va_up ((va_up ((va_up (fun _ => none) (0 : Int32).toNatClampNeg (some (u9 3)))) (1 : Int32).toNatClampNeg (some (u9 7)))) (2 : Int32).toNatClampNeg (some (u9 11))))))))), (u9 1, .inr (5, [.ref (u9 2), .int 0])), (u9 2, .inl (y 1, 16, .inr (.inl (fun _ => 0)))), (u9 3, .inr (0, [.ref (u9 4), .ref (u9 6), .int 0])), (u9 4, .inr (5, [.ref (u9 5), .int 0])), (u9 5, .inl (y 1, 128, .inr (.inl (fun _ => 0)))), (u9 6, .inl (y 0, 192, .inl (fun _ => 0))), (u9 7, .inr (0, [.ref (u9 8), .ref (u9 10), .int 0])), (u9 8, .inr (5, [.ref (u9 9), .int 0])), (u9 9, .inl (y 1, 128, .inr (.inl (fun _ => 0)))), (u9 10, .inl (y 0, 192, .inl (fun _ => 0))), (u9 11, .inr (0, [.ref (u9 12), .ref (u9 14), .int 0])), (u9 12, .inr (5, [.ref (u9 13), .int 0])), (u9 13, .inl (y 1, 128, .inr (.inl (fun _ => 0)))), (u9 14, .inl (y 0, 192, .inl (fun _ => 0)))]) C hw 1 2 rfl rfl rfl rfl rfl hin dX2_rowAt_37 (fun H locs hw => ?_)
  refine lv_aload_n C.x C.b dX2_rowAt_38 rfl (lv_at hl 0 rfl) ?_
  exact q_rret C u9 hw rfl (by decide) (by decide) dX2_rowAt_39

