/-! ===== the pure layer: loops by fuel, checked indices ===== -/
/-! ===== the walk: one context, one state ===== -/
def tyL (y : Nat → ClassId) : List (ClassId × FieldType) := [(y 0, .int), (y 1, .long), (y 2, .boolean), (y 3, .object "PatchedColumns$Column"), (y 4, .object "PatchedColumns$State")]
def nwAll (U : State) : Prop := ∀ q ∈ nestW, va_Nw (.methodLinkNest q.1 q.2.1 q.2.2.1 q.2.2.2) U
def aoAll (U : State) : Prop := va_AO RX0 U ∧ va_AO RX7 U
def KK (D : va_G) (y : Nat → ClassId) (U : State) : Prop := va_K D vwCl (tyL y) U ∧ nwAll U ∧ aoAll U
theorem KK.warm {D : va_G} {y : Nat → ClassId} {s U : State} (hW : s.WarmedH U.vm) (h : KK D y s) : KK D y U := ⟨va_K.moved hW.alike h.1, fun q hq => va_Nw.warmM hW (h.2.1 q hq), h.2.2.1.moved hW.alike, h.2.2.2.moved hW.alike⟩
theorem KK.calling {D : va_G} {y : Nat → ClassId} {U : State} {g : JFrame} {mk : MethodId} {a : Array Value} (h : KK D y U) : KK D y (U.calling g mk a) := ⟨va_K.moved (u := U) (U := U.calling g mk a) (Vm.Alike.refl U.vm) h.1, fun q hq => va_Nw.same (u := U) (U := U.calling g mk a) rfl rfl (h.2.1 q hq), va_AO.moved (u := U) (U := U.calling g mk a) (Vm.Alike.refl U.vm) h.2.2.1, va_AO.moved (u := U) (U := U.calling g mk a) (Vm.Alike.refl U.vm) h.2.2.2⟩
def Cx (D : va_G) (y : Nat → ClassId) (p : Program) (s : State) (m : MethodId) (args : Array Value) (meth : Method) (c : Code) (A : Nat → Prop) (own : String) (cc : ByteArray) (cd : Cond) (ret : Option FieldType) (nL : Nat) : Prop :=
  p.tables.exec = Jvm.exec ∧ c.code = cc ∧ c.maxLocals = nL ∧ s.vm.findClass own = some m.cls ∧ (∀ w ∈ cd :: tbG, w.before args s = true) ∧ meth.sig.returnType = ret ∧ meth.locks = false ∧ KK D y s ∧ ∀ q : Nat, s.heap.size ≤ q → A q
def St (D : va_G) (A : Nat → Prop) (s : State) (H : Heap) (locs : List Loc) (ws : va_W) : Prop := va_P D vwCl ws H ∧ va_D A ws ∧ va_S A s.heap H locs
def CtPre (D : va_G) (y : Nat → ClassId) (ws : va_W) (sz : Nat) : State → Prop := fun U => U.heap.size = sz ∧ va_P D vwCl ws U.heap ∧ KK D y U ∧ va_D (fun _ => True) ws
def CtPost (D : va_G) (w1 : va_W) (A : Nat → Prop) : Unit → State → Prop := fun _ t => va_P D vwCl w1 t.heap ∧ va_D A w1
/-- a method's contract: int, boolean, long, double, void -/
def CI (D : va_G) (y : Nat → ClassId) (l : Launch) (yn : MethodName) (ws : List Cond) (rm : Room) (av : List Value) (w w1 : va_W) (r : Int32) : Prop := ∀ sz : Nat, Met l yn ws rm (va_Pc av (CtPre D y w sz)) (va_Qi (fun r' (_ : Unit) => r' = r) (CtPost D w1 (va_A w sz)) (va_A w sz)) 0 0 (va_A w sz)
def CZ (D : va_G) (y : Nat → ClassId) (l : Launch) (yn : MethodName) (ws : List Cond) (rm : Room) (av : List Value) (w w1 : va_W) (r : Int32) : Prop := ∀ sz : Nat, Met l yn ws rm (va_Pc av (CtPre D y w sz)) (va_Qi (fun r' (_ : Unit) => r' = r ∧ narrow .boolean (.int r) = .int r) (CtPost D w1 (va_A w sz)) (va_A w sz)) 0 0 (va_A w sz)
def CL (D : va_G) (y : Nat → ClassId) (l : Launch) (yn : MethodName) (ws : List Cond) (rm : Room) (av : List Value) (w w1 : va_W) (r : Int64) : Prop := ∀ sz : Nat, Met l yn ws rm (va_Pc av (CtPre D y w sz)) (va_Ql (fun r' (_ : Unit) => r' = r) (CtPost D w1 (va_A w sz)) (va_A w sz)) 0 0 (va_A w sz)
def CV (D : va_G) (y : Nat → ClassId) (l : Launch) (yn : MethodName) (ws : List Cond) (rm : Room) (av : List Value) (w w1 : va_W) : Prop := ∀ sz : Nat, Met l yn ws rm (va_Pc av (CtPre D y w sz)) (va_Qv (fun (_ : Unit) => True) (CtPost D w1 (va_A w sz)) (va_A w sz)) 0 0 (va_A w sz)
abbrev QI (D : va_G) (s : State) (A : Nat → Prop) (args : Array Value) (below : List Frame) (w1 : va_W) (r : Int32) : State → Prop := MQ below (va_Qi (fun r' (_ : Unit) => r' = r) (CtPost D w1 A) A) args s 0 0 A
abbrev QZ (D : va_G) (s : State) (A : Nat → Prop) (args : Array Value) (below : List Frame) (w1 : va_W) (r : Int32) : State → Prop := MQ below (va_Qi (fun r' (_ : Unit) => r' = r ∧ narrow .boolean (.int r) = .int r) (CtPost D w1 A) A) args s 0 0 A
abbrev QL (D : va_G) (s : State) (A : Nat → Prop) (args : Array Value) (below : List Frame) (w1 : va_W) (r : Int64) : State → Prop := MQ below (va_Ql (fun r' (_ : Unit) => r' = r) (CtPost D w1 A) A) args s 0 0 A
abbrev QV (D : va_G) (s : State) (A : Nat → Prop) (args : Array Value) (below : List Frame) (w1 : va_W) : State → Prop := MQ below (va_Qv (fun (_ : Unit) => True) (CtPost D w1 A) A) args s 0 0 A
section Rows
variable {D : va_G} {y : Nat → ClassId} {p : Program} {l : Launch} {e : Env} {R : Room} {s : State} {m : MethodId} {args : Array Value} {below : List Frame} {meth : Method} {c : Code} {H : Heap} {locs : List Loc} {cells slots : Nat} {Q : State → Prop} {A : Nat → Prop} {own : String} {cc : ByteArray} {cd : Cond} {ret : Option FieldType} {nL pc : Nat} {ls : Array Slot} {rest : List Value} {ws w2 : va_W}
theorem Cx.x (C : Cx D y p s m args meth c A own cc cd ret nL) : p.tables.exec = Jvm.exec := C.1
theorem Cx.b (C : Cx D y p s m args meth c A own cc cd ret nL) : c.code = cc := C.2.1
theorem Cx.ml (C : Cx D y p s m args meth c A own cc cd ret nL) : c.maxLocals = nL := C.2.2.1
theorem Cx.ow (C : Cx D y p s m args meth c A own cc cd ret nL) : s.vm.findClass own = some m.cls := C.2.2.2.1
theorem Cx.ts (C : Cx D y p s m args meth c A own cc cd ret nL) : ∀ w ∈ cd :: tbG, w.before args s = true := C.2.2.2.2.1
theorem Cx.r (C : Cx D y p s m args meth c A own cc cd ret nL) : meth.sig.returnType = ret := C.2.2.2.2.2.1
theorem Cx.lk (C : Cx D y p s m args meth c A own cc cd ret nL) : meth.locks = false := C.2.2.2.2.2.2.1
theorem Cx.k (C : Cx D y p s m args meth c A own cc cd ret nL) : KK D y s := C.2.2.2.2.2.2.2.1
theorem Cx.a (C : Cx D y p s m args meth c A own cc cd ret nL) : ∀ q : Nat, s.heap.size ≤ q → A q := C.2.2.2.2.2.2.2.2
theorem St.go {w3 : va_W} (h : St D A s H locs ws) (he : ws = w3) : St D A s H locs w3 := he ▸ h
theorem St.sub (h : St D A s H locs ws) (is : List Nat) (hn : va_nd is = true) (hs : is.map (fun i => ws[i]?) = w2.map some) : St D A s H locs w2 := by
  refine ⟨fun k q hk => ?_, h.2.1.sub is hn hs, h.2.2⟩
  have h1 : (is.map (fun i => ws[i]?))[k]? = some (some q) := by rw [hs, List.getElem?_map, hk]; rfl
  rw [List.getElem?_map] at h1
  cases hi : is[k]? with
  | none => rw [hi] at h1; cases h1
  | some i => rw [hi] at h1; exact h.1 i q (Option.some.inj h1)
theorem q_get (C : Cx D y p s m args meth c A own cc cd ret nL) (hw : St D A s H locs ws) {ref Cn : String} {T : u_T} {N ci index a : Nat} {fs : List Value} {v : Value} (q0 k : Nat) (he : ws[q0]? = some (a, .inr (ci, fs))) (hv : fs[k]? = some v) (hc : vwCl[ci]? = some (Cn, T, N)) (hin : ∀ w ∈ u_ws Cn T N, w ∈ tbG) (hk : k < N) (hlink : Cond.fieldLink own index ref (T k).2.1 (T k).2.2.1 ∈ tbG) (hsame : (T k).1 = ref) (hdg : decode cc pc = .ok (.getfield index, 3))
    (kk : W p l e R s m args below meth c H locs cells slots Q (F0 m (pc + 3) ls (v :: rest))) : W p l e R s m args below meth c H locs cells slots Q (F0 m pc ls (.ref a :: rest)) :=
  va_get C.x C.b C.ts (fun w h => List.mem_cons_of_mem _ (hin w h)) C.ow C.k.1 hw.1 q0 he hc k hk (C.ts _ (List.mem_cons_of_mem _ hlink)) (fun _ h9 => hsame ▸ h9) hv hdg kk
theorem q_pf (C : Cx D y p s m args meth c A own cc cd ret nL) (hw : St D A s H locs ws) {ref Cn : String} {T : u_T} {N ci index a : Nat} {fs : List Value} {v : Value} {ty : FieldType} {ty0 : Nat → FieldType} (q0 k : Nat) (he : ws[q0]? = some (a, .inr (ci, fs))) (h2 : ws.set q0 (a, .inr (ci, fs.set k v)) = w2) (hl : k < fs.length) (hc : vwCl[ci]? = some (Cn, T, N)) (hin : ∀ w ∈ u_ws Cn T N, w ∈ tbG) (hty : ∀ k, k < N → parseFieldDescriptor (T k).2.2.1 = some (ty0 k)) (hnm : ∀ a, a < N → ∀ b, b < N → a ≠ b → (T a).2.1 ≠ (T b).2.1) (hk : k < N) (hlink : Cond.fieldLink own index ref (T k).2.1 (T k).2.2.1 ∈ tbG) (hsame : (T k).1 = ref) (hfin : (T k).2.2.2 = false) (ht : ty0 k = ty) (hn : narrow ty v = v) (hfit : fits ty v = true) (hdg : decode cc pc = .ok (.putfield index, 3))
    (kk : ∀ (H1 : Heap) (locs1 : List Loc), St D A s H1 locs1 w2 → W p l e R s m args below meth c H1 locs1 cells slots Q (F0 m (pc + 3) ls rest)) : W p l e R s m args below meth c H locs cells slots Q (F0 m pc ls (v :: .ref a :: rest)) :=
  va_put C.x C.b C.ts (fun w h => List.mem_cons_of_mem _ (hin w h)) ty0 hty hnm C.ow C.k.1 hw.1 hw.2.1 hw.2.2 q0 he hc k hk (C.ts _ (List.mem_cons_of_mem _ hlink)) (fun _ h9 => hsame ▸ h9) hfin (ht ▸ hty k hk) hn hfit hl hdg (fun H1 locs1 hP hD hS => kk H1 locs1 (St.go ⟨hP, hD, hS⟩ h2))
theorem q_iald (C : Cx D y p s m args meth c A own cc cd ret nL) (hw : St D A s H locs ws) {n a : Nat} {f : Nat → Int32} (q0 : Nat) (ha : ws[q0]? = some (a, .inl (y 0, n, .inl f))) {i : Int32} (hin : vp_in i n) (hdg : decode cc pc = .ok (.iaload, 1))
    (kk : W p l e R s m args below meth c H locs cells slots Q (F0 m (pc + 1) ls (.int (f i.toNatClampNeg) :: rest))) : W p l e R s m args below meth c H locs cells slots Q (F0 m pc ls (.int i :: .ref a :: rest)) :=
  va_iald C.x C.b C.k.1 hw.1 q0 0 ha rfl hin hdg kk
theorem q_zald (C : Cx D y p s m args meth c A own cc cd ret nL) (hw : St D A s H locs ws) {n a : Nat} {f : Nat → Int32} (q0 : Nat) (ha : ws[q0]? = some (a, .inl (y 2, n, .inl f))) {i : Int32} (hin : vp_in i n) (hdg : decode cc pc = .ok (.baload, 1))
    (kk : W p l e R s m args below meth c H locs cells slots Q (F0 m (pc + 1) ls (.int (f i.toNatClampNeg) :: rest))) : W p l e R s m args below meth c H locs cells slots Q (F0 m pc ls (.int i :: .ref a :: rest)) :=
  va_zald C.x C.b C.k.1 hw.1 q0 2 ha rfl hin hdg kk
theorem q_lald (C : Cx D y p s m args meth c A own cc cd ret nL) (hw : St D A s H locs ws) {n a : Nat} {f : Nat → Int64} (q0 : Nat) (ha : ws[q0]? = some (a, .inl (y 1, n, .inr (.inl f)))) {i : Int32} (hin : vp_in i n) (hdg : decode cc pc = .ok (.laload, 1))
    (kk : W p l e R s m args below meth c H locs cells slots Q (F0 m (pc + 1) ls (.long (f i.toNatClampNeg) :: rest))) : W p l e R s m args below meth c H locs cells slots Q (F0 m pc ls (.int i :: .ref a :: rest)) :=
  va_lald C.x C.b C.k.1 hw.1 q0 1 ha rfl hin hdg kk
theorem q_iast (C : Cx D y p s m args meth c A own cc cd ret nL) (hw : St D A s H locs ws) {n a : Nat} {f : Nat → Int32} {i x : Int32} (q0 : Nat) (ha : ws[q0]? = some (a, .inl (y 0, n, .inl f))) (h2 : ws.set q0 (a, .inl (y 0, n, .inl (upd f i.toNatClampNeg x))) = w2) (hin : vp_in i n) (hdg : decode cc pc = .ok (.iastore, 1))
    (kk : ∀ (H1 : Heap) (locs1 : List Loc), St D A s H1 locs1 w2 → W p l e R s m args below meth c H1 locs1 cells slots Q (F0 m (pc + 1) ls rest)) : W p l e R s m args below meth c H locs cells slots Q (F0 m pc ls (.int x :: .int i :: .ref a :: rest)) :=
  va_iast C.x C.b C.k.1 hw.1 hw.2.1 hw.2.2 q0 0 ha rfl hin hdg (fun H1 locs1 hP hD hS => kk H1 locs1 (St.go ⟨hP, hD, hS⟩ h2))
theorem q_zast (C : Cx D y p s m args meth c A own cc cd ret nL) (hw : St D A s H locs ws) {n a : Nat} {f : Nat → Int32} {i x : Int32} (q0 : Nat) (ha : ws[q0]? = some (a, .inl (y 2, n, .inl f))) (h2 : ws.set q0 (a, .inl (y 2, n, .inl (upd f i.toNatClampNeg (vp_nar .boolean x)))) = w2) (hin : vp_in i n) (hdg : decode cc pc = .ok (.bastore, 1))
    (kk : ∀ (H1 : Heap) (locs1 : List Loc), St D A s H1 locs1 w2 → W p l e R s m args below meth c H1 locs1 cells slots Q (F0 m (pc + 1) ls rest)) : W p l e R s m args below meth c H locs cells slots Q (F0 m pc ls (.int x :: .int i :: .ref a :: rest)) :=
  va_zast C.x C.b C.k.1 hw.1 hw.2.1 hw.2.2 q0 2 ha rfl hin hdg (fun H1 locs1 hP hD hS => kk H1 locs1 (St.go ⟨hP, hD, hS⟩ h2))
theorem q_last (C : Cx D y p s m args meth c A own cc cd ret nL) (hw : St D A s H locs ws) {n a : Nat} {f : Nat → Int64} {i : Int32} {x : Int64} (q0 : Nat) (ha : ws[q0]? = some (a, .inl (y 1, n, .inr (.inl f)))) (h2 : ws.set q0 (a, .inl (y 1, n, .inr (.inl (vp_updL f i.toNatClampNeg x)))) = w2) (hin : vp_in i n) (hdg : decode cc pc = .ok (.lastore, 1))
    (kk : ∀ (H1 : Heap) (locs1 : List Loc), St D A s H1 locs1 w2 → W p l e R s m args below meth c H1 locs1 cells slots Q (F0 m (pc + 1) ls rest)) : W p l e R s m args below meth c H locs cells slots Q (F0 m pc ls (.long x :: .int i :: .ref a :: rest)) :=
  va_last C.x C.b C.k.1 hw.1 hw.2.1 hw.2.2 q0 1 ha rfl hin hdg (fun H1 locs1 hP hD hS => kk H1 locs1 (St.go ⟨hP, hD, hS⟩ h2))
theorem q_iret (C : Cx D y p s m args meth c A own cc cd (some .int) nL) {v r : Int32} (hw : St D A s H locs ws) (hv : v = r) (hdg : decode cc pc = .ok (.ireturn, 1)) : W p l e R s m args below meth c H locs 0 0 (QI D s A args below ws r) (F0 m pc ls [.int v]) :=
  W.iret C.x C.b C.r (fun t ht _ => ⟨⟨v, (), rfl, hv, by rw [ht]; exact hw.1, hw.2.1⟩, hw.2.2.F ht⟩) hw.2.2.2.2 hdg C.lk
theorem q_zret (C : Cx D y p s m args meth c A own cc cd (some .boolean) nL) {v r : Int32} (hw : St D A s H locs ws) (hn : narrow .boolean (.int v) = .int v) (hv : v = r) (hdg : decode cc pc = .ok (.ireturn, 1)) : W p l e R s m args below meth c H locs 0 0 (QZ D s A args below ws r) (F0 m pc ls [.int v]) :=
  W.zret C.x C.b C.r hn (fun t ht _ => ⟨⟨v, (), rfl, ⟨hv, hv ▸ hn⟩, by rw [ht]; exact hw.1, hw.2.1⟩, hw.2.2.F ht⟩) hw.2.2.2.2 hdg C.lk
theorem q_lret (C : Cx D y p s m args meth c A own cc cd (some .long) nL) {v r : Int64} (hw : St D A s H locs ws) (hv : v = r) (hdg : decode cc pc = .ok (.lreturn, 1)) : W p l e R s m args below meth c H locs 0 0 (QL D s A args below ws r) (F0 m pc ls [.long v]) :=
  W.lret C.x C.b C.r (fun t ht _ => ⟨⟨v, (), rfl, hv, by rw [ht]; exact hw.1, hw.2.1⟩, hw.2.2.F ht⟩) hw.2.2.2.2 hdg C.lk
theorem q_vret (C : Cx D y p s m args meth c A own cc cd none nL) (hw : St D A s H locs ws) (hdg : decode cc pc = .ok (.return_, 1)) : W p l e R s m args below meth c H locs 0 0 (QV D s A args below ws) (F0 m pc ls []) :=
  W.vret C.x C.b C.r (fun t ht _ => ⟨⟨(), rfl, trivial, by rw [ht]; exact hw.1, hw.2.1⟩, hw.2.2.F ht⟩) hw.2.2.2.2 hdg C.lk
end Rows
/-! ===== a contract out of a walk ===== -/
section Of
variable {D : va_G} {y : Nat → ClassId} {l : Launch} {yn : MethodName} {rm : Room} {av : List Value} {w w1 : va_W} {cc : ByteArray} {maxL : Nat} {own : String}
theorem of_cx {p : Program} {e : Env} {s : State} {m : MethodId} {args : Array Value} {below : List Frame} {meth : Method} {c : Code} {s₁ : State} {ret : Option FieldType} (B : BodyLoose p l yn (headSpec (Cond.code yn cc maxL ret :: tbG) rm) cc maxL ret e s m args below meth c s₁) (hml : c.maxLocals = maxL) (ho : yn.cls = own) (hK : KK D y s) : Cx D y p s m args meth c (va_A w s.heap.size) own cc (Cond.code yn cc maxL ret) ret maxL :=
  ⟨B.exec, B.bytes, hml, ho ▸ findClass_of_methodNamed B.named, atoms_spec (ws := Cond.code yn cc maxL ret :: tbG) B.pre, B.returns, B.notSynchronized, hK, fun _ h => Or.inr h⟩
theorem CI.of {r : Int32} (hy : plainName yn.cls = true) (ho : yn.cls = own) (hn : (lg_sl av).length ≤ maxL)
    (h : ∀ (p : Program) (e : Env) (s : State) (m : MethodId) (args : Array Value) (below : List Frame) (meth : Method) (c : Code) (A : Nat → Prop) (H : Heap) (locs : List Loc) (ls : Array Slot), Cx D y p s m args meth c A own cc (Cond.code yn cc maxL (some .int)) (some .int) maxL → St D A s H locs w → lv_has ls maxL (lv_args 0 av) → W p l e rm s m args below meth c H locs 0 0 (QI D s A args below w1 r) (F0 m 0 ls [])) : CI D y l yn (Cond.code yn cc maxL (some .int) :: tbG) rm av w w1 r := by
  intro sz
  refine Met.ofW (cc := cc) (maxL := maxL) (ret := some .int) hy rfl ?_
  intro p e s m args below meth c s₁ B hml hv
  obtain ⟨rfl, hsz, hP, hK, hD⟩ := hv
  subst hsz
  rw [lg_entry_eq]
  exact h p e s m _ below meth c _ _ _ _ (of_cx B hml ho hK) ⟨hP, hD.self, va_S.rf⟩ (lv_entry av hn)
theorem CZ.of {r : Int32} (hy : plainName yn.cls = true) (ho : yn.cls = own) (hn : (lg_sl av).length ≤ maxL)
    (h : ∀ (p : Program) (e : Env) (s : State) (m : MethodId) (args : Array Value) (below : List Frame) (meth : Method) (c : Code) (A : Nat → Prop) (H : Heap) (locs : List Loc) (ls : Array Slot), Cx D y p s m args meth c A own cc (Cond.code yn cc maxL (some .boolean)) (some .boolean) maxL → St D A s H locs w → lv_has ls maxL (lv_args 0 av) → W p l e rm s m args below meth c H locs 0 0 (QZ D s A args below w1 r) (F0 m 0 ls [])) : CZ D y l yn (Cond.code yn cc maxL (some .boolean) :: tbG) rm av w w1 r := by
  intro sz
  refine Met.ofW (cc := cc) (maxL := maxL) (ret := some .boolean) hy rfl ?_
  intro p e s m args below meth c s₁ B hml hv
  obtain ⟨rfl, hsz, hP, hK, hD⟩ := hv
  subst hsz
  rw [lg_entry_eq]
  exact h p e s m _ below meth c _ _ _ _ (of_cx B hml ho hK) ⟨hP, hD.self, va_S.rf⟩ (lv_entry av hn)
theorem CL.of {r : Int64} (hy : plainName yn.cls = true) (ho : yn.cls = own) (hn : (lg_sl av).length ≤ maxL)
    (h : ∀ (p : Program) (e : Env) (s : State) (m : MethodId) (args : Array Value) (below : List Frame) (meth : Method) (c : Code) (A : Nat → Prop) (H : Heap) (locs : List Loc) (ls : Array Slot), Cx D y p s m args meth c A own cc (Cond.code yn cc maxL (some .long)) (some .long) maxL → St D A s H locs w → lv_has ls maxL (lv_args 0 av) → W p l e rm s m args below meth c H locs 0 0 (QL D s A args below w1 r) (F0 m 0 ls [])) : CL D y l yn (Cond.code yn cc maxL (some .long) :: tbG) rm av w w1 r := by
  intro sz
  refine Met.ofW (cc := cc) (maxL := maxL) (ret := some .long) hy rfl ?_
  intro p e s m args below meth c s₁ B hml hv
  obtain ⟨rfl, hsz, hP, hK, hD⟩ := hv
  subst hsz
  rw [lg_entry_eq]
  exact h p e s m _ below meth c _ _ _ _ (of_cx B hml ho hK) ⟨hP, hD.self, va_S.rf⟩ (lv_entry av hn)
theorem CV.of (hy : plainName yn.cls = true) (ho : yn.cls = own) (hn : (lg_sl av).length ≤ maxL)
    (h : ∀ (p : Program) (e : Env) (s : State) (m : MethodId) (args : Array Value) (below : List Frame) (meth : Method) (c : Code) (A : Nat → Prop) (H : Heap) (locs : List Loc) (ls : Array Slot), Cx D y p s m args meth c A own cc (Cond.code yn cc maxL none) none maxL → St D A s H locs w → lv_has ls maxL (lv_args 0 av) → W p l e rm s m args below meth c H locs 0 0 (QV D s A args below w1) (F0 m 0 ls [])) : CV D y l yn (Cond.code yn cc maxL none :: tbG) rm av w w1 := by
  intro sz
  refine Met.ofW (cc := cc) (maxL := maxL) (ret := none) hy rfl ?_
  intro p e s m args below meth c s₁ B hml hv
  obtain ⟨rfl, hsz, hP, hK, hD⟩ := hv
  subst hsz
  rw [lg_entry_eq]
  exact h p e s m _ below meth c _ _ _ _ (of_cx B hml ho hK) ⟨hP, hD.self, va_S.rf⟩ (lv_entry av hn)
end Of
/-! ===== calls ===== -/
section Calls
variable {D : va_G} {y : Nat → ClassId} {p : Program} {l : Launch} {e : Env} {R : Room} {s : State} {m : MethodId} {args : Array Value} {below : List Frame} {meth : Method} {c : Code} {H : Heap} {locs : List Loc} {cells slots : Nat} {Q : State → Prop} {A : Nat → Prop} {own : String} {cc : ByteArray} {cd : Cond} {ret : Option FieldType} {nL pc : Nat} {ls : Array Slot} {rest st0 : List Value} {ws w2 wr wc w1 : va_W}
theorem pc_blind {av : List Value} {w : va_W} {sz : Nat} : FrameBlind (va_Pc av (CtPre D y w sz)) := fun a U g mk q => by
  obtain ⟨q0, q1, qP, qK, qD⟩ := q
  exact ⟨q0, q1, qP, qK.calling, qD⟩
theorem pc_here {av : List Value} (C : Cx D y p s m args meth c A own cc cd ret nL) (hw : St D A s H locs ws) (isC : List Nat) (hC : isC.map (fun i => ws[i]?) = wc.map some) (hnC : va_nd isC = true) : ∀ U : State, U.heap = H → s.WarmedH U.vm → va_Pc av (CtPre D y wc H.size) av.toArray U := by
  intro U hU hW
  have h := hw.sub (w2 := wc) isC hnC hC
  exact ⟨rfl, by rw [hU], by rw [hU]; exact h.1, C.k.warm hW, h.2.1.weaken (fun _ _ _ _ => trivial)⟩
theorem st_back (C : Cx D y p s m args meth c A own cc cd ret nL) (hw : St D A s H locs ws) (isC isR is2 : List Nat) (hC : isC.map (fun i => ws[i]?) = wc.map some) (hR : isR.map (fun i => ws[i]?) = wr.map some) (hn : va_nd isR = true) (hdis : ∀ i ∈ isR, i ∉ isC) (hn2 : va_nd is2 = true) (h2 : is2.map (fun i => (wr ++ w1)[i]?) = w2.map some) {H1 : Heap} {locs1 : List Loc} {t : State} (ht : t.heap = H1) (hB : CtPost D w1 (va_A wc H.size) () t) (hk1 : ∀ q : Nat, q < H.size → ¬ va_A wc H.size q → H1[q]? = H[q]?) (hS1 : va_S A s.heap H1 locs1) : St D A s H1 locs1 w2 := by
  have hF := va_free (wc := wc) hw.2.1 hw.2.2 C.a isC hC
  obtain ⟨hP1, hD1⟩ := hB
  rw [ht] at hP1
  obtain ⟨hP, hD⟩ := va_join (wr := wr) (w1 := w1) hw.1 hw.2.1 isC isR hC hR hn hdis hk1 hF hP1 hD1
  exact St.sub (D := D) (A := A) (s := s) (H := H1) (locs := locs1) ⟨hP, hD, hS1⟩ is2 hn2 h2
def okY (yn : MethodName) (n : Nat) : Prop := yn.cls ≠ "java/lang/invoke/MethodHandle" ∧ yn.cls ≠ "java/lang/invoke/VarHandle" ∧ (parseMethodDescriptor yn.desc).map (fun d => d.parameters.length) = some n
theorem gdG : GoodIn (cd :: tbG) tbG := fun w h => ⟨List.mem_cons_of_mem _ h, good_of_word (List.mem_filter.mp h).2⟩
theorem gdC {yn : MethodName} {bytes : ByteArray} {k : Nat} {r : Option FieldType} (h : Cond.code yn bytes k r ∈ tbG) : GoodIn (cd :: tbG) (Cond.code yn bytes k r :: tbG) := fun w hw => by
  rcases List.mem_cons.mp hw with rfl | h2
  · exact gdG _ h
  · exact gdG _ h2
section Run
variable {yn : MethodName} {bytes : ByteArray} {maxL index n : Nat} {rc : Option FieldType} {rm : Room} {As : List Value} {Cn : String} {b ci q0 : Nat} {fs : List Value} {T : u_T} {N : Nat} {Qc : Array Value → State → Outcome → State → Prop} {free : Addr → Prop}
/-- invokevirtual -/
theorem q_runV (C : Cx D y p s m args meth c A own cc cd ret nL) (hw : St D A s H locs ws) (hM : Met l yn (Cond.code yn bytes maxL rc :: tbG) rm (va_Pc (.ref b :: As) (CtPre D y wc H.size)) Qc 0 0 free) (isC : List Nat) (hC : isC.map (fun i => ws[i]?) = wc.map some) (hnC : va_nd isC = true)
    (he : ws[q0]? = some (b, .inr (ci, fs))) (hc : vwCl[ci]? = some (yn.cls, T, N)) (hl : Cond.methodLink own index yn ∈ tbG) (hi : Cond.instanceMethod yn ∈ tbG) (hs : Cond.selects yn.cls yn yn ∈ tbG) (hini : Cond.initialized yn.cls ∈ tbG) (hcd : Cond.code yn bytes maxL rc ∈ tbG) (hk : okY yn n) (hm : rm.cells = 0 ∧ rm.slots = 0) (hR : rm.frames + 1 ≤ R.frames ∧ 8 + (maxL + 11) + rm.locals ≤ R.locals) (hn : As.length = n) (hsz : ls.size = nL) (hst : st0 = As.reverse ++ .ref b :: rest) (hro : (rest.map fun v => v.category).sum ≤ 8) (hdg : decode cc pc = .ok (.invokevirtual index, 3)) (hf : cells ≤ R.cells ∧ slots ≤ R.slots) :
    va_Run p l e R s m args below meth c H locs cells slots 0 0 (F0 m pc ls st0) rest (Qc (Value.ref b :: As).toArray) free := by
  subst hst
  refine va_runV (As := As) (rest := rest) (C := yn.cls) (bytes := bytes) (maxL := maxL) (ret := rc) (n := n) (index := index) ⟨C.x, C.b, C.ml, C.ow, C.ts⟩ hM ⟨callB_of n C.ts (gdC hcd) rfl hm.1 hm.2 (C.ts _ (List.mem_cons_of_mem _ hini)) (C.ts _ (List.mem_cons_of_mem _ hl)) hk hR, C.ts _ (List.mem_cons_of_mem _ hi), C.ts _ (List.mem_cons_of_mem _ hs)⟩ ⟨pc_blind, va_recv C.k.1 hw.1 hc he, pc_here C hw isC hC hnC⟩ rfl hn hsz rfl (lv_room hro) hdg ⟨hf.1, hf.2⟩
/-- invokestatic -/
theorem q_runS (C : Cx D y p s m args meth c A own cc cd ret nL) (hw : St D A s H locs ws) (hM : Met l yn (Cond.code yn bytes maxL rc :: tbG) rm (va_Pc As (CtPre D y wc H.size)) Qc 0 0 free) (isC : List Nat) (hC : isC.map (fun i => ws[i]?) = wc.map some) (hnC : va_nd isC = true)
    (hl : Cond.methodLink own index yn ∈ tbG) (hi : Cond.static yn ∈ tbG) (hini : Cond.initialized yn.cls ∈ tbG) (hcd : Cond.code yn bytes maxL rc ∈ tbG) (hk : okY yn n) (hm : rm.cells = 0 ∧ rm.slots = 0) (hR : rm.frames + 1 ≤ R.frames ∧ 8 + (maxL + 11) + rm.locals ≤ R.locals) (hn : As.length = n) (hsz : ls.size = nL) (hst : st0 = As.reverse ++ rest) (hro : (rest.map fun v => v.category).sum ≤ 8) (hdg : decode cc pc = .ok (.invokestatic index, 3)) (hf : cells ≤ R.cells ∧ slots ≤ R.slots) :
    va_Run p l e R s m args below meth c H locs cells slots 0 0 (F0 m pc ls st0) rest (Qc As.toArray) free := by
  subst hst
  refine va_runS (As := As) (rest := rest) (bytes := bytes) (maxL := maxL) (ret := rc) (n := n) (index := index) ⟨C.x, C.b, C.ml, C.ow, C.ts⟩ hM ⟨callB_of n C.ts (gdC hcd) rfl hm.1 hm.2 (C.ts _ (List.mem_cons_of_mem _ hini)) (C.ts _ (List.mem_cons_of_mem _ hl)) hk hR, C.ts _ (List.mem_cons_of_mem _ hi)⟩ ⟨pc_blind, pc_here C hw isC hC hnC⟩ rfl hn hsz rfl (lv_room hro) hdg ⟨hf.1, hf.2⟩
/-- invokestatic of a nest mate -/
theorem q_runSN {host : String} (C : Cx D y p s m args meth c A own cc cd ret nL) (hw : St D A s H locs ws) (hM : Met l yn (Cond.code yn bytes maxL rc :: tbG) rm (va_Pc As (CtPre D y wc H.size)) Qc 0 0 free) (isC : List Nat) (hC : isC.map (fun i => ws[i]?) = wc.map some) (hnC : va_nd isC = true)
    (hl : (own, index, yn, host) ∈ nestW) (hi : Cond.static yn ∈ tbG) (hini : Cond.initialized yn.cls ∈ tbG) (hcd : Cond.code yn bytes maxL rc ∈ tbG) (hk : okY yn n) (hm : rm.cells = 0 ∧ rm.slots = 0) (hR : rm.frames + 1 ≤ R.frames ∧ 8 + (maxL + 11) + rm.locals ≤ R.locals) (hn : As.length = n) (hsz : ls.size = nL) (hst : st0 = As.reverse ++ rest) (hro : (rest.map fun v => v.category).sum ≤ 8) (hdg : decode cc pc = .ok (.invokestatic index, 3)) (hf : cells ≤ R.cells ∧ slots ≤ R.slots) :
    va_Run p l e R s m args below meth c H locs cells slots 0 0 (F0 m pc ls st0) rest (Qc As.toArray) free := by
  subst hst
  refine va_runSN (As := As) (rest := rest) (bytes := bytes) (maxL := maxL) (ret := rc) (n := n) (index := index) (host := host) ⟨C.x, C.b, C.ml, C.ow, C.ts⟩ hM ⟨va_cnB n C.ts (gdC hcd) rfl hm.1 hm.2 (C.k.2.1 (own, index, yn, host) hl) (C.ts _ (List.mem_cons_of_mem _ hini)) hk hR, C.ts _ (List.mem_cons_of_mem _ hi), trivial⟩ ⟨pc_blind, pc_here C hw isC hC hnC⟩ rfl hn hsz rfl (lv_room hro) hdg ⟨hf.1, hf.2⟩
end Run
/-- behind a call: its answer, and the world -/
theorem q_aftI {r : Int32} {a9 : Array Value} (C : Cx D y p s m args meth c A own cc cd ret nL) (hw : St D A s H locs ws)
    (isC isR is2 : List Nat) (hC : isC.map (fun i => ws[i]?) = wc.map some) (hR : isR.map (fun i => ws[i]?) = wr.map some) (hn : va_nd isR = true) (hdis : ∀ i ∈ isR, i ∉ isC) (hn2 : va_nd is2 = true) (h2 : is2.map (fun i => (wr ++ w1)[i]?) = w2.map some)
    (hr : va_Run p l e R s m args below meth c H locs cells slots 0 0 (F0 m pc ls st0) rest (va_Qi (fun r' (_ : Unit) => r' = r) (CtPost D w1 (va_A wc H.size)) (va_A wc H.size) a9) (va_A wc H.size))
    (kk : ∀ (H1 : Heap) (locs1 : List Loc), St D A s H1 locs1 w2 → W p l e R s m args below meth c H1 locs1 cells slots Q (F0 m (pc + 3) ls (.int r :: rest))) : W p l e R s m args below meth c H locs cells slots Q (F0 m pc ls st0) := by
  have hF := va_free (wc := wc) hw.2.1 hw.2.2 C.a isC hC
  refine va_calli hr hw.2.2 (fun q _ h => hF q h) hF (fun r' u t H1 locs1 ht hvm hp hB hz1 hk1 hS => ?_)
  subst hp
  exact kk H1 locs1 (st_back C hw isC isR is2 hC hR hn hdis hn2 h2 ht hB hk1 hS)
theorem q_aftZ {r : Int32} {a9 : Array Value} (C : Cx D y p s m args meth c A own cc cd ret nL) (hw : St D A s H locs ws)
    (isC isR is2 : List Nat) (hC : isC.map (fun i => ws[i]?) = wc.map some) (hR : isR.map (fun i => ws[i]?) = wr.map some) (hn : va_nd isR = true) (hdis : ∀ i ∈ isR, i ∉ isC) (hn2 : va_nd is2 = true) (h2 : is2.map (fun i => (wr ++ w1)[i]?) = w2.map some)
    (hr : va_Run p l e R s m args below meth c H locs cells slots 0 0 (F0 m pc ls st0) rest (va_Qi (fun r' (_ : Unit) => r' = r ∧ narrow .boolean (.int r) = .int r) (CtPost D w1 (va_A wc H.size)) (va_A wc H.size) a9) (va_A wc H.size))
    (kk : ∀ (H1 : Heap) (locs1 : List Loc), narrow .boolean (.int r) = .int r → St D A s H1 locs1 w2 → W p l e R s m args below meth c H1 locs1 cells slots Q (F0 m (pc + 3) ls (.int r :: rest))) : W p l e R s m args below meth c H locs cells slots Q (F0 m pc ls st0) := by
  have hF := va_free (wc := wc) hw.2.1 hw.2.2 C.a isC hC
  refine va_calli hr hw.2.2 (fun q _ h => hF q h) hF (fun r' u t H1 locs1 ht hvm hp hB hz1 hk1 hS => ?_)
  obtain ⟨hp, hp2⟩ := hp
  subst hp
  exact kk H1 locs1 hp2 (st_back C hw isC isR is2 hC hR hn hdis hn2 h2 ht hB hk1 hS)
theorem q_aftL {r : Int64} {a9 : Array Value} (C : Cx D y p s m args meth c A own cc cd ret nL) (hw : St D A s H locs ws)
    (isC isR is2 : List Nat) (hC : isC.map (fun i => ws[i]?) = wc.map some) (hR : isR.map (fun i => ws[i]?) = wr.map some) (hn : va_nd isR = true) (hdis : ∀ i ∈ isR, i ∉ isC) (hn2 : va_nd is2 = true) (h2 : is2.map (fun i => (wr ++ w1)[i]?) = w2.map some)
    (hr : va_Run p l e R s m args below meth c H locs cells slots 0 0 (F0 m pc ls st0) rest (va_Ql (fun r' (_ : Unit) => r' = r) (CtPost D w1 (va_A wc H.size)) (va_A wc H.size) a9) (va_A wc H.size))
    (kk : ∀ (H1 : Heap) (locs1 : List Loc), St D A s H1 locs1 w2 → W p l e R s m args below meth c H1 locs1 cells slots Q (F0 m (pc + 3) ls (.long r :: rest))) : W p l e R s m args below meth c H locs cells slots Q (F0 m pc ls st0) := by
  have hF := va_free (wc := wc) hw.2.1 hw.2.2 C.a isC hC
  refine va_calll hr hw.2.2 (fun q _ h => hF q h) hF (fun r' u t H1 locs1 ht hvm hp hB hz1 hk1 hS => ?_)
  subst hp
  exact kk H1 locs1 (st_back C hw isC isR is2 hC hR hn hdis hn2 h2 ht hB hk1 hS)
theorem q_aftV {a9 : Array Value} (C : Cx D y p s m args meth c A own cc cd ret nL) (hw : St D A s H locs ws)
    (isC isR is2 : List Nat) (hC : isC.map (fun i => ws[i]?) = wc.map some) (hR : isR.map (fun i => ws[i]?) = wr.map some) (hn : va_nd isR = true) (hdis : ∀ i ∈ isR, i ∉ isC) (hn2 : va_nd is2 = true) (h2 : is2.map (fun i => (wr ++ w1)[i]?) = w2.map some)
    (hr : va_Run p l e R s m args below meth c H locs cells slots 0 0 (F0 m pc ls st0) rest (va_Qv (fun (_ : Unit) => True) (CtPost D w1 (va_A wc H.size)) (va_A wc H.size) a9) (va_A wc H.size))
    (kk : ∀ (H1 : Heap) (locs1 : List Loc), St D A s H1 locs1 w2 → W p l e R s m args below meth c H1 locs1 cells slots Q (F0 m (pc + 3) ls rest)) : W p l e R s m args below meth c H locs cells slots Q (F0 m pc ls st0) := by
  have hF := va_free (wc := wc) hw.2.1 hw.2.2 C.a isC hC
  refine va_callv hr hw.2.2 (fun q _ h => hF q h) hF (fun u t H1 locs1 ht hvm hp hB hz1 hk1 hS => ?_)
  exact kk H1 locs1 (st_back C hw isC isR is2 hC hR hn hdis hn2 h2 ht hB hk1 hS)
end Calls
theorem sw_out (n : Nat) (x : Int32) (h : ∀ k, k < n → ¬ x = Int32.ofNat k) (hn : n < 2 ^ 31 := by decide) : x.toInt < 0 ∨ (n : Int) - 1 < x.toInt := by
  rcases Int.lt_or_le x.toInt 0 with h1 | h1
  · exact Or.inl h1
  · refine Or.inr ?_
    rcases Int.lt_or_le ((n : Int) - 1) x.toInt with h2 | h2
    · exact h2
    · refine absurd ?_ (h x.toInt.toNat (by omega))
      have h3 : (Int32.ofNat x.toInt.toNat).toInt = x.toInt := by
        have h4 := nI_toInt (n := x.toInt.toNat) (by omega)
        unfold nI at h4
        rw [h4]; omega
      exact Int32.toInt_inj.mp h3.symm

