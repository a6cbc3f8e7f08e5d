/-! ===== constructors ===== -/
def CN (D : va_G) (y : Nat → ClassId) (l : Launch) (yn : MethodName) (ws : List Cond) (rm : Room) (av : List Value) (w : va_W) (w1 : (Nat → Nat) → va_W) (mc ms : Nat) : Prop := ∀ sz : Nat, Met l yn ws rm (va_Pc av (CtPre D y w sz)) (va_Qv (fun (_ : Nat → Nat) => True) (fun u t => CtPost D (w1 u) (va_A w sz) () t) (va_A w sz)) mc ms (va_A w sz)
abbrev QN (D : va_G) (s : State) (A : Nat → Prop) (args : Array Value) (below : List Frame) (w1 : (Nat → Nat) → va_W) (mc ms : Nat) : State → Prop := MQ below (va_Qv (fun (_ : Nat → Nat) => True) (fun u t => CtPost D (w1 u) A () t) A) args s mc ms A
theorem CN.of {D : va_G} {y : Nat → ClassId} {l : Launch} {yn : MethodName} {rm : Room} {av : List Value} {w : va_W} {w1 : (Nat → Nat) → va_W} {cc : ByteArray} {maxL mc ms : Nat} {own : String} (hy : plainName yn.cls = true) (hni : yn.name = "<init>") (ho : yn.cls = own) (hn : (lg_sl av).length ≤ maxL)
    (h : ∀ (p : Program) (e : Env) (s : State) (m : MethodId) (args : Array Value) (below : List Frame) (meth : Method) (c : Code) (A : Nat → Prop) (H : Heap) (locs : List Loc) (ls : Array Slot), Cx D y p s m args meth c A own cc (Cond.code yn cc maxL none) none maxL → meth.name = "<init>" → St D A s H locs w → lv_has ls maxL (lv_args 0 av) → W p l e rm s m args below meth c H locs 0 0 (QN D s A args below w1 mc ms) (F0 m 0 ls [])) : CN D y l yn (Cond.code yn cc maxL none :: tbG) rm av w w1 mc ms := by
  intro sz
  refine Met.ofW (cc := cc) (maxL := maxL) (ret := none) hy rfl ?_
  intro p e s m args below meth c s₁ B hml hv
  obtain ⟨rfl, hsz, hP, hK, hD⟩ := hv
  subst hsz
  rw [lg_entry_eq]
  exact h p e s m _ below meth c _ _ _ _ (of_cx B hml ho hK) ((name_of_methodNamed B.named B.method).1.trans hni) ⟨hP, hD.self, va_S.rf⟩ (lv_entry av hn)
section New
variable {D : va_G} {y : Nat → ClassId} {p : Program} {l : Launch} {e : Env} {R : Room} {s : State} {m : MethodId} {args : Array Value} {below : List Frame} {meth : Method} {c : Code} {H : Heap} {locs : List Loc} {cells slots : Nat} {Q : State → Prop} {A : Nat → Prop} {own : String} {cc : ByteArray} {cd : Cond} {ret : Option FieldType} {nL pc : Nat} {ls : Array Slot} {rest st0 : List Value} {ws w2 wr wc : va_W}
theorem q_vretN {w1 : (Nat → Nat) → va_W} {mc ms k n : Nat} (C : Cx D y p s m args meth c A own cc cd none nL) (u : Nat → Nat) (hw : St D A s H locs ws) (hws : ws = w1 u) (hk : k ≤ mc) (hn : n ≤ ms) (hdg : decode cc pc = .ok (.return_, 1)) : W p l e R s m args below meth c H locs k n (QN D s A args below w1 mc ms) (F0 m pc ls []) := by
  subst hws
  refine W.widen hk hn ?_
  exact W.vret C.x C.b C.r (fun t ht _ => ⟨⟨u, rfl, trivial, by rw [ht]; exact hw.1, hw.2.1⟩, hw.2.2.F ht⟩) hw.2.2.2.2 hdg C.lk
theorem q_objI {a idx : Nat} {lvl9 : List (Nat × Value)} (C : Cx D y p s m args meth c A own cc cd ret nL) (hl : lv_has ls nL lvl9) (hlink : Cond.methodLink own idx objectInit ∈ tbG) (hinst : Cond.instanceMethod objectInit ∈ tbG) (hcode : Cond.code objectInit ⟨#[0xb1]⟩ 1 none ∈ tbG) (hd : decode cc pc = .ok (.invokespecial idx, 3)) (hframes : 1 ≤ R.frames) (hlocals : 12 ≤ R.locals)
    (kk : W p l e R s m args below meth c H locs cells slots Q (F0 m (pc + 3) ls [])) : W p l e R s m args below meth c H locs cells slots Q (F0 m pc ls [.ref a]) :=
  W.objInit C.x C.b C.ow (C.ts _ (List.mem_cons_of_mem _ hlink)) (C.ts _ (List.mem_cons_of_mem _ hinst)) (C.ts _ (List.mem_cons_of_mem _ hcode)) rfl (hl.1.trans C.ml.symm) rfl hd hframes hlocals kk
theorem q_new {Cn : String} {T : u_T} {N ci index : Nat} {fs : List Value} (C : Cx D y p s m args meth c A own cc cd ret nL) (hw : St D A s H locs ws) (hc : vwCl[ci]? = some (Cn, T, N)) (hin : ∀ w ∈ u_ws Cn T N, w ∈ tbG) (ty : Nat → FieldType) (hty : ∀ k, k < N → parseFieldDescriptor (T k).2.2.1 = some (ty k)) (hfs : ∀ j, j < N → defaultValue (ty j) = vp_V fs j) (hcl : Cond.classLink own index Cn ∈ tbG) (hinst : Cond.instantiable Cn N ∈ tbG) (hini : Cond.initialized Cn ∈ tbG) (hcells : cells + 1 ≤ R.cells) (hslots : slots + N ≤ R.slots) (hdg : decode cc pc = .ok (.new index, 3))
    (kk : ∀ (q : Nat) (H1 : Heap), St D A s H1 locs (ws ++ [(q, .inr (ci, fs))]) → W p l e R s m args below meth c H1 locs (cells + 1) (slots + N) Q (F0 m (pc + 3) ls (.ref q :: rest))) : W p l e R s m args below meth c H locs cells slots Q (F0 m pc ls rest) :=
  va_new C.x C.b C.ts (fun w h => List.mem_cons_of_mem _ (hin w h)) ty hty C.ow (C.ts _ (List.mem_cons_of_mem _ hcl)) (C.ts _ (List.mem_cons_of_mem _ hinst)) (C.ts _ (List.mem_cons_of_mem _ hini)) C.k.1 hw.1 hw.2.1 hw.2.2 C.a hc hfs hcells hslots hdg (fun q H1 hP hD hS => kk q H1 ⟨hP, hD, hS⟩)
theorem q_newI {n : Int32} {N' : Nat} (C : Cx D y p s m args meth c A own cc cd ret nL) (hw : St D A s H locs ws) (harr : Cond.arrayClass .int ∈ tbG) (hn : ¬ n < 0) (hN : n.toNatClampNeg = N') (hbytes : N' * componentBytes .int ≤ 536870912) (hcells : cells + 1 ≤ R.cells) (hslots : slots + N' ≤ R.slots) (hdg : decode cc pc = .ok (.newarray .int, 2))
    (kk : ∀ (q : Nat) (H1 : Heap), St D A s H1 locs (ws ++ [(q, .inl (y 0, N', .inl (fun _ => 0)))]) → W p l e R s m args below meth c H1 locs (cells + 1) (slots + N') Q (F0 m (pc + 2) ls (.ref q :: rest))) : W p l e R s m args below meth c H locs cells slots Q (F0 m pc ls (.int n :: rest)) := by
  refine va_newa (atype := .int) (ty := .int) (a0 := (N', .inl (fun _ => 0))) C.x C.b (C.ts _ (List.mem_cons_of_mem _ harr)) rfl C.k.1 hw.1 hw.2.1 hw.2.2 C.a (fun _ => rfl) hn hN hbytes hcells hslots hdg (fun q cA H1 hK hP hD hS => ?_)
  have h1 : s.vm.findClass ("[" ++ FieldType.int.toString) = some cA := (hK.2 5 (cA, .int) rfl).2
  have h2 : s.vm.findClass ("[" ++ FieldType.int.toString) = some (y 0) := (C.k.1.2 0 (y 0, .int) rfl).2
  obtain rfl : cA = y 0 := Option.some.inj (h1.symm.trans h2)
  exact kk q H1 ⟨hP, hD, hS⟩
theorem q_newJ {n : Int32} {N' : Nat} (C : Cx D y p s m args meth c A own cc cd ret nL) (hw : St D A s H locs ws) (harr : Cond.arrayClass .long ∈ tbG) (hn : ¬ n < 0) (hN : n.toNatClampNeg = N') (hbytes : N' * componentBytes .long ≤ 536870912) (hcells : cells + 1 ≤ R.cells) (hslots : slots + N' ≤ R.slots) (hdg : decode cc pc = .ok (.newarray .long, 2))
    (kk : ∀ (q : Nat) (H1 : Heap), St D A s H1 locs (ws ++ [(q, .inl (y 1, N', .inr (.inl (fun _ => 0))))]) → W p l e R s m args below meth c H1 locs (cells + 1) (slots + N') Q (F0 m (pc + 2) ls (.ref q :: rest))) : W p l e R s m args below meth c H locs cells slots Q (F0 m pc ls (.int n :: rest)) := by
  refine va_newa (atype := .long) (ty := .long) (a0 := (N', .inr (.inl (fun _ => 0)))) C.x C.b (C.ts _ (List.mem_cons_of_mem _ harr)) rfl C.k.1 hw.1 hw.2.1 hw.2.2 C.a (fun _ => rfl) hn hN hbytes hcells hslots hdg (fun q cA H1 hK hP hD hS => ?_)
  have h1 : s.vm.findClass ("[" ++ FieldType.long.toString) = some cA := (hK.2 5 (cA, .long) rfl).2
  have h2 : s.vm.findClass ("[" ++ FieldType.long.toString) = some (y 1) := (C.k.1.2 1 (y 1, .long) rfl).2
  obtain rfl : cA = y 1 := Option.some.inj (h1.symm.trans h2)
  exact kk q H1 ⟨hP, hD, hS⟩
theorem q_newZ {n : Int32} {N' : Nat} (C : Cx D y p s m args meth c A own cc cd ret nL) (hw : St D A s H locs ws) (harr : Cond.arrayClass .boolean ∈ tbG) (hn : ¬ n < 0) (hN : n.toNatClampNeg = N') (hbytes : N' * componentBytes .boolean ≤ 536870912) (hcells : cells + 1 ≤ R.cells) (hslots : slots + N' ≤ R.slots) (hdg : decode cc pc = .ok (.newarray .boolean, 2))
    (kk : ∀ (q : Nat) (H1 : Heap), St D A s H1 locs (ws ++ [(q, .inl (y 2, N', .inl (fun _ => 0)))]) → W p l e R s m args below meth c H1 locs (cells + 1) (slots + N') Q (F0 m (pc + 2) ls (.ref q :: rest))) : W p l e R s m args below meth c H locs cells slots Q (F0 m pc ls (.int n :: rest)) := by
  refine va_newa (atype := .boolean) (ty := .boolean) (a0 := (N', .inl (fun _ => 0))) C.x C.b (C.ts _ (List.mem_cons_of_mem _ harr)) rfl C.k.1 hw.1 hw.2.1 hw.2.2 C.a (fun _ => rfl) hn hN hbytes hcells hslots hdg (fun q cA H1 hK hP hD hS => ?_)
  have h1 : s.vm.findClass ("[" ++ FieldType.boolean.toString) = some cA := (hK.2 5 (cA, .boolean) rfl).2
  have h2 : s.vm.findClass ("[" ++ FieldType.boolean.toString) = some (y 2) := (C.k.1.2 2 (y 2, .boolean) rfl).2
  obtain rfl : cA = y 2 := Option.some.inj (h1.symm.trans h2)
  exact kk q H1 ⟨hP, hD, hS⟩
theorem q_newQ {Cn : String} {index t : Nat} {n : Int32} {N' : Nat} (C : Cx D y p s m args meth c A own cc cd ret nL) (hw : St D A s H locs ws) (ht : (tyL y)[t]? = some (y t, .object Cn)) (hcl : Cond.classLink own index Cn ∈ tbG) (hov : va_AO Cn s) (hn : ¬ n < 0) (hN : n.toNatClampNeg = N') (hbytes : N' * 4 ≤ 536870912) (hcells : cells + 1 ≤ R.cells) (hslots : slots + N' ≤ R.slots) (hdg : decode cc pc = .ok (.anewarray index, 3))
    (kk : ∀ (q : Nat) (H1 : Heap), St D A s H1 locs (ws ++ [(q, .inl (y t, N', .inr (.inr (.inr (.inr (fun _ => none))))))]) → W p l e R s m args below meth c H1 locs (cells + 1) (slots + N') Q (F0 m (pc + 3) ls (.ref q :: rest))) : W p l e R s m args below meth c H locs cells slots Q (F0 m pc ls (.int n :: rest)) := by
  refine va_newq C.x C.b C.ow (C.ts _ (List.mem_cons_of_mem _ hcl)) hov C.k.1 hw.1 hw.2.1 hw.2.2 C.a hn hN hbytes hcells hslots hdg (fun q cA H1 hK hP hD hS => ?_)
  obtain ⟨-, -, -, -, -, h1⟩ := (hK.2 5 (cA, .object Cn) rfl).2
  obtain ⟨-, -, -, -, -, h2⟩ := (C.k.1.2 t (y t, .object Cn) ht).2
  obtain rfl : cA = y t := Option.some.inj (h1.symm.trans h2)
  exact kk q H1 ⟨hP, hD, hS⟩
theorem q_putF (C : Cx D y p s m args meth c A own cc cd ret nL) (hni : meth.name = "<init>") (hw : St D A s H locs ws) {ref Cn : String} {T : u_T} {N ci index a : Nat} {fs : List Value} {v : Value} {ty : FieldType} {ty0 : Nat → FieldType} (q0 k : Nat) (he : ws[q0]? = some (a, .inr (ci, fs))) (h2 : ws.set q0 (a, .inr (ci, fs.set k v)) = w2) (hl : k < fs.length) (hc : vwCl[ci]? = some (Cn, T, N)) (hin : ∀ w ∈ u_ws Cn T N, w ∈ tbG) (hty : ∀ k, k < N → parseFieldDescriptor (T k).2.2.1 = some (ty0 k)) (hnm : ∀ a, a < N → ∀ b, b < N → a ≠ b → (T a).2.1 ≠ (T b).2.1) (hk : k < N) (hlink : Cond.fieldLink own index ref (T k).2.1 (T k).2.2.1 ∈ tbG) (hsame : (T k).1 = ref) (hfin : (T k).2.2.2 = true) (hdecl : (T k).1 = own) (ht : ty0 k = ty) (hn : narrow ty v = v) (hfit : fits ty v = true) (hdg : decode cc pc = .ok (.putfield index, 3))
    (kk : ∀ (H1 : Heap) (locs1 : List Loc), St D A s H1 locs1 w2 → W p l e R s m args below meth c H1 locs1 cells slots Q (F0 m (pc + 3) ls rest)) : W p l e R s m args below meth c H locs cells slots Q (F0 m pc ls (v :: .ref a :: rest)) :=
  va_putF C.x C.b C.ts (fun w h => List.mem_cons_of_mem _ (hin w h)) ty0 hty hnm C.ow C.k.1 hw.1 hw.2.1 hw.2.2 q0 he hc k hk (C.ts _ (List.mem_cons_of_mem _ hlink)) (fun _ h9 => hsame ▸ h9) hfin hni hdecl (ht ▸ hty k hk) hn hfit hl hdg (fun H1 locs1 hP hD hS => kk H1 locs1 (St.go ⟨hP, hD, hS⟩ h2))
section RunI
variable {yn : MethodName} {bytes : ByteArray} {maxL index n mc ms : Nat} {rm : Room} {As : List Value} {b : Nat} {Qc : Array Value → State → Outcome → State → Prop} {free : Addr → Prop}
theorem q_runI (C : Cx D y p s m args meth c A own cc cd ret nL) (hw : St D A s H locs ws) (hM : Met l yn (Cond.code yn bytes maxL none :: tbG) rm (va_Pc (.ref b :: As) (CtPre D y wc H.size)) Qc mc ms free) (isC : List Nat) (hC : isC.map (fun i => ws[i]?) = wc.map some) (hnC : va_nd isC = true)
    (hni : yn.name = "<init>") (hl : Cond.methodLink own index yn ∈ tbG) (hi : Cond.instanceMethod yn ∈ tbG) (hini : Cond.initialized yn.cls ∈ tbG) (hcd : Cond.code yn bytes maxL none ∈ tbG) (hk : okY yn n) (hm : rm.cells = mc ∧ rm.slots = ms) (hR : rm.frames + 1 ≤ R.frames ∧ 8 + (maxL + 11) + rm.locals ≤ R.locals) (hn : As.length = n) (hsz : ls.size = nL) (hst : st0 = As.reverse ++ .ref b :: rest) (hro : (rest.map fun v => v.category).sum ≤ 8) (hdg : decode cc pc = .ok (.invokespecial index, 3)) (hf : cells + mc ≤ R.cells ∧ slots + ms ≤ R.slots) :
    va_Run p l e R s m args below meth c H locs cells slots mc ms (F0 m pc ls st0) rest (Qc (Value.ref b :: As).toArray) free := by
  subst hst
  exact va_runI (As := As) (rest := rest) (bytes := bytes) (maxL := maxL) (n := n) (index := index) ⟨C.x, C.b, C.ml, C.ow, C.ts⟩ hM ⟨callB_of n C.ts (gdC hcd) rfl hm.1 hm.2 (C.ts _ (List.mem_cons_of_mem _ hini)) (C.ts _ (List.mem_cons_of_mem _ hl)) hk hR, hni, C.ts _ (List.mem_cons_of_mem _ hi)⟩ ⟨pc_blind, pc_here C hw isC hC hnC⟩ rfl hn hsz rfl (lv_room hro) hdg hf
theorem q_runIN {host : String} (C : Cx D y p s m args meth c A own cc cd ret nL) (hw : St D A s H locs ws) (hM : Met l yn (Cond.code yn bytes maxL none :: tbG) rm (va_Pc (.ref b :: As) (CtPre D y wc H.size)) Qc mc ms free) (isC : List Nat) (hC : isC.map (fun i => ws[i]?) = wc.map some) (hnC : va_nd isC = true)
    (hni : yn.name = "<init>") (hl : (own, index, yn, host) ∈ nestW) (hi : Cond.instanceMethod yn ∈ tbG) (hini : Cond.initialized yn.cls ∈ tbG) (hcd : Cond.code yn bytes maxL none ∈ tbG) (hk : okY yn n) (hm : rm.cells = mc ∧ rm.slots = ms) (hR : rm.frames + 1 ≤ R.frames ∧ 8 + (maxL + 11) + rm.locals ≤ R.locals) (hn : As.length = n) (hsz : ls.size = nL) (hst : st0 = As.reverse ++ .ref b :: rest) (hro : (rest.map fun v => v.category).sum ≤ 8) (hdg : decode cc pc = .ok (.invokespecial index, 3)) (hf : cells + mc ≤ R.cells ∧ slots + ms ≤ R.slots) :
    va_Run p l e R s m args below meth c H locs cells slots mc ms (F0 m pc ls st0) rest (Qc (Value.ref b :: As).toArray) free := by
  subst hst
  exact va_runIN (As := As) (rest := rest) (bytes := bytes) (maxL := maxL) (n := n) (index := index) (host := host) ⟨C.x, C.b, C.ml, C.ow, C.ts⟩ hM ⟨va_cnB n C.ts (gdC hcd) rfl hm.1 hm.2 (C.k.2.1 (own, index, yn, host) hl) (C.ts _ (List.mem_cons_of_mem _ hini)) hk hR, hni, C.ts _ (List.mem_cons_of_mem _ hi)⟩ ⟨pc_blind, pc_here C hw isC hC hnC⟩ rfl hn hsz rfl (lv_room hro) hdg hf
end RunI
/-- behind a constructor's call: the rest, then what it made -/
theorem q_aftN {w1 : (Nat → Nat) → va_W} {mc ms : Nat} {a9 : Array Value} (C : Cx D y p s m args meth c A own cc cd ret nL) (hw : St D A s H locs ws) (isC isR : List Nat) (hC : isC.map (fun i => ws[i]?) = wc.map some) (hR : isR.map (fun i => ws[i]?) = wr.map some) (hn : va_nd isR = true) (hdis : ∀ i ∈ isR, i ∉ isC)
    (hr : va_Run p l e R s m args below meth c H locs cells slots mc ms (F0 m pc ls st0) rest (va_Qv (fun (_ : Nat → Nat) => True) (fun u t => CtPost D (w1 u) (va_A wc H.size) () t) (va_A wc H.size) a9) (va_A wc H.size))
    (kk : ∀ (u : Nat → Nat) (H1 : Heap) (locs1 : List Loc), St D A s H1 locs1 (wr ++ w1 u) → W p l e R s m args below meth c H1 locs1 (cells + mc) (slots + ms) Q (F0 m (pc + 3) ls rest)) : W p l e R s m args below meth c H locs cells slots Q (F0 m pc ls st0) := by
  have hF := va_free (wc := wc) hw.2.1 hw.2.2 C.a isC hC
  refine va_callv hr hw.2.2 (fun q _ h => hF q h) hF (fun u t H1 locs1 ht hvm hp hB hz1 hk1 hS => ?_)
  obtain ⟨hP1, hD1⟩ := hB
  rw [ht] at hP1
  obtain ⟨hP, hD⟩ := va_join (wr := wr) (w1 := w1 u) hw.1 hw.2.1 isC isR hC hR hn hdis hk1 hF hP1 hD1
  exact kk u H1 locs1 ⟨hP, hD, hS⟩
end New
