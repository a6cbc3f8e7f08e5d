/-! ===== references: arrays of them, calls that answer one or null ===== -/
def rfq (b : Bool) (a : Nat) : Option Nat := bif b then some a else none
def CQ (D : va_G) (y : Nat → ClassId) (l : Launch) (yn : MethodName) (ws : List Cond) (rm : Room) (av : List Value) (w w1 : va_W) (r : Option Nat) : Prop := ∀ sz : Nat, Met l yn ws rm (va_Pc av (CtPre D y w sz)) (va_Qq (fun r' (_ : Unit) => r' = r) (CtPost D w1 (va_A w sz)) (va_A w sz)) 0 0 (va_A w sz)
abbrev QQ (D : va_G) (s : State) (A : Nat → Prop) (args : Array Value) (below : List Frame) (w1 : va_W) (r : Option Nat) : State → Prop := MQ below (va_Qq (fun r' (_ : Unit) => r' = r) (CtPost D w1 A) A) args s 0 0 A
section Refs
variable {D : va_G} {y : Nat → ClassId} {p : Program} {l : Launch} {e : Env} {R : Room} {s : State} {m : MethodId} {args : Array Value} {below : List Frame} {meth : Method} {c : Code} {H : Heap} {locs : List Loc} {cells slots : Nat} {Q : State → Prop} {A : Nat → Prop} {own : String} {cc : ByteArray} {cd : Cond} {ret : Option FieldType} {nL pc : Nat} {ls : Array Slot} {rest st0 : List Value} {ws w2 wr wc w1 : va_W}
theorem q_aldq (C : Cx D y p s m args meth c A own cc cd ret nL) (hw : St D A s H locs ws) {n a b t : Nat} {Cn : String} {f : Nat → Option Nat} (q0 : Nat) (ha : ws[q0]? = some (a, .inl (y t, n, .inr (.inr (.inr (.inr f)))))) (ht : (tyL y)[t]? = some (y t, .object Cn)) {i : Int32} (hin : vp_in i n) (hv : f i.toNatClampNeg = some b) (hdg : decode cc pc = .ok (.aaload, 1))
    (kk : W p l e R s m args below meth c H locs cells slots Q (F0 m (pc + 1) ls (.ref b :: rest))) : W p l e R s m args below meth c H locs cells slots Q (F0 m pc ls (.int i :: .ref a :: rest)) := by
  refine va_aldq C.x C.b C.k.1 hw.1 q0 t ha ht hin hdg ?_
  rw [hv]
  exact kk
theorem q_aldN (C : Cx D y p s m args meth c A own cc cd ret nL) (hw : St D A s H locs ws) {n a t : Nat} {Cn : String} {f : Nat → Option Nat} (q0 : Nat) (ha : ws[q0]? = some (a, .inl (y t, n, .inr (.inr (.inr (.inr f)))))) (ht : (tyL y)[t]? = some (y t, .object Cn)) {i : Int32} (hin : vp_in i n) (hv : f i.toNatClampNeg = none) (hdg : decode cc pc = .ok (.aaload, 1))
    (kk : W p l e R s m args below meth c H locs cells slots Q (F0 m (pc + 1) ls (.null :: rest))) : W p l e R s m args below meth c H locs cells slots Q (F0 m pc ls (.int i :: .ref a :: rest)) := by
  refine va_aldq C.x C.b C.k.1 hw.1 q0 t ha ht hin hdg ?_
  rw [hv]
  exact kk
theorem q_astq (C : Cx D y p s m args meth c A own cc cd ret nL) (hw : St D A s H locs ws) {n a b t ci : Nat} {r : vw_C} {vs : List Value} {f : Nat → Option Nat} {i : Int32} (q0 qk : Nat) (ha : ws[q0]? = some (a, .inl (y t, n, .inr (.inr (.inr (.inr f)))))) (ht : (tyL y)[t]? = some (y t, .object r.1)) (hv : ws[qk]? = some (b, .inr (ci, vs))) (hc : vwCl[ci]? = some r) (h2 : ws.set q0 (a, .inl (y t, n, .inr (.inr (.inr (.inr (va_up f i.toNatClampNeg (some b))))))) = w2) (hin : vp_in i n) (hdg : decode cc pc = .ok (.aastore, 1))
    (kk : ∀ (H1 : Heap) (locs1 : List Loc), St D A s H1 locs1 w2 → W p l e R s m args below meth c H1 locs1 cells slots Q (F0 m (pc + 1) ls rest)) : W p l e R s m args below meth c H locs cells slots Q (F0 m pc ls (.ref b :: .int i :: .ref a :: rest)) :=
  va_astq C.x C.b C.k.1 hw.1 hw.2.1 hw.2.2 q0 t qk ci ha ht hv hc hin hdg (fun H1 locs1 hP hD hS => kk H1 locs1 (St.go ⟨hP, hD, hS⟩ h2))
theorem rf_kind (r : Option Nat) : va_rf r = .null ∨ ∃ a, va_rf r = .ref a := by
  cases r with
  | none => exact Or.inl rfl
  | some a => exact Or.inr ⟨a, rfl⟩
theorem q_aret {v : Value} {r : Option Nat} {cn : String} (C : Cx D y p s m args meth c A own cc cd (some (.object cn)) nL) (hw : St D A s H locs ws) (hv : v = va_rf r) (hdg : decode cc pc = .ok (.areturn, 1)) : W p l e R s m args below meth c H locs 0 0 (QQ D s A args below ws r) (F0 m pc ls [v]) := by
  subst hv
  exact W.aret C.x C.b C.r (Or.inl ⟨cn, rfl⟩) (rf_kind r) (fun t ht _ => ⟨⟨r, (), rfl, rfl, by rw [ht]; exact hw.1, hw.2.1⟩, hw.2.2.F ht⟩) hw.2.2.2.2 hdg C.lk
theorem q_aftQ {r : Option Nat} {a9 : Array Value} (C : Cx D y p s m args meth c A own cc cd ret nL) (hw : St D A s H locs ws)
    (isC isR is2 : List Nat) (hC : isC.map (fun i => ws[i]?) = wc.map some) (hR : isR.map (fun i => ws[i]?) = wr.map some) (hn : va_nd isR = true) (hdis : ∀ i ∈ isR, i ∉ isC) (hn2 : va_nd is2 = true) (h2 : is2.map (fun i => (wr ++ w1)[i]?) = w2.map some)
    (hr : va_Run p l e R s m args below meth c H locs cells slots 0 0 (F0 m pc ls st0) rest (va_Qq (fun r' (_ : Unit) => r' = r) (CtPost D w1 (va_A wc H.size)) (va_A wc H.size) a9) (va_A wc H.size))
    (kk : ∀ (H1 : Heap) (locs1 : List Loc), St D A s H1 locs1 w2 → W p l e R s m args below meth c H1 locs1 cells slots Q (F0 m (pc + 3) ls (va_rf r :: rest))) : W p l e R s m args below meth c H locs cells slots Q (F0 m pc ls st0) := by
  have hF := va_free (wc := wc) hw.2.1 hw.2.2 C.a isC hC
  refine va_callq hr hw.2.2 (fun q _ h => hF q h) hF (fun r' u t H1 locs1 ht hvm hp hB hz1 hk1 hS => ?_)
  subst hp
  exact kk H1 locs1 (st_back C hw isC isR is2 hC hR hn hdis hn2 h2 ht hB hk1 hS)
end Refs
theorem CQ.of {D : va_G} {y : Nat → ClassId} {l : Launch} {yn : MethodName} {rm : Room} {av : List Value} {w w1 : va_W} {cc : ByteArray} {maxL : Nat} {own : String} {r : Option Nat} {rt : FieldType} (hy : plainName yn.cls = true) (ho : yn.cls = own) (hn : (lg_sl av).length ≤ maxL)
    (h : ∀ (p : Program) (e : Env) (s : State) (m : MethodId) (args : Array Value) (below : List Frame) (meth : Method) (c : Code) (A : Nat → Prop) (H : Heap) (locs : List Loc) (ls : Array Slot), Cx D y p s m args meth c A own cc (Cond.code yn cc maxL (some rt)) (some rt) maxL → St D A s H locs w → lv_has ls maxL (lv_args 0 av) → W p l e rm s m args below meth c H locs 0 0 (QQ D s A args below w1 r) (F0 m 0 ls [])) : CQ D y l yn (Cond.code yn cc maxL (some rt) :: tbG) rm av w w1 r := by
  intro sz
  refine Met.ofW (cc := cc) (maxL := maxL) (ret := some rt) hy rfl ?_
  intro p e s m args below meth c s₁ B hml hv
  obtain ⟨rfl, hsz, hP, hK, hD⟩ := hv
  subst hsz
  rw [lg_entry_eq]
  exact h p e s m _ below meth c _ _ _ _ (of_cx B hml ho hK) ⟨hP, hD.self, va_S.rf⟩ (lv_entry av hn)

