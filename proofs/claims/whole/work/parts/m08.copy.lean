/-! ===== System.arraycopy ===== -/
theorem cpk_some {α : Type} {sp dp n : Int32} {n0 n1 : Nat} {x : Option α} {r : α} (h : cpk sp dp n n0 n1 x = some r) : (¬ sp < 0 ∧ ¬ dp < 0 ∧ ¬ n < 0 ∧ sp.toNatClampNeg + n.toNatClampNeg ≤ n0 ∧ dp.toNatClampNeg + n.toNatClampNeg ≤ n1) ∧ x = some r := by
  unfold cpk at h
  split at h
  · rename_i hc
    exact ⟨hc, h⟩
  · cases h
section Copy
variable {D : va_G} {y : Nat → ClassId} {p : Program} {l : Launch} {e : Env} {R : Room} {s : State} {m : MethodId} {args : Array Value} {below : List Frame} {meth : Method} {c : Code} {H : Heap} {locs : List Loc} {cells slots : Nat} {Q : State → Prop} {A : Nat → Prop} {own : String} {cc : ByteArray} {cd : Cond} {ret : Option FieldType} {nL pc index : Nat} {ls : Array Slot} {rest : List Value} {ws w2 : va_W} {a0 a1 n0 n1 : Nat} {sp dp n : Int32}
theorem q_cpi {f g : Nat → Int32} (C : Cx D y p s m args meth c A own cc cd ret nL) (hw : St D A s H locs ws) (q0 q1 : Nat) (ha0 : ws[q0]? = some (a0, .inl (y 0, n0, .inl f))) (ha1 : ws[q1]? = some (a1, .inl (y 0, n1, .inl g))) (h2 : ws.set q1 (a1, .inl (y 0, n1, .inl (va_cpy f g sp.toNatClampNeg dp.toNatClampNeg n.toNatClampNeg))) = w2)
    (hi : ¬ sp < 0 ∧ ¬ dp < 0 ∧ ¬ n < 0 ∧ sp.toNatClampNeg + n.toNatClampNeg ≤ n0 ∧ dp.toNatClampNeg + n.toNatClampNeg ≤ n1) (hsz : ls.size = nL) (hlink : Cond.methodLink own index arraycopyName ∈ tbG) (hnat : Cond.native arraycopyName ∈ tbG) (hstat : Cond.static arraycopyName ∈ tbG) (hini : Cond.initialized "java/lang/System" ∈ tbG) (hfr : 1 ≤ R.frames) (hlo : (rest.map fun v => v.category).sum + (nativeFrameWords "java/lang/System" "arraycopy" 5 + 11) ≤ R.locals) (hdg : decode cc pc = .ok (.invokestatic index, 3))
    (kk : ∀ (H1 : Heap) (locs1 : List Loc), St D A s H1 locs1 w2 → W p l e R s m args below meth c H1 locs1 cells slots Q (F0 m (pc + 3) ls rest)) : W p l e R s m args below meth c H locs cells slots Q (F0 m pc ls (.int n :: .int dp :: .ref a1 :: .int sp :: .ref a0 :: rest)) :=
  va_copyi C.x C.b (C.ml.trans hsz.symm) C.ow (C.ts _ (List.mem_cons_of_mem _ hlink)) (C.ts _ (List.mem_cons_of_mem _ hnat)) (C.ts _ (List.mem_cons_of_mem _ hstat)) (C.ts _ (List.mem_cons_of_mem _ hini)) C.k.1 hw.1 hw.2.1 hw.2.2 q0 q1 0 0 ha0 ha1 rfl rfl rfl hi.1 hi.2.1 hi.2.2.1 hi.2.2.2.1 hi.2.2.2.2 (fun _ _ => rfl) hfr hlo hdg (fun H1 locs1 hP hD hS => kk H1 locs1 (St.go ⟨hP, hD, hS⟩ h2))
theorem q_cpl {f g : Nat → Int64} (C : Cx D y p s m args meth c A own cc cd ret nL) (hw : St D A s H locs ws) (q0 q1 : Nat) (ha0 : ws[q0]? = some (a0, .inl (y 1, n0, .inr (.inl f)))) (ha1 : ws[q1]? = some (a1, .inl (y 1, n1, .inr (.inl g)))) (h2 : ws.set q1 (a1, .inl (y 1, n1, .inr (.inl (va_cpy f g sp.toNatClampNeg dp.toNatClampNeg n.toNatClampNeg)))) = w2)
    (hi : ¬ sp < 0 ∧ ¬ dp < 0 ∧ ¬ n < 0 ∧ sp.toNatClampNeg + n.toNatClampNeg ≤ n0 ∧ dp.toNatClampNeg + n.toNatClampNeg ≤ n1) (hsz : ls.size = nL) (hlink : Cond.methodLink own index arraycopyName ∈ tbG) (hnat : Cond.native arraycopyName ∈ tbG) (hstat : Cond.static arraycopyName ∈ tbG) (hini : Cond.initialized "java/lang/System" ∈ tbG) (hfr : 1 ≤ R.frames) (hlo : (rest.map fun v => v.category).sum + (nativeFrameWords "java/lang/System" "arraycopy" 5 + 11) ≤ R.locals) (hdg : decode cc pc = .ok (.invokestatic index, 3))
    (kk : ∀ (H1 : Heap) (locs1 : List Loc), St D A s H1 locs1 w2 → W p l e R s m args below meth c H1 locs1 cells slots Q (F0 m (pc + 3) ls rest)) : W p l e R s m args below meth c H locs cells slots Q (F0 m pc ls (.int n :: .int dp :: .ref a1 :: .int sp :: .ref a0 :: rest)) :=
  va_copyl C.x C.b (C.ml.trans hsz.symm) C.ow (C.ts _ (List.mem_cons_of_mem _ hlink)) (C.ts _ (List.mem_cons_of_mem _ hnat)) (C.ts _ (List.mem_cons_of_mem _ hstat)) (C.ts _ (List.mem_cons_of_mem _ hini)) C.k.1 hw.1 hw.2.1 hw.2.2 q0 q1 1 1 ha0 ha1 rfl rfl rfl hi.1 hi.2.1 hi.2.2.1 hi.2.2.2.1 hi.2.2.2.2 (fun _ _ => rfl) hfr hlo hdg (fun H1 locs1 hP hD hS => kk H1 locs1 (St.go ⟨hP, hD, hS⟩ h2))
end Copy
/-! ===== a method of java.lang.Math that no entry stands for ===== -/
theorem met_ofWF {l : Launch} {y : MethodName} {ws ws' : List Cond} {rm : Room} {Pc : Array Value → State → Prop} {Qc : Array Value → State → Outcome → State → Prop} {mc ms : Nat} {free : Addr → Prop} {cc : ByteArray} {maxL : Nat} {ret : Option FieldType}
    (hy : plainFor y = true) (hw : ws = Cond.code y cc maxL ret :: ws')
    (body : ∀ p e s m args below meth c s₁, BodyLoose p l y (headSpec ws rm) cc maxL ret e s m args below meth c s₁ → c.maxLocals = maxL → Pc args s →
      W p l e (headSpec ws rm).room s m args below meth c s.heap [] 0 0 (MQ below Qc args s mc ms free) (entryFrame m args maxL)) : Met l y ws rm Pc Qc mc ms free := by
  refine MetFree.of_bodySF (code := cc) (maxLocals := maxL) (ret := ret) hy ?_ ?_
  · intro args s m h hn
    obtain ⟨meth, c, h1, h2, h3, h4, h5, h6, -, -⟩ := Cond.code_spec hn (atoms_spec (ws := ws) h _ (by rw [hw]; exact List.mem_cons_self))
    exact ⟨meth, c, h1, h2, h3, h4, h5, h6⟩
  · intro p e s m args below meth c s₁ B hml hP _
    have hh0 : s₁.heap = s.heap := by rw [B.state]; rfl
    obtain ⟨t, a1, o, b1, b2, b3⟩ := body p e s m args below meth c s₁ B hml hP s₁ hh0 (Stand.of_body B)
    exact ⟨t, o, a1, b1, b2, ⟨b3.1, b3.2⟩⟩
section OfF
variable {D : va_G} {y : Nat → ClassId} {l : Launch} {yn : MethodName} {rm : Room} {av : List Value} {w w1 : va_W} {cc : ByteArray} {maxL : Nat} {own : String}
theorem CI.ofF {r : Int32} (hy : plainFor yn = true) (ho : yn.cls = own) (hn : (lg_sl av).length ≤ maxL)
    (h : ∀ (p : Program) (e : Env) (s : State) (m : MethodId) (args : Array Value) (below : List Frame) (meth : Method) (c : Code) (A : Nat → Prop) (H : Heap) (locs : List Loc) (ls : Array Slot), Cx D y p s m args meth c A own cc (Cond.code yn cc maxL (some .int)) (some .int) maxL → St D A s H locs w → lv_has ls maxL (lv_args 0 av) → W p l e rm s m args below meth c H locs 0 0 (QI D s A args below w1 r) (F0 m 0 ls [])) : CI D y l yn (Cond.code yn cc maxL (some .int) :: tbG) rm av w w1 r := by
  intro sz
  refine met_ofWF (cc := cc) (maxL := maxL) (ret := some .int) hy rfl ?_
  intro p e s m args below meth c s₁ B hml hv
  obtain ⟨rfl, hsz, hP, hK, hD⟩ := hv
  subst hsz
  rw [lg_entry_eq]
  exact h p e s m _ below meth c _ _ _ _ (of_cx B hml ho hK) ⟨hP, hD.self, va_S.rf⟩ (lv_entry av hn)
theorem CL.ofF {r : Int64} (hy : plainFor yn = true) (ho : yn.cls = own) (hn : (lg_sl av).length ≤ maxL)
    (h : ∀ (p : Program) (e : Env) (s : State) (m : MethodId) (args : Array Value) (below : List Frame) (meth : Method) (c : Code) (A : Nat → Prop) (H : Heap) (locs : List Loc) (ls : Array Slot), Cx D y p s m args meth c A own cc (Cond.code yn cc maxL (some .long)) (some .long) maxL → St D A s H locs w → lv_has ls maxL (lv_args 0 av) → W p l e rm s m args below meth c H locs 0 0 (QL D s A args below w1 r) (F0 m 0 ls [])) : CL D y l yn (Cond.code yn cc maxL (some .long) :: tbG) rm av w w1 r := by
  intro sz
  refine met_ofWF (cc := cc) (maxL := maxL) (ret := some .long) hy rfl ?_
  intro p e s m args below meth c s₁ B hml hv
  obtain ⟨rfl, hsz, hP, hK, hD⟩ := hv
  subst hsz
  rw [lg_entry_eq]
  exact h p e s m _ below meth c _ _ _ _ (of_cx B hml ho hK) ⟨hP, hD.self, va_S.rf⟩ (lv_entry av hn)
end OfF
