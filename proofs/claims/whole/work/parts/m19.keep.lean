theorem KR_t {K : KU → Prop} {u0 u : KU} (h : K u) : KR true K u0 u := h
theorem KR_f {K : KU → Prop} {u0 u : KU} (h : u0 = u) : KR false K u0 u := h.symm
/-! ===== the call of keep in a world with a tail ===== -/
section KeepCall
variable {D : va_G} {y : Nat → ClassId} {p : Program} {l : Launch} {e : Env} {R : Room} {s : State} {m : MethodId} {args : Array Value} {below : List Frame} {meth : Method} {c : Code} {H : Heap} {locs : List Loc} {Q : State → Prop} {A : Nat → Prop} {own : String} {cc : ByteArray} {cd : Cond} {ret : Option FieldType} {nL pc : Nat} {ls : Array Slot} {rest : List Value} {we wr : va_W}
theorem mem_of_places {is : List Nat} {w v : va_W} (hs : is.map (fun i => v[i]?) = w.map some) : ∀ q ∈ w, q ∈ v := by
  intro q hq
  have h3 : some q ∈ is.map (fun i => v[i]?) := by rw [hs]; exact List.mem_map.mpr ⟨q, hq, rfl⟩
  obtain ⟨i, -, hi⟩ := List.mem_map.mp h3
  exact List.mem_of_getElem? hi
/-- a part of the first, and all of the tail -/
theorem St.subT {a b tl : va_W} (h : St D A s H locs (a ++ tl)) (is : List Nat) (hn : va_nd is = true) (hs : is.map (fun i => a[i]?) = b.map some) : St D A s H locs (b ++ tl) := by
  obtain ⟨hP1, hP2⟩ := P_split h.1
  obtain ⟨hD1, hD2, hx⟩ := D_split h.2.1
  have h1 : St D A s H locs b := St.sub (ws := a) ⟨hP1, hD1, h.2.2⟩ is hn hs
  exact ⟨va_P.app h1.1 hP2, D_glue h1.2.1 hD2 fun p9 hp9 q hq => hx p9 (mem_of_places hs p9 hp9) q hq, h.2.2⟩
theorem st_backK {wk1 wk2 w2 tl tl' : va_W} (C : Cx D y p s m args meth c A own cc cd ret nL) (hw : St D A s H locs (we ++ tl)) (isC isR is2 : List Nat) (hC : isC.map (fun i => we[i]?) = wk1.map some) (hnC : va_nd isC = true) (hR : isR.map (fun i => we[i]?) = wr.map some) (hn : va_nd isR = true) (hdis : ∀ i ∈ isR, i ∉ isC) (hn2 : va_nd is2 = true) (h2 : is2.map (fun i => (wr ++ wk2)[i]?) = w2.map some)
    {H1 : Heap} {locs1 : List Loc} {t : State} (ht : t.heap = H1) (hB : CtPost D (wk2 ++ tl') (va_A (wk1 ++ tl) H.size) () t) (hk1 : ∀ q : Nat, q < H.size → ¬ va_A (wk1 ++ tl) H.size q → H1[q]? = H[q]?) (hF : ∀ q, va_A (wk1 ++ tl) H.size q → A q) (hS1 : va_S A s.heap H1 locs1) : St D A s H1 locs1 (w2 ++ tl') := by
  have hr : St D A s H locs wr := hw.pre.sub isR hn hR
  obtain ⟨-, -, hx⟩ := D_split hw.2.1
  have apart : ∀ q ∈ wr, ∀ a : Nat, va_A (wk1 ++ tl) H.size a → q.1 ≠ a := by
    intro q hq a ha he
    rcases ha with ⟨k, e9, hk⟩ | ha
    · rcases List.mem_append.mp (List.mem_of_getElem? hk) with h3 | h3
      · -- a cell of the callee's explicit part: another place of we
        obtain ⟨i, hi⟩ := List.getElem?_of_mem hq
        obtain ⟨j, hj⟩ := List.getElem?_of_mem h3
        have g1 : (isR.map (fun i => we[i]?))[i]? = some (some q) := by rw [hR, List.getElem?_map, hi]; rfl
        have g2 : (isC.map (fun i => we[i]?))[j]? = some (some (a, e9)) := by rw [hC, List.getElem?_map, hj]; rfl
        rw [List.getElem?_map] at g1 g2
        cases hri : isR[i]? with
        | none => rw [hri] at g1; cases g1
        | some i2 =>
          cases hcj : isC[j]? with
          | none => rw [hcj] at g2; cases g2
          | some j2 =>
            rw [hri] at g1
            rw [hcj] at g2
            have hij := hw.pre.2.1.1 i2 j2 q (a, e9) (Option.some.inj g1) (Option.some.inj g2) he
            subst hij
            exact hdis _ (List.mem_of_getElem? hri) (List.mem_of_getElem? hcj)
      · exact hx q (mem_of_places hR q hq) (a, e9) h3 he
    · obtain ⟨i, hi⟩ := List.getElem?_of_mem hq
      have := (hr.1 i q hi).lt
      omega
  obtain ⟨hP1, hD1⟩ := hB
  rw [ht] at hP1
  have hPr : va_P D vwCl wr H1 := hr.1.kept fun k q hk => hk1 q.1 (hr.1 k q hk).lt fun ha => apart q (List.mem_of_getElem? hk) q.1 ha rfl
  have hall : St D A s H1 locs1 ((wr ++ wk2) ++ tl') := by
    rw [List.append_assoc]
    exact ⟨va_P.app hPr hP1, D_glue hr.2.1 (hD1.weaken fun _ q _ ha => hF q.1 ha) fun p9 hp9 q hq he => by
      obtain ⟨i, hi⟩ := List.getElem?_of_mem hq
      exact apart p9 hp9 q.1 (hD1.2 i q hi) he, hS1⟩
  exact hall.subT is2 hn2 h2
theorem free_K {wk1 tl : va_W} (C : Cx D y p s m args meth c A own cc cd ret nL) (hw : St D A s H locs (we ++ tl)) (isC : List Nat) (hC : isC.map (fun i => we[i]?) = wk1.map some) : ∀ q, va_A (wk1 ++ tl) H.size q → A q := by
  intro q h
  rcases h with ⟨k, e9, hk⟩ | h
  · have hm : (q, e9) ∈ we ++ tl := by
      rcases List.mem_append.mp (List.mem_of_getElem? hk) with h3 | h3
      · exact List.mem_append_left _ (mem_of_places hC _ h3)
      · exact List.mem_append_right _ h3
    obtain ⟨i, hi⟩ := List.getElem?_of_mem hm
    exact hw.2.1.2 i _ hi
  · exact C.a q (Nat.le_trans hw.2.2.1 h)
theorem q_keep {K : KU → Prop} {u0 : KU} {wk w2 : KU → va_W} {rm : Room} {b a index q0 : Nat} {fs : List Value} (C : Cx D y p s m args meth c A own cc cd ret nL) (hw : St D A s H locs (we ++ u0.2.2.2)) (hM : CK D y l rm [.ref b, .ref a] (fun u => wk u ++ u.2.2.2) u0 K)
    (isC isR is2 : List Nat) (hC : isC.map (fun i => we[i]?) = (wk u0).map some) (hnC : va_nd isC = true) (hR : isR.map (fun i => we[i]?) = wr.map some) (hn : va_nd isR = true) (hdis : ∀ i ∈ isR, i ∉ isC) (hn2 : va_nd is2 = true) (h2 : ∀ u, is2.map (fun i => (wr ++ wk u)[i]?) = (w2 u).map some)
    (he : we[q0]? = some (b, .inr (2, fs))) (hl : Cond.methodLink own index yX2_keep ∈ tbG) (hm : rm.cells = mC ∧ rm.slots = mS) (hR9 : rm.frames + 1 ≤ R.frames ∧ 8 + (2 + 11) + rm.locals ≤ R.locals) (hsz : ls.size = nL) (hro : (rest.map fun v => v.category).sum ≤ 8) (hdg : decode cc pc = .ok (.invokevirtual index, 3)) (hf : mC ≤ R.cells ∧ mS ≤ R.slots) (hi : Cond.instanceMethod yX2_keep ∈ tbG) (hs : Cond.selects RX2 yX2_keep yX2_keep ∈ tbG) (hini : Cond.initialized RX2 ∈ tbG) (hcd : Cond.code yX2_keep cX2_keep 2 none ∈ tbG)
    (kk : ∀ (u : KU) (H1 : Heap) (locs1 : List Loc), K u → St D A s H1 locs1 (w2 u ++ u.2.2.2) → W p l e R s m args below meth c H1 locs1 mC mS Q (F0 m (pc + 3) ls rest)) : W p l e R s m args below meth c H locs 0 0 Q (F0 m pc ls (.ref a :: .ref b :: rest)) := by
  have hF := free_K C hw isC hC
  have hpre : ∀ U : State, U.heap = H → s.WarmedH U.vm → va_Pc [.ref b, .ref a] (CtPre D y (wk u0 ++ u0.2.2.2) H.size) ([.ref b, .ref a] : List Value).toArray U := by
    intro U hU hW
    have h := hw.subT (b := wk u0) isC hnC hC
    exact ⟨rfl, by rw [hU], by rw [hU]; exact h.1, C.k.warm hW, h.2.1.weaken (fun _ _ _ _ => trivial)⟩
  have hrun : va_Run p l e R s m args below meth c H locs 0 0 mC mS (F0 m pc ls (.ref a :: .ref b :: rest)) rest (va_Qv K (fun u t => CtPost D (wk u ++ u.2.2.2) (va_A (wk u0 ++ u0.2.2.2) H.size) () t) (va_A (wk u0 ++ u0.2.2.2) H.size) ([.ref b, .ref a] : List Value).toArray) (va_A (wk u0 ++ u0.2.2.2) H.size) :=
    va_runV (As := [.ref a]) (rest := rest) (C := RX2) (bytes := cX2_keep) (maxL := 2) (ret := none) (n := 1) (index := index) ⟨C.x, C.b, C.ml, C.ow, C.ts⟩ (hM H.size) ⟨callB_of 1 C.ts (gdC hcd) rfl hm.1 hm.2 (C.ts _ (List.mem_cons_of_mem _ hini)) (C.ts _ (List.mem_cons_of_mem _ hl)) ⟨by decide +kernel, by decide +kernel, by decide +kernel⟩ hR9, C.ts _ (List.mem_cons_of_mem _ hi), C.ts _ (List.mem_cons_of_mem _ hs)⟩ ⟨pc_blind, va_recv C.k.1 hw.pre.1 (ci := 2) (q := (RX2, TX2, 3)) rfl he, hpre⟩ rfl rfl hsz rfl (lv_room hro) hdg ⟨by rw [Nat.zero_add]; exact hf.1, by rw [Nat.zero_add]; exact hf.2⟩
  refine va_callv hrun hw.2.2 (fun q _ h => hF q h) hF (fun u t H1 locs1 ht hvm hp hB hz1 hk1 hS => ?_)
  exact kk u H1 locs1 hp (st_backK C hw isC isR is2 hC hnC hR hn hdis hn2 (h2 u) ht hB hk1 hF hS)
end KeepCall
section OfM
variable {D : va_G} {y : Nat → ClassId} {l : Launch} {yn : MethodName} {rm : Room} {av : List Value} {w : va_W} {w1 : KU → va_W} {cc : ByteArray} {maxL : Nat} {own : String}
theorem CIM.of {r : Int32} {b : Bool} {K : KU → Prop} {u0 : KU} (hy : plainName yn.cls = true) (ho : yn.cls = own) (hn : (lg_sl av).length ≤ maxL)
    (h : ∀ (p : Program) (e : Env) (s : State) (m : MethodId) (args : Array Value) (below : List Frame) (meth : Method) (c : Code) (A : Nat → Prop) (H : Heap) (locs : List Loc) (ls : Array Slot), Cx D y p s m args meth c A own cc (Cond.code yn cc maxL (some .int)) (some .int) maxL → St D A s H locs w → lv_has ls maxL (lv_args 0 av) → W p l e rm s m args below meth c H locs 0 0 (QIM D s A args below w1 r b K u0) (F0 m 0 ls [])) : CIM D y l yn (Cond.code yn cc maxL (some .int) :: tbG) rm av w w1 r b K u0 := by
  intro sz
  refine Met.ofW (cc := cc) (maxL := maxL) (ret := some .int) hy rfl ?_
  intro p e s m args below meth c s₁ B hml hv
  obtain ⟨rfl, hsz, hP, hK, hD⟩ := hv
  subst hsz
  rw [lg_entry_eq]
  exact h p e s m _ below meth c _ _ _ _ (of_cx B hml ho hK) ⟨hP, hD.self, va_S.rf⟩ (lv_entry av hn)
theorem CZM.of {r : Int32} {b : Bool} {K : KU → Prop} {u0 : KU} (hy : plainName yn.cls = true) (ho : yn.cls = own) (hn : (lg_sl av).length ≤ maxL)
    (h : ∀ (p : Program) (e : Env) (s : State) (m : MethodId) (args : Array Value) (below : List Frame) (meth : Method) (c : Code) (A : Nat → Prop) (H : Heap) (locs : List Loc) (ls : Array Slot), Cx D y p s m args meth c A own cc (Cond.code yn cc maxL (some .boolean)) (some .boolean) maxL → St D A s H locs w → lv_has ls maxL (lv_args 0 av) → W p l e rm s m args below meth c H locs 0 0 (QZM D s A args below w1 r b K u0) (F0 m 0 ls [])) : CZM D y l yn (Cond.code yn cc maxL (some .boolean) :: tbG) rm av w w1 r b K u0 := by
  intro sz
  refine Met.ofW (cc := cc) (maxL := maxL) (ret := some .boolean) hy rfl ?_
  intro p e s m args below meth c s₁ B hml hv
  obtain ⟨rfl, hsz, hP, hK, hD⟩ := hv
  subst hsz
  rw [lg_entry_eq]
  exact h p e s m _ below meth c _ _ _ _ (of_cx B hml ho hK) ⟨hP, hD.self, va_S.rf⟩ (lv_entry av hn)
end OfM
