/-! ===== the call of a method that keeps a step ===== -/
theorem q_callM {D : va_G} {y : Nat → ClassId} {p : Program} {l : Launch} {e : Env} {R : Room} {s : State} {m : MethodId} {args : Array Value} {below : List Frame} {meth : Method} {c : Code} {H : Heap} {locs : List Loc} {Q : State → Prop} {A : Nat → Prop} {own : String} {cc : ByteArray} {cd : Cond} {ret : Option FieldType} {nL pc : Nat} {ls : Array Slot} {rest st0 : List Value} {w0 : va_W} {w1 : KU → va_W} {yn : MethodName} {bytes : ByteArray} {maxL index n a q0 ci N : Nat} {T : u_T} {fs : List Value} {rm : Room} {As : List Value} {r : Int32} {b : Bool} {K : KU → Prop} {u0 : KU}
    (C : Cx D y p s m args meth c A own cc cd ret nL) (hw : St D A s H locs w0) (hM : CIM D y l yn (Cond.code yn bytes maxL (some .int) :: tbG) rm (.ref a :: As) w0 w1 r b K u0)
    (he : w0[q0]? = some (a, .inr (ci, fs))) (hc : vwCl[ci]? = some (yn.cls, T, N)) (hl : Cond.methodLink own index yn ∈ tbG) (hi : Cond.instanceMethod yn ∈ tbG) (hs : Cond.selects yn.cls yn yn ∈ tbG) (hini : Cond.initialized yn.cls ∈ tbG) (hcd : Cond.code yn bytes maxL (some .int) ∈ tbG) (hk : okY yn n) (hm : rm.cells = mC ∧ rm.slots = mS) (hR : rm.frames + 1 ≤ R.frames ∧ 8 + (maxL + 11) + rm.locals ≤ R.locals) (hn : As.length = n) (hsz : ls.size = nL) (hst : st0 = As.reverse ++ .ref a :: rest) (hro : (rest.map fun v => v.category).sum ≤ 8) (hdg : decode cc pc = .ok (.invokevirtual index, 3)) (hf : mC ≤ R.cells ∧ mS ≤ R.slots)
    (kk : ∀ (u : KU) (H1 : Heap) (locs1 : List Loc), KR b K u0 u → St D A s H1 locs1 (w1 u) → W p l e R s m args below meth c H1 locs1 mC mS Q (F0 m (pc + 3) ls (.int r :: rest))) : W p l e R s m args below meth c H locs 0 0 Q (F0 m pc ls st0) := by
  subst hst
  have hF : ∀ q, va_A w0 H.size q → A q := by
    intro q h
    rcases h with ⟨k, e9, hk⟩ | h
    · exact hw.2.1.2 k _ hk
    · exact C.a q (Nat.le_trans hw.2.2.1 h)
  have hpre : ∀ U : State, U.heap = H → s.WarmedH U.vm → va_Pc (.ref a :: As) (CtPre D y w0 H.size) (.ref a :: As : List Value).toArray U := by
    intro U hU hW
    exact ⟨rfl, by rw [hU], by rw [hU]; exact hw.1, C.k.warm hW, hw.2.1.weaken (fun _ _ _ _ => trivial)⟩
  have hrun := va_runV (below := below) (cells := 0) (slots := 0) (locs := locs) (H := H) (g := F0 m pc ls (As.reverse ++ .ref a :: rest)) (As := As) (rest := rest) (C := yn.cls) (bytes := bytes) (maxL := maxL) (ret := some .int) (n := n) (index := index) (p := p) (e := e) (R := R) (meth := meth) ⟨C.x, C.b, C.ml, C.ow, C.ts⟩ (hM H.size) ⟨callB_of n C.ts (gdC hcd) rfl hm.1 hm.2 (C.ts _ (List.mem_cons_of_mem _ hini)) (C.ts _ (List.mem_cons_of_mem _ hl)) hk hR, C.ts _ (List.mem_cons_of_mem _ hi), C.ts _ (List.mem_cons_of_mem _ hs)⟩ ⟨pc_blind, va_recv C.k.1 hw.1 hc he, hpre⟩ rfl hn hsz rfl (lv_room hro) hdg ⟨by rw [Nat.zero_add]; exact hf.1, by rw [Nat.zero_add]; exact hf.2⟩
  refine va_calli hrun hw.2.2 (fun q _ h => hF q h) hF (fun r' u t H1 locs1 ht hvm hp hB hz1 hk1 hS => ?_)
  obtain ⟨hp, hu⟩ := hp
  subst hp
  obtain ⟨hP1, hD1⟩ := hB
  rw [ht] at hP1
  have h9 := kk u H1 locs1 hu ⟨hP1, hD1.weaken fun _ q _ ha => hF q.1 ha, hS⟩
  exact h9

