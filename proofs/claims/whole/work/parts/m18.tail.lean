/-! ===== worlds with a tail that a method doesn't look into; steps that are kept ===== -/
theorem D_split {A : Nat → Prop} {a b : va_W} (h : va_D A (a ++ b)) : va_D A a ∧ va_D A b ∧ ∀ p ∈ a, ∀ q ∈ b, p.1 ≠ q.1 := by
  have la : ∀ (k : Nat) (q : Nat × va_E), a[k]? = some q → (a ++ b)[k]? = some q := fun k q hk => by
    rw [List.getElem?_append_left (List.getElem?_eq_some_iff.mp hk).1]; exact hk
  have lb : ∀ (k : Nat) (q : Nat × va_E), b[k]? = some q → (a ++ b)[a.length + k]? = some q := fun k q hk => by
    rw [List.getElem?_append_right (by omega)]
    rw [show a.length + k - a.length = k by omega]; exact hk
  refine ⟨⟨fun i j p q hi hj he => h.1 i j p q (la i p hi) (la j q hj) he, fun k q hk => h.2 k q (la k q hk)⟩, ⟨fun i j p q hi hj he => ?_, fun k q hk => h.2 _ q (lb k q hk)⟩, fun p hp q hq he => ?_⟩
  · have := h.1 _ _ p q (lb i p hi) (lb j q hj) he
    omega
  · obtain ⟨i, hi⟩ := List.getElem?_of_mem hp
    obtain ⟨j, hj⟩ := List.getElem?_of_mem hq
    have h1 := h.1 _ _ p q (la i p hi) (lb j q hj) he
    have h2 := (List.getElem?_eq_some_iff.mp hi).1
    omega
theorem D_glue {A : Nat → Prop} {a b : va_W} (ha : va_D A a) (hb : va_D A b) (hx : ∀ p ∈ a, ∀ q ∈ b, p.1 ≠ q.1) : va_D A (a ++ b) := va_D.app ha hb (fun _ _ p q hp hq => hx p (List.mem_of_getElem? hp) q (List.mem_of_getElem? hq))
theorem P_split {D : va_G} {cl : List vw_C} {a b : va_W} {H : Heap} (h : va_P D cl (a ++ b) H) : va_P D cl a H ∧ va_P D cl b H := by
  refine ⟨fun k q hk => h k q ?_, fun k q hk => h (a.length + k) q ?_⟩
  · rw [List.getElem?_append_left (List.getElem?_eq_some_iff.mp hk).1]; exact hk
  · rw [List.getElem?_append_right (by omega), show a.length + k - a.length = k by omega]; exact hk
theorem P_perm {D : va_G} {cl : List vw_C} {a b : va_W} {H : Heap} (hp : a.Perm b) (h : va_P D cl a H) : va_P D cl b H := fun _ q hk => by
  obtain ⟨i, hi⟩ := List.getElem?_of_mem (hp.mem_iff.mpr (List.mem_of_getElem? hk))
  exact h i q hi
theorem D_nodup {A : Nat → Prop} {a : va_W} : va_D A a ↔ (a.map Prod.fst).Nodup ∧ ∀ q ∈ a, A q.1 := by
  constructor
  · intro h
    refine ⟨?_, fun q hq => ?_⟩
    · refine List.pairwise_iff_getElem.mpr fun i j hi hj hij he => ?_
      rw [List.length_map] at hi hj
      rw [List.getElem_map, List.getElem_map] at he
      have := h.1 i j _ _ (List.getElem?_eq_getElem hi) (List.getElem?_eq_getElem hj) he
      omega
    · obtain ⟨i, hi⟩ := List.getElem?_of_mem hq
      exact h.2 i q hi
  · intro h
    refine ⟨fun i j p q hi hj he => ?_, fun k q hk => h.2 q (List.mem_of_getElem? hk)⟩
    obtain ⟨li, ei⟩ := List.getElem?_eq_some_iff.mp hi
    obtain ⟨lj, ej⟩ := List.getElem?_eq_some_iff.mp hj
    have hn := List.pairwise_iff_getElem.mp h.1
    rcases Nat.lt_trichotomy i j with hlt | heq | hgt
    · refine absurd ?_ (hn i j (by rw [List.length_map]; exact li) (by rw [List.length_map]; exact lj) hlt)
      rw [List.getElem_map, List.getElem_map, ei, ej]; exact he
    · exact heq
    · refine absurd ?_ (hn j i (by rw [List.length_map]; exact lj) (by rw [List.length_map]; exact li) hgt)
      rw [List.getElem_map, List.getElem_map, ei, ej]; exact he.symm
theorem D_perm {A : Nat → Prop} {a b : va_W} (hp : a.Perm b) (h : va_D A a) : va_D A b := by
  rw [D_nodup] at h ⊢
  exact ⟨(hp.map Prod.fst).nodup_iff.mp h.1, fun q hq => h.2 q (hp.mem_iff.mpr hq)⟩
theorem St.perm {D : va_G} {A : Nat → Prop} {s : State} {H : Heap} {locs : List Loc} {a b : va_W} (hp : a.Perm b) (h : St D A s H locs a) : St D A s H locs b := ⟨P_perm hp h.1, D_perm hp h.2.1, h.2.2⟩
theorem St.pre {D : va_G} {A : Nat → Prop} {s : State} {H : Heap} {locs : List Loc} {a b : va_W} (h : St D A s H locs (a ++ b)) : St D A s H locs a := ⟨(P_split h.1).1, (D_split h.2.1).1, h.2.2⟩
section Tail
variable {D : va_G} {y : Nat → ClassId} {p : Program} {l : Launch} {e : Env} {R : Room} {s : State} {m : MethodId} {args : Array Value} {below : List Frame} {meth : Method} {c : Code} {H : Heap} {locs : List Loc} {cells slots : Nat} {Q : State → Prop} {A : Nat → Prop} {own : String} {cc : ByteArray} {cd : Cond} {ret : Option FieldType} {nL pc : Nat} {ls : Array Slot} {rest st0 : List Value} {we w2 wr wc w1 tl : va_W}
theorem st_backT (C : Cx D y p s m args meth c A own cc cd ret nL) (hw : St D A s H locs (we ++ tl)) (isC isR is2 : List Nat) (hC : isC.map (fun i => we[i]?) = wc.map some) (hR : isR.map (fun i => we[i]?) = wr.map some) (hn : va_nd isR = true) (hdis : ∀ i ∈ isR, i ∉ isC) (hn2 : va_nd is2 = true) (h2 : is2.map (fun i => (wr ++ w1)[i]?) = w2.map some) {H1 : Heap} {locs1 : List Loc} {t : State} (ht : t.heap = H1) (hB : CtPost D w1 (va_A wc H.size) () t) (hk1 : ∀ q : Nat, q < H.size → ¬ va_A wc H.size q → H1[q]? = H[q]?) (hS1 : va_S A s.heap H1 locs1) : St D A s H1 locs1 (w2 ++ tl) := by
  have h1 : St D A s H1 locs1 w2 := st_back C hw.pre isC isR is2 hC hR hn hdis hn2 h2 ht hB hk1 hS1
  obtain ⟨hPe, hPt⟩ := P_split hw.1
  obtain ⟨hDe, hDt, hx⟩ := D_split hw.2.1
  have mem_of : ∀ {is : List Nat} {w v : va_W}, is.map (fun i => v[i]?) = w.map some → ∀ q ∈ w, q ∈ v := by
    intro is w v hs q hq
    have h3 : some q ∈ is.map (fun i => v[i]?) := by rw [hs]; exact List.mem_map.mpr ⟨q, hq, rfl⟩
    obtain ⟨i, -, hi⟩ := List.mem_map.mp h3
    exact List.mem_of_getElem? hi
  have hlt : ∀ q ∈ tl, q.1 < H.size := fun q hq => by
    obtain ⟨i, hi⟩ := List.getElem?_of_mem hq
    exact (hPt i q hi).lt
  have apart : ∀ q ∈ tl, ∀ a : Nat, va_A wc H.size a → a ≠ q.1 := by
    intro q hq a ha
    rcases ha with ⟨k, e9, hk⟩ | ha
    · exact hx (a, e9) (mem_of hC _ (List.mem_of_getElem? hk)) q hq
    · have := hlt q hq
      omega
  refine ⟨va_P.app h1.1 (hPt.kept fun k q hk => hk1 q.1 (hlt q (List.mem_of_getElem? hk)) fun ha => apart q (List.mem_of_getElem? hk) q.1 ha rfl), D_glue h1.2.1 hDt fun p9 hp9 q hq => ?_, hS1⟩
  rcases List.mem_append.mp (mem_of h2 p9 hp9) with h3 | h3
  · exact hx p9 (mem_of hR p9 h3) q hq
  · obtain ⟨i, hi⟩ := List.getElem?_of_mem h3
    exact apart q hq p9.1 (hB.2.2 i p9 hi)
theorem q_aftIT {r : Int32} {a9 : Array Value} (C : Cx D y p s m args meth c A own cc cd ret nL) (hw : St D A s H locs (we ++ tl))
    (isC isR is2 : List Nat) (hC : isC.map (fun i => we[i]?) = wc.map some) (hR : isR.map (fun i => we[i]?) = wr.map some) (hn : va_nd isR = true) (hdis : ∀ i ∈ isR, i ∉ isC) (hn2 : va_nd is2 = true) (h2 : is2.map (fun i => (wr ++ w1)[i]?) = w2.map some)
    (hr : va_Run p l e R s m args below meth c H locs cells slots 0 0 (F0 m pc ls st0) rest (va_Qi (fun r' (_ : Unit) => r' = r) (CtPost D w1 (va_A wc H.size)) (va_A wc H.size) a9) (va_A wc H.size))
    (kk : ∀ (H1 : Heap) (locs1 : List Loc), St D A s H1 locs1 (w2 ++ tl) → W p l e R s m args below meth c H1 locs1 cells slots Q (F0 m (pc + 3) ls (.int r :: rest))) : W p l e R s m args below meth c H locs cells slots Q (F0 m pc ls st0) := by
  have hF := va_free (wc := wc) hw.pre.2.1 hw.2.2 C.a isC hC
  refine va_calli hr hw.2.2 (fun q _ h => hF q h) hF (fun r' u t H1 locs1 ht hvm hp hB hz1 hk1 hS => ?_)
  subst hp
  exact kk H1 locs1 (st_backT C hw isC isR is2 hC hR hn hdis hn2 h2 ht hB hk1 hS)
theorem q_aftZT {r : Int32} {a9 : Array Value} (C : Cx D y p s m args meth c A own cc cd ret nL) (hw : St D A s H locs (we ++ tl))
    (isC isR is2 : List Nat) (hC : isC.map (fun i => we[i]?) = wc.map some) (hR : isR.map (fun i => we[i]?) = wr.map some) (hn : va_nd isR = true) (hdis : ∀ i ∈ isR, i ∉ isC) (hn2 : va_nd is2 = true) (h2 : is2.map (fun i => (wr ++ w1)[i]?) = w2.map some)
    (hr : va_Run p l e R s m args below meth c H locs cells slots 0 0 (F0 m pc ls st0) rest (va_Qi (fun r' (_ : Unit) => r' = r ∧ narrow .boolean (.int r) = .int r) (CtPost D w1 (va_A wc H.size)) (va_A wc H.size) a9) (va_A wc H.size))
    (kk : ∀ (H1 : Heap) (locs1 : List Loc), narrow .boolean (.int r) = .int r → St D A s H1 locs1 (w2 ++ tl) → W p l e R s m args below meth c H1 locs1 cells slots Q (F0 m (pc + 3) ls (.int r :: rest))) : W p l e R s m args below meth c H locs cells slots Q (F0 m pc ls st0) := by
  have hF := va_free (wc := wc) hw.pre.2.1 hw.2.2 C.a isC hC
  refine va_calli hr hw.2.2 (fun q _ h => hF q h) hF (fun r' u t H1 locs1 ht hvm hp hB _ hk1 hS => ?_)
  obtain ⟨hp, hp2⟩ := hp
  subst hp
  exact kk H1 locs1 hp2 (st_backT C hw isC isR is2 hC hR hn hdis hn2 h2 ht hB hk1 hS)
theorem q_aftVT {a9 : Array Value} (C : Cx D y p s m args meth c A own cc cd ret nL) (hw : St D A s H locs (we ++ tl))
    (isC isR is2 : List Nat) (hC : isC.map (fun i => we[i]?) = wc.map some) (hR : isR.map (fun i => we[i]?) = wr.map some) (hn : va_nd isR = true) (hdis : ∀ i ∈ isR, i ∉ isC) (hn2 : va_nd is2 = true) (h2 : is2.map (fun i => (wr ++ w1)[i]?) = w2.map some)
    (hr : va_Run p l e R s m args below meth c H locs cells slots 0 0 (F0 m pc ls st0) rest (va_Qv (fun (_ : Unit) => True) (CtPost D w1 (va_A wc H.size)) (va_A wc H.size) a9) (va_A wc H.size))
    (kk : ∀ (H1 : Heap) (locs1 : List Loc), St D A s H1 locs1 (w2 ++ tl) → W p l e R s m args below meth c H1 locs1 cells slots Q (F0 m (pc + 3) ls rest)) : W p l e R s m args below meth c H locs cells slots Q (F0 m pc ls st0) := by
  have hF := va_free (wc := wc) hw.pre.2.1 hw.2.2 C.a isC hC
  refine va_callv hr hw.2.2 (fun q _ h => hF q h) hF (fun u t H1 locs1 ht hvm hp hB _ hk1 hS => ?_)
  exact kk H1 locs1 (st_backT C hw isC isR is2 hC hR hn hdis hn2 h2 ht hB hk1 hS)
theorem q_aftQT {r : Option Nat} {a9 : Array Value} (C : Cx D y p s m args meth c A own cc cd ret nL) (hw : St D A s H locs (we ++ tl))
    (isC isR is2 : List Nat) (hC : isC.map (fun i => we[i]?) = wc.map some) (hR : isR.map (fun i => we[i]?) = wr.map some) (hn : va_nd isR = true) (hdis : ∀ i ∈ isR, i ∉ isC) (hn2 : va_nd is2 = true) (h2 : is2.map (fun i => (wr ++ w1)[i]?) = w2.map some)
    (hr : va_Run p l e R s m args below meth c H locs cells slots 0 0 (F0 m pc ls st0) rest (va_Qq (fun r' (_ : Unit) => r' = r) (CtPost D w1 (va_A wc H.size)) (va_A wc H.size) a9) (va_A wc H.size))
    (kk : ∀ (H1 : Heap) (locs1 : List Loc), St D A s H1 locs1 (w2 ++ tl) → W p l e R s m args below meth c H1 locs1 cells slots Q (F0 m (pc + 3) ls (va_rf r :: rest))) : W p l e R s m args below meth c H locs cells slots Q (F0 m pc ls st0) := by
  have hF := va_free (wc := wc) hw.pre.2.1 hw.2.2 C.a isC hC
  refine va_callq hr hw.2.2 (fun q _ h => hF q h) hF (fun r' u t H1 locs1 ht hvm hp hB hz1 hk1 hS => ?_)
  subst hp
  exact kk H1 locs1 (st_backT C hw isC isR is2 hC hR hn hdis hn2 h2 ht hB hk1 hS)
end Tail
/-! what a step that is kept leaves: first, held, the rows, the tail -/
abbrev KU : Type := Int32 × Int32 × (Nat → Option Nat) × va_W
abbrev mC : Nat := 16
abbrev mS : Nat := 1200
def KR (b : Bool) (K : KU → Prop) (u0 u : KU) : Prop := if b = true then K u else u = u0
/-- keep: from the world w u0 to w u, where K u -/
def CK (D : va_G) (y : Nat → ClassId) (l : Launch) (rm : Room) (av : List Value) (w : KU → va_W) (u0 : KU) (K : KU → Prop) : Prop := ∀ sz : Nat, Met l yX2_keep (Cond.code yX2_keep cX2_keep 2 none :: tbG) rm (va_Pc av (CtPre D y (w u0) sz)) (va_Qv K (fun u t => CtPost D (w u) (va_A (w u0) sz) () t) (va_A (w u0) sz)) mC mS (va_A (w u0) sz)
def CIM (D : va_G) (y : Nat → ClassId) (l : Launch) (yn : MethodName) (ws : List Cond) (rm : Room) (av : List Value) (w0 : va_W) (w1 : KU → va_W) (r : Int32) (b : Bool) (K : KU → Prop) (u0 : KU) : Prop := ∀ sz : Nat, Met l yn ws rm (va_Pc av (CtPre D y w0 sz)) (va_Qi (fun r' (u : KU) => r' = r ∧ KR b K u0 u) (fun u t => CtPost D (w1 u) (va_A w0 sz) () t) (va_A w0 sz)) mC mS (va_A w0 sz)
def CZM (D : va_G) (y : Nat → ClassId) (l : Launch) (yn : MethodName) (ws : List Cond) (rm : Room) (av : List Value) (w0 : va_W) (w1 : KU → va_W) (r : Int32) (b : Bool) (K : KU → Prop) (u0 : KU) : Prop := ∀ sz : Nat, Met l yn ws rm (va_Pc av (CtPre D y w0 sz)) (va_Qi (fun r' (u : KU) => (r' = r ∧ narrow .boolean (.int r) = .int r) ∧ KR b K u0 u) (fun u t => CtPost D (w1 u) (va_A w0 sz) () t) (va_A w0 sz)) mC mS (va_A w0 sz)
abbrev QIM (D : va_G) (s : State) (A : Nat → Prop) (args : Array Value) (below : List Frame) (w1 : KU → va_W) (r : Int32) (b : Bool) (K : KU → Prop) (u0 : KU) : State → Prop := MQ below (va_Qi (fun r' (u : KU) => r' = r ∧ KR b K u0 u) (fun u t => CtPost D (w1 u) A () t) A) args s mC mS A
abbrev QZM (D : va_G) (s : State) (A : Nat → Prop) (args : Array Value) (below : List Frame) (w1 : KU → va_W) (r : Int32) (b : Bool) (K : KU → Prop) (u0 : KU) : State → Prop := MQ below (va_Qi (fun r' (u : KU) => (r' = r ∧ narrow .boolean (.int r) = .int r) ∧ KR b K u0 u) (fun u t => CtPost D (w1 u) A () t) A) args s mC mS A
section Keep
variable {D : va_G} {y : Nat → ClassId} {p : Program} {l : Launch} {e : Env} {R : Room} {s : State} {m : MethodId} {args : Array Value} {below : List Frame} {meth : Method} {c : Code} {H : Heap} {locs : List Loc} {Q : State → Prop} {A : Nat → Prop} {own : String} {cc : ByteArray} {cd : Cond} {ret : Option FieldType} {nL pc : Nat} {ls : Array Slot} {rest : List Value} {ws : va_W}
theorem q_iretM {v r : Int32} {b : Bool} {K : KU → Prop} {u0 : KU} {w1 : KU → va_W} {k n : Nat} (C : Cx D y p s m args meth c A own cc cd (some .int) nL) (u : KU) (hw : St D A s H locs ws) (hws : ws = w1 u) (hv : v = r) (hu : KR b K u0 u) (hk : k ≤ mC) (hn : n ≤ mS) (hdg : decode cc pc = .ok (.ireturn, 1)) : W p l e R s m args below meth c H locs k n (QIM D s A args below w1 r b K u0) (F0 m pc ls [.int v]) := by
  subst hws
  refine W.widen hk hn ?_
  exact W.iret C.x C.b C.r (fun t ht _ => ⟨⟨v, u, rfl, ⟨hv, hu⟩, by rw [ht]; exact hw.1, hw.2.1⟩, hw.2.2.F ht⟩) hw.2.2.2.2 hdg C.lk
theorem q_zretM {v r : Int32} {b : Bool} {K : KU → Prop} {u0 : KU} {w1 : KU → va_W} {k n : Nat} (C : Cx D y p s m args meth c A own cc cd (some .boolean) nL) (u : KU) (hw : St D A s H locs ws) (hws : ws = w1 u) (hnb : narrow .boolean (.int v) = .int v) (hv : v = r) (hu : KR b K u0 u) (hk : k ≤ mC) (hn : n ≤ mS) (hdg : decode cc pc = .ok (.ireturn, 1)) : W p l e R s m args below meth c H locs k n (QZM D s A args below w1 r b K u0) (F0 m pc ls [.int v]) := by
  subst hws
  refine W.widen hk hn ?_
  exact W.zret C.x C.b C.r hnb (fun t ht _ => ⟨⟨v, u, rfl, ⟨⟨hv, hv ▸ hnb⟩, hu⟩, by rw [ht]; exact hw.1, hw.2.1⟩, hw.2.2.F ht⟩) hw.2.2.2.2 hdg C.lk
end Keep
