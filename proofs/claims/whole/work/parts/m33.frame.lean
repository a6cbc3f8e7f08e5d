/-! ===== a contract in a larger world ===== -/
theorem core_back {D : va_G} {H H1 : Heap} {A : Nat → Prop} {we tl wc wr w1 w2 : va_W} (hP : va_P D vwCl (we ++ tl) H) (hD : va_D A (we ++ tl)) (hF : ∀ q, va_A wc H.size q → A q) (isC isR is2 : List Nat) (hC : isC.map (fun i => we[i]?) = wc.map some) (hR : isR.map (fun i => we[i]?) = wr.map some) (hn : va_nd isR = true) (hdis : ∀ i ∈ isR, i ∉ isC) (hn2 : va_nd is2 = true) (h2 : is2.map (fun i => (wr ++ w1)[i]?) = w2.map some) (hk1 : ∀ q : Nat, q < H.size → ¬ va_A wc H.size q → H1[q]? = H[q]?) (hP1 : va_P D vwCl w1 H1) (hD1 : va_D (va_A wc H.size) w1) : va_P D vwCl (w2 ++ tl) H1 ∧ va_D A (w2 ++ tl) := by
  obtain ⟨hPe, hPt⟩ := P_split hP
  obtain ⟨hDe, hDt, hx⟩ := D_split hD
  obtain ⟨hPj, hDj⟩ := va_join (wr := wr) (w1 := w1) hPe hDe isC isR hC hR hn hdis hk1 hF hP1 hD1
  have hP2 : va_P D vwCl w2 H1 := fun k q hk => by
    obtain ⟨i, hi⟩ := List.getElem?_of_mem (mem_of_places h2 q (List.mem_of_getElem? hk))
    exact hPj i q hi
  have hD2 : va_D A w2 := hDj.sub is2 hn2 h2
  have hlt : ∀ q ∈ tl, q.1 < H.size := fun q hq => by
    obtain ⟨i, hi⟩ := List.getElem?_of_mem hq
    exact (hPt i q hi).lt
  have apart : ∀ q ∈ tl, ∀ a : Nat, va_A wc H.size a → a ≠ q.1 := by
    intro q hq a ha
    rcases ha with ⟨k, e9, hk⟩ | ha
    · exact hx (a, e9) (mem_of_places hC _ (List.mem_of_getElem? hk)) q hq
    · have := hlt q hq
      omega
  refine ⟨va_P.app hP2 (hPt.kept fun k q hk => hk1 q.1 (hlt q (List.mem_of_getElem? hk)) fun ha => apart q (List.mem_of_getElem? hk) q.1 ha rfl), D_glue hD2 hDt fun p9 hp9 q hq => ?_⟩
  rcases List.mem_append.mp (mem_of_places h2 p9 hp9) with h3 | h3
  · exact hx p9 (mem_of_places hR p9 h3) q hq
  · obtain ⟨i, hi⟩ := List.getElem?_of_mem h3
    exact apart q hq p9.1 (hD1.2 i p9 hi)
theorem sub_A {we tl wc : va_W} {isC : List Nat} (hC : isC.map (fun i => we[i]?) = wc.map some) {sz q : Nat} (h : va_A wc sz q) : va_A (we ++ tl) sz q := by
  rcases h with ⟨k, e9, hk⟩ | h
  · obtain ⟨i, hi⟩ := List.getElem?_of_mem (List.mem_append_left tl (mem_of_places hC _ (List.mem_of_getElem? hk)))
    exact Or.inl ⟨i, e9, hi⟩
  · exact Or.inr h
section MetFr
variable {D : va_G} {y : Nat → ClassId} {l : Launch} {yn : MethodName} {ws : List Cond} {rm : Room} {av : List Value} {mc ms : Nat} {we tl wc wr : va_W}
theorem pre_fr {sz : Nat} (isC : List Nat) (hC : isC.map (fun i => we[i]?) = wc.map some) (hnC : va_nd isC = true) (a : Array Value) (s : State) (h : va_Pc av (CtPre D y (we ++ tl) sz) a s) : va_Pc av (CtPre D y wc sz) a s := by
  obtain ⟨h1, h2, h3, h4, h5⟩ := h
  obtain ⟨hP1, -⟩ := P_split h3
  obtain ⟨hD1, -, -⟩ := D_split h5
  refine ⟨h1, h2, fun k q hk => ?_, h4, hD1.sub isC hnC hC⟩
  obtain ⟨i, hi⟩ := List.getElem?_of_mem (mem_of_places hC q (List.mem_of_getElem? hk))
  exact hP1 i q hi
theorem post_fr {w1 w2 : va_W} {sz : Nat} (isC isR is2 : List Nat) (hC : isC.map (fun i => we[i]?) = wc.map some) (hR : isR.map (fun i => we[i]?) = wr.map some) (hn : va_nd isR = true) (hdis : ∀ i ∈ isR, i ∉ isC) (hn2 : va_nd is2 = true) (h2 : is2.map (fun i => (wr ++ w1)[i]?) = w2.map some) {a : Array Value} {s t : State} (h : va_Pc av (CtPre D y (we ++ tl) sz) a s) (hF : va_F (va_A wc sz) s t) (hB : CtPost D w1 (va_A wc sz) () t) : CtPost D (w2 ++ tl) (va_A (we ++ tl) sz) () t ∧ va_F (va_A (we ++ tl) sz) s t := by
  obtain ⟨-, hsz, hP, -, hD⟩ := h
  subst hsz
  refine ⟨core_back hP hD.self (fun q hq => sub_A hC hq) isC isR is2 hC hR hn hdis hn2 h2 (fun q hq hA => hF.2 q hq hA) hB.1 hB.2, hF.1, fun q hq hA => hF.2 q hq fun hz => hA (sub_A hC hz)⟩
theorem met_frI {S : Type} {K : Int32 → S → Prop} {w1 w2 : S → va_W} (isC isR is2 : List Nat) (hC : isC.map (fun i => we[i]?) = wc.map some) (hnC : va_nd isC = true) (hR : isR.map (fun i => we[i]?) = wr.map some) (hn : va_nd isR = true) (hdis : ∀ i ∈ isR, i ∉ isC) (hn2 : va_nd is2 = true) (h2 : ∀ u, is2.map (fun i => (wr ++ w1 u)[i]?) = (w2 u).map some) {sz : Nat}
    (h : Met l yn ws rm (va_Pc av (CtPre D y wc sz)) (va_Qi K (fun u t => CtPost D (w1 u) (va_A wc sz) () t) (va_A wc sz)) mc ms (va_A wc sz)) : Met l yn ws rm (va_Pc av (CtPre D y (we ++ tl) sz)) (va_Qi K (fun u t => CtPost D (w2 u ++ tl) (va_A (we ++ tl) sz) () t) (va_A (we ++ tl) sz)) mc ms (va_A (we ++ tl) sz) := by
  refine MetFree.mono h (pre_fr isC hC hnC) (fun _ _ _ _ _ h => h) ?_
  intro a s o t hp hq
  obtain ⟨⟨⟨r, u, ho, hk, hB⟩, hF⟩, L, hE, hL⟩ := hq
  obtain ⟨h3, h4⟩ := post_fr isC isR is2 hC hR hn hdis hn2 (h2 u) hp hF hB
  exact ⟨⟨⟨r, u, ho, hk, h3⟩, h4⟩, L, hE, fun q hq => sub_A hC (hL q hq)⟩
theorem met_frL {S : Type} {K : Int64 → S → Prop} {w1 w2 : S → va_W} (isC isR is2 : List Nat) (hC : isC.map (fun i => we[i]?) = wc.map some) (hnC : va_nd isC = true) (hR : isR.map (fun i => we[i]?) = wr.map some) (hn : va_nd isR = true) (hdis : ∀ i ∈ isR, i ∉ isC) (hn2 : va_nd is2 = true) (h2 : ∀ u, is2.map (fun i => (wr ++ w1 u)[i]?) = (w2 u).map some) {sz : Nat}
    (h : Met l yn ws rm (va_Pc av (CtPre D y wc sz)) (va_Ql K (fun u t => CtPost D (w1 u) (va_A wc sz) () t) (va_A wc sz)) mc ms (va_A wc sz)) : Met l yn ws rm (va_Pc av (CtPre D y (we ++ tl) sz)) (va_Ql K (fun u t => CtPost D (w2 u ++ tl) (va_A (we ++ tl) sz) () t) (va_A (we ++ tl) sz)) mc ms (va_A (we ++ tl) sz) := by
  refine MetFree.mono h (pre_fr isC hC hnC) (fun _ _ _ _ _ h => h) ?_
  intro a s o t hp hq
  obtain ⟨⟨⟨r, u, ho, hk, hB⟩, hF⟩, L, hE, hL⟩ := hq
  obtain ⟨h3, h4⟩ := post_fr isC isR is2 hC hR hn hdis hn2 (h2 u) hp hF hB
  exact ⟨⟨⟨r, u, ho, hk, h3⟩, h4⟩, L, hE, fun q hq => sub_A hC (hL q hq)⟩
theorem met_frV {S : Type} {K : S → Prop} {w1 w2 : S → va_W} (isC isR is2 : List Nat) (hC : isC.map (fun i => we[i]?) = wc.map some) (hnC : va_nd isC = true) (hR : isR.map (fun i => we[i]?) = wr.map some) (hn : va_nd isR = true) (hdis : ∀ i ∈ isR, i ∉ isC) (hn2 : va_nd is2 = true) (h2 : ∀ u, is2.map (fun i => (wr ++ w1 u)[i]?) = (w2 u).map some) {sz : Nat}
    (h : Met l yn ws rm (va_Pc av (CtPre D y wc sz)) (va_Qv K (fun u t => CtPost D (w1 u) (va_A wc sz) () t) (va_A wc sz)) mc ms (va_A wc sz)) : Met l yn ws rm (va_Pc av (CtPre D y (we ++ tl) sz)) (va_Qv K (fun u t => CtPost D (w2 u ++ tl) (va_A (we ++ tl) sz) () t) (va_A (we ++ tl) sz)) mc ms (va_A (we ++ tl) sz) := by
  refine MetFree.mono h (pre_fr isC hC hnC) (fun _ _ _ _ _ h => h) ?_
  intro a s o t hp hq
  obtain ⟨⟨⟨u, ho, hk, hB⟩, hF⟩, L, hE, hL⟩ := hq
  obtain ⟨h3, h4⟩ := post_fr isC isR is2 hC hR hn hdis hn2 (h2 u) hp hF hB
  exact ⟨⟨⟨u, ho, hk, h3⟩, h4⟩, L, hE, fun q hq => sub_A hC (hL q hq)⟩
theorem A_perm {a b : va_W} (hp : a.Perm b) {sz q : Nat} (h : va_A a sz q) : va_A b sz q := by
  rcases h with ⟨k, e9, hk⟩ | h
  · obtain ⟨i, hi⟩ := List.getElem?_of_mem (hp.mem_iff.mp (List.mem_of_getElem? hk))
    exact Or.inl ⟨i, e9, hi⟩
  · exact Or.inr h
/-- the same world in another order -/
theorem met_pmV {S : Type} {K K' : S → Prop} {S' : Type} {K2 : S' → Prop} {w W0 : va_W} {w1 : S → va_W} {W1 : S' → va_W} (hp : W0.Perm w) (g : S → S') (hg : ∀ u, K u → K2 (g u) ∧ (w1 u).Perm (W1 (g u))) {sz : Nat}
    (h : Met l yn ws rm (va_Pc av (CtPre D y w sz)) (va_Qv K (fun u t => CtPost D (w1 u) (va_A w sz) () t) (va_A w sz)) mc ms (va_A w sz)) : Met l yn ws rm (va_Pc av (CtPre D y W0 sz)) (va_Qv K2 (fun u t => CtPost D (W1 u) (va_A W0 sz) () t) (va_A W0 sz)) mc ms (va_A W0 sz) := by
  refine MetFree.mono h ?_ (fun _ _ _ _ _ h => h) ?_
  · intro a s ⟨h1, h2, h3, h4, h5⟩
    exact ⟨h1, h2, P_perm hp h3, h4, D_perm hp h5⟩
  · intro a s o t _ hq
    obtain ⟨⟨⟨u, ho, hk, hB⟩, hF⟩, L, hE, hL⟩ := hq
    obtain ⟨hk2, hpp⟩ := hg u hk
    exact ⟨⟨⟨g u, ho, hk2, P_perm hpp hB.1, D_perm hpp (hB.2.weaken fun _ q _ hz => A_perm hp.symm hz)⟩, hF.1, fun q hq hA => hF.2 q hq fun hz => hA (A_perm hp.symm hz)⟩, L, hE, fun q hq => A_perm hp.symm (hL q hq)⟩
end MetFr
