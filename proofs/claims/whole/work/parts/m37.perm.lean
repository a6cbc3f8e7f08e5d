/-! ===== worlds in another order, and behind one another ===== -/
theorem map_get_range {α : Type} (a : List α) : (List.range a.length).map (fun i => a[i]?) = a.map some := by
  refine List.ext_getElem? fun i => ?_
  rw [List.getElem?_map, List.getElem?_map]
  by_cases h : i < a.length
  · rw [List.getElem?_range h, List.getElem?_eq_getElem h]
    show some a[i]? = some (some a[i])
    rw [List.getElem?_eq_getElem h]
  · rw [List.getElem?_eq_none (by rw [List.length_range]; omega), List.getElem?_eq_none (by omega)]
    rfl
/-- a list by its places: the other list is the same in another order -/
theorem perm_places {α : Type} {a b : List α} (is : List Nat) (h : is.map (fun i => a[i]?) = b.map some) (n : Nat) (hl : a.length = n) (hp : is.Perm (List.range n)) : a.Perm b := by
  subst hl
  have h1 : (is.map (fun i => a[i]?)).Perm (a.map some) := by
    rw [← map_get_range a]
    exact hp.map _
  rw [h] at h1
  have h2 := h1.filterMap (fun x => x)
  have e : ∀ l : List α, (l.map some).filterMap (fun x => x) = l := fun l => by
    induction l with
    | nil => rfl
    | cons x t ih => rw [List.map_cons, List.filterMap_cons, ih]
  rw [e, e] at h2
  exact h2.symm
theorem shuffle {α : Type} {E a b c : List α} (h t : List α) (hp : E.Perm ((a ++ b) ++ c)) : (E ++ (h ++ t)).Perm ((a ++ (b ++ h)) ++ (c ++ t)) := by
  refine (List.Perm.append_right _ hp).trans ?_
  have h1 : ((a ++ b) ++ c) ++ (h ++ t) = ((a ++ b) ++ (c ++ h)) ++ t := by simp only [List.append_assoc]
  have h2 : (a ++ (b ++ h)) ++ (c ++ t) = ((a ++ b) ++ (h ++ c)) ++ t := by simp only [List.append_assoc]
  rw [h1, h2]
  exact List.Perm.append_right _ (List.Perm.append_left _ List.perm_append_comm)
section MetFx
variable {D : va_G} {y : Nat → ClassId} {l : Launch} {yn : MethodName} {ws : List Cond} {rm : Room} {av : List Value} {mc ms : Nat}
theorem post_fx {w fr w1 : va_W} {sz : Nat} {a : Array Value} {s t : State} (h : va_Pc av (CtPre D y (w ++ fr) sz) a s) (hF : va_F (va_A w sz) s t) (hB : CtPost D w1 (va_A w sz) () t) : CtPost D (w1 ++ fr) (va_A (w ++ fr) sz) () t ∧ va_F (va_A (w ++ fr) sz) s t := by
  obtain ⟨-, hsz, hP, -, hD⟩ := h
  subst hsz
  obtain ⟨hPe, hPt⟩ := P_split hP
  obtain ⟨hDe, hDt, hx⟩ := D_split hD
  have hsub : ∀ q, va_A w s.heap.size q → va_A (w ++ fr) s.heap.size q := by
    intro q h
    rcases h with ⟨k, e9, hk⟩ | h
    · obtain ⟨i, hi⟩ := List.getElem?_of_mem (List.mem_append_left fr (List.mem_of_getElem? hk))
      exact Or.inl ⟨i, e9, hi⟩
    · exact Or.inr h
  have hlt : ∀ q ∈ fr, q.1 < s.heap.size := fun q hq => by
    obtain ⟨i, hi⟩ := List.getElem?_of_mem hq
    exact (hPt i q hi).lt
  have apart : ∀ q ∈ fr, ∀ a : Nat, va_A w s.heap.size a → a ≠ q.1 := by
    intro q hq a ha
    rcases ha with ⟨k, e9, hk⟩ | ha
    · exact hx (a, e9) (List.mem_of_getElem? hk) q hq
    · have := hlt q hq
      omega
  have hfr : va_D (va_A (w ++ fr) s.heap.size) fr := (D_split hD.self).2.1
  refine ⟨⟨va_P.app hB.1 (hPt.kept fun k q hk => hF.2 q.1 (hlt q (List.mem_of_getElem? hk)) fun ha => apart q (List.mem_of_getElem? hk) q.1 ha rfl), D_glue (hB.2.weaken fun _ q _ ha => hsub q.1 ha) hfr fun p9 hp9 q hq => ?_⟩, hF.1, fun q hq hA => hF.2 q hq fun hz => hA (hsub q hz)⟩
  obtain ⟨i, hi⟩ := List.getElem?_of_mem hp9
  exact apart q hq p9.1 (hB.2.2 i p9 hi)
theorem pre_fx {w fr : va_W} {sz : Nat} (a : Array Value) (s : State) (h : va_Pc av (CtPre D y (w ++ fr) sz) a s) : va_Pc av (CtPre D y w sz) a s := by
  obtain ⟨h1, h2, h3, h4, h5⟩ := h
  exact ⟨h1, h2, (P_split h3).1, h4, (D_split h5).1⟩
/-- more cells behind, and the whole in another order: int -/
theorem met_fpI {S S' : Type} {K : Int32 → S → Prop} {K2 : Int32 → S' → Prop} {w fr W0 : va_W} {w1 : S → va_W} {W1 : S' → va_W} (hp : W0.Perm (w ++ fr)) (hg : ∀ r u, K r u → ∃ u', K2 r u' ∧ (w1 u ++ fr).Perm (W1 u')) {sz : Nat}
    (h : Met l yn ws rm (va_Pc av (CtPre D y w sz)) (va_Qi K (fun u t => CtPost D (w1 u) (va_A w sz) () t) (va_A w sz)) mc ms (va_A w sz)) : Met l yn ws rm (va_Pc av (CtPre D y W0 sz)) (va_Qi K2 (fun u t => CtPost D (W1 u) (va_A W0 sz) () t) (va_A W0 sz)) mc ms (va_A W0 sz) := by
  have hpre : ∀ a s, va_Pc av (CtPre D y W0 sz) a s → va_Pc av (CtPre D y (w ++ fr) sz) a s := by
    intro a s ⟨h1, h2, h3, h4, h5⟩
    exact ⟨h1, h2, P_perm hp h3, h4, D_perm hp h5⟩
  refine MetFree.mono h (fun a s h9 => pre_fx a s (hpre a s h9)) (fun _ _ _ _ _ h => h) ?_
  intro a s o t hP hq
  obtain ⟨⟨⟨r, u, ho, hk, hB⟩, hF⟩, L, hE, hL⟩ := hq
  obtain ⟨hB2, hF2⟩ := post_fx (hpre a s hP) hF hB
  obtain ⟨u', hk2, hpp⟩ := hg r u hk
  refine ⟨⟨⟨r, u', ho, hk2, P_perm hpp hB2.1, D_perm hpp (hB2.2.weaken fun _ q _ hz => A_perm hp.symm hz)⟩, hF2.1, fun q hq hA => hF2.2 q hq fun hz => hA (A_perm hp.symm hz)⟩, L, hE, fun q hq => A_perm hp.symm ?_⟩
  rcases hL q hq with ⟨k, e9, hk9⟩ | h9
  · obtain ⟨i, hi⟩ := List.getElem?_of_mem (List.mem_append_left fr (List.mem_of_getElem? hk9))
    exact Or.inl ⟨i, e9, hi⟩
  · exact Or.inr h9
end MetFx
