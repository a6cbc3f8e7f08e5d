/-! ===== the law: a call of either side ===== -/
theorem lg_self (x : Int64) : lg_cmp x x = 0 := by
  unfold lg_cmp
  rw [if_neg (show ¬ x > x from fun h => by rw [gt_iff_lt, Int64.lt_iff_toInt_lt] at h; omega), if_pos rfl]
theorem INVW.rcv {y : Nat → ClassId} {P h : Nat → Nat} {W : va_W} {Φ : Nat} (q : INVW y P h W Φ) : ∃ fs, ((P 0, .inr (9, fs)) : Nat × va_E) ∈ W := by
  refine q.elim ?_
  intro hN hI xcN xcI vN vI rows rowsI e_opened e_history_first e_history_held e_history_kept e_imageHistory_first e_imageHistory_held e_imageHistory_kept e_tape_held e_tape_words e_measure_places e_measure_values e_measure_partCount e_measure_base e_measure_step e_measure_bestForm e_measure_bestWidth e_measure_bestOver e_measure_bestBits e_measure_bestBase e_measure_bestStep e_measure_given e_measure_parts e_measure_lengths e_scribe_at e_scribe_words e_opener_kind e_opener_where e_opener_at e_opener_start e_opener_places e_opener_mask e_opener_values e_opener_form e_opener_width e_opener_exceptions e_opener_base e_opener_baseAt e_opener_step e_opener_partCount e_opener_parts e_cutter_blocks e_cutter_fewest e_cutter_sizes e_cutter_planned_held e_cutter_planned_told e_cutter_cost e_cutter_rest e_spare_blocks e_spare_row_held e_spare_row_told e_spare_facts x_valued x_wide x_parted x_step x_bestForm x_bestWidth x_bestTotal x_bestStep x_cutMany x_cutBits x_written x_taped x_pos x_readPlaces x_fault x_faultPlace x_readWide x_readValued x_readForm x_readWidth x_readExceptions x_readBase x_readStep x_baseAt x_a x_image x_vals x_parts x_aside x_merged x_gaps x_costs x_fewest x_cut x_words x_tape x_read x_bases hW hV
  subst hW
  exact ⟨_, List.mem_append_left _ (List.mem_append_left _ List.mem_cons_self)⟩
section LawCall
variable {D : va_G} {y : Nat → ClassId} {p : Program} {l : Launch} {e : Env} {R : Room} {s : State} {m : MethodId} {args : Array Value} {below : List Frame} {meth : Method} {c : Code} {H : Heap} {locs : List Loc} {cells slots : Nat} {Q : State → Prop} {A : Nat → Prop} {own : String} {cc : ByteArray} {cd : Cond} {ret : Option FieldType} {nL pc : Nat} {ls : Array Slot} {rest st0 : List Value} {W0 : va_W} {yn : MethodName} {bytes : ByteArray} {mL index n a ci N fr lo mc ms : Nat} {T : u_T} {rt : Option FieldType} {As : List Value} {M : va_W → Prop}
theorem lw_cI {rr : Int32} (C : Cx D y p s m args meth c A own cc cd ret nL) (hw : St D A s H locs W0) (hM : KMI l D y yn bytes mL rt fr lo (.ref a :: As) W0 rr M mc ms) (hmem : ∃ fs, ((a, .inr (ci, fs)) : Nat × va_E) ∈ W0)
    (hc : vwCl[ci]? = some (yn.cls, T, N)) (hl : Cond.methodLink own index yn ∈ tbG) (hi : Cond.instanceMethod yn ∈ tbG) (hs : Cond.selects yn.cls yn yn ∈ tbG) (hini : Cond.initialized yn.cls ∈ tbG) (hcd : Cond.code yn bytes mL rt ∈ tbG) (hk : okY yn n) (hR : fr + 1 ≤ R.frames ∧ 8 + (mL + 11) + lo ≤ R.locals) (hn : As.length = n) (hsz : ls.size = nL) (hst : st0 = As.reverse ++ .ref a :: rest) (hro : (rest.map fun v => v.category).sum ≤ 8) (hdg : decode cc pc = .ok (.invokevirtual index, 3)) (hf : cells + mc ≤ R.cells ∧ slots + ms ≤ R.slots)
    (kk : ∀ (W1 : va_W) (H1 : Heap) (locs1 : List Loc), M W1 → St D A s H1 locs1 W1 → W p l e R s m args below meth c H1 locs1 (cells + mc) (slots + ms) Q (F0 m (pc + 3) ls (.int rr :: rest))) : W p l e R s m args below meth c H locs cells slots Q (F0 m pc ls st0) := by
  obtain ⟨fs, hfs⟩ := hmem
  obtain ⟨q0, hq0⟩ := List.getElem?_of_mem hfs
  have hw' : St D A s H locs (W0 ++ []) := by rw [List.append_nil]; exact hw
  have hF := free_P C hw'
  have hrun := q_runP (e := e) (p := p) (below := below) (cells := cells) (slots := slots) (rest := rest) (st0 := st0) (ls := ls) (pc := pc) (R := R) (wc := W0) (tl := []) C hw' (hM H.size) hq0 hc hl hi hs hini hcd hk ⟨rfl, rfl⟩ hR hn hsz hst hro hdg hf
  refine va_calli hrun hw.2.2 (fun q _ h => hF q h) hF (fun r' u t H1 locs1 ht hvm hp hB hz1 hk1 hS => ?_)
  obtain ⟨hp, hu⟩ := hp
  subst hp
  obtain ⟨hP1, hD1⟩ := hB
  rw [ht] at hP1
  exact kk u H1 locs1 hu ⟨hP1, hD1.weaken fun _ q _ ha => hF q.1 ha, hS⟩
theorem lw_cL {rr : Int64} (C : Cx D y p s m args meth c A own cc cd ret nL) (hw : St D A s H locs W0) (hM : KML l D y yn bytes mL rt fr lo (.ref a :: As) W0 rr M mc ms) (hmem : ∃ fs, ((a, .inr (ci, fs)) : Nat × va_E) ∈ W0)
    (hc : vwCl[ci]? = some (yn.cls, T, N)) (hl : Cond.methodLink own index yn ∈ tbG) (hi : Cond.instanceMethod yn ∈ tbG) (hs : Cond.selects yn.cls yn yn ∈ tbG) (hini : Cond.initialized yn.cls ∈ tbG) (hcd : Cond.code yn bytes mL rt ∈ tbG) (hk : okY yn n) (hR : fr + 1 ≤ R.frames ∧ 8 + (mL + 11) + lo ≤ R.locals) (hn : As.length = n) (hsz : ls.size = nL) (hst : st0 = As.reverse ++ .ref a :: rest) (hro : (rest.map fun v => v.category).sum ≤ 8) (hdg : decode cc pc = .ok (.invokevirtual index, 3)) (hf : cells + mc ≤ R.cells ∧ slots + ms ≤ R.slots)
    (kk : ∀ (W1 : va_W) (H1 : Heap) (locs1 : List Loc), M W1 → St D A s H1 locs1 W1 → W p l e R s m args below meth c H1 locs1 (cells + mc) (slots + ms) Q (F0 m (pc + 3) ls (.long rr :: rest))) : W p l e R s m args below meth c H locs cells slots Q (F0 m pc ls st0) := by
  obtain ⟨fs, hfs⟩ := hmem
  obtain ⟨q0, hq0⟩ := List.getElem?_of_mem hfs
  have hw' : St D A s H locs (W0 ++ []) := by rw [List.append_nil]; exact hw
  have hF := free_P C hw'
  have hrun := q_runP (e := e) (p := p) (below := below) (cells := cells) (slots := slots) (rest := rest) (st0 := st0) (ls := ls) (pc := pc) (R := R) (wc := W0) (tl := []) C hw' (hM H.size) hq0 hc hl hi hs hini hcd hk ⟨rfl, rfl⟩ hR hn hsz hst hro hdg hf
  refine va_calll hrun hw.2.2 (fun q _ h => hF q h) hF (fun r' u t H1 locs1 ht hvm hp hB hz1 hk1 hS => ?_)
  obtain ⟨hp, hu⟩ := hp
  subst hp
  obtain ⟨hP1, hD1⟩ := hB
  rw [ht] at hP1
  exact kk u H1 locs1 hu ⟨hP1, hD1.weaken fun _ q _ ha => hF q.1 ha, hS⟩
end LawCall
/-- behind a case: on to the next five ints -/
def LK (D : va_G) (y : Nat → ClassId) (P h : Nat → Nat) (p : Program) (l : Launch) (e : Env) (s : State) (m : MethodId) (args : Array Value) (below : List Frame) (meth : Method) (c : Code) (A : Nat → Prop) (Q : State → Prop) (Φ cells slots : Nat) (ls : Array Slot) : Prop := ∀ (W1 : va_W) (Φ' mc ms : Nat) (H1 : Heap) (locs1 : List Loc), INVW y P h W1 Φ' → St D A s H1 locs1 W1 → Φ' ≤ Φ → mc ≤ 16 + 16 * (Φ - Φ') → ms ≤ 1200 + 999 * (Φ - Φ') → W p l e room_1 s m args below meth c H1 locs1 (cells + mc) (slots + ms) Q (F0 m 2338 ls [])
theorem okX9_image : okY yX9_image 0 := ⟨by decide +kernel, by decide +kernel, by decide +kernel⟩
theorem okX9_back : okY yX9_back 0 := ⟨by decide +kernel, by decide +kernel, by decide +kernel⟩
