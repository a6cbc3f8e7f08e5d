/-! ===== a State as one value; rows of States ===== -/
def HX (h : Nat → Nat) (xc : Nat → Option Nat) : Prop := xc 0 = some (h 2) ∧ xc 1 = some (h 6) ∧ xc 2 = some (h 10)
abbrev stC (y : Nat → ClassId) (h : Nat → Nat) (xc : Nat → Option Nat) (v : SV) : va_W := [((h 0), .inr (7, [.ref (h 1), .ref (h 14), .int v.1])), ((h 1), .inl (y 3, 3, .inr (.inr (.inr (.inr xc))))), ((h 2), .inr (0, [.ref (h 3), .ref (h 5), .int v.2.2.1.1])), ((h 3), .inr (5, [.ref (h 4), .int v.2.2.1.2.1])), ((h 4), .inl (y 1, 128, .inr (.inl v.2.2.1.2.2.1))), ((h 5), .inl (y 0, 192, .inl v.2.2.1.2.2.2)), ((h 6), .inr (0, [.ref (h 7), .ref (h 9), .int v.2.2.2.1.1])), ((h 7), .inr (5, [.ref (h 8), .int v.2.2.2.1.2.1])), ((h 8), .inl (y 1, 128, .inr (.inl v.2.2.2.1.2.2.1))), ((h 9), .inl (y 0, 192, .inl v.2.2.2.1.2.2.2)), ((h 10), .inr (0, [.ref (h 11), .ref (h 13), .int v.2.2.2.2.1])), ((h 11), .inr (5, [.ref (h 12), .int v.2.2.2.2.2.1])), ((h 12), .inl (y 1, 128, .inr (.inl v.2.2.2.2.2.2.1))), ((h 13), .inl (y 0, 192, .inl v.2.2.2.2.2.2.2)), ((h 14), .inr (5, [.ref (h 15), .int v.2.1.1])), ((h 15), .inl (y 1, 16, .inr (.inl v.2.1.2)))]
theorem mirV_some {v w v' : SV} (h : mirV v w = some v') : ∃ z, pX7_mirror 128 128 128 16 128 128 128 16 v.1 v.2.2.1.1 v.2.2.1.2.1 v.2.2.1.2.2.1 v.2.2.1.2.2.2 v.2.2.2.1.1 v.2.2.2.1.2.1 v.2.2.2.1.2.2.1 v.2.2.2.1.2.2.2 v.2.2.2.2.1 v.2.2.2.2.2.1 v.2.2.2.2.2.2.1 v.2.2.2.2.2.2.2 v.2.1.1 v.2.1.2 w.1 w.2.2.1.1 w.2.2.1.2.1 w.2.2.1.2.2.1 w.2.2.1.2.2.2 w.2.2.2.1.1 w.2.2.2.1.2.1 w.2.2.2.1.2.2.1 w.2.2.2.1.2.2.2 w.2.2.2.2.1 w.2.2.2.2.2.1 w.2.2.2.2.2.2.1 w.2.2.2.2.2.2.2 w.2.1.1 w.2.1.2 = some z ∧ v' = (z.1, (z.2.2.2.2.2.2.2.2.2.2.2.2.2.1, z.2.2.2.2.2.2.2.2.2.2.2.2.2.2), (z.2.1, z.2.2.1, z.2.2.2.1, z.2.2.2.2.1), (z.2.2.2.2.2.1, z.2.2.2.2.2.2.1, z.2.2.2.2.2.2.2.1, z.2.2.2.2.2.2.2.2.1), (z.2.2.2.2.2.2.2.2.2.1, z.2.2.2.2.2.2.2.2.2.2.1, z.2.2.2.2.2.2.2.2.2.2.2.1, z.2.2.2.2.2.2.2.2.2.2.2.2.1)) := by
  unfold mirV at h
  cases hz : pX7_mirror 128 128 128 16 128 128 128 16 v.1 v.2.2.1.1 v.2.2.1.2.1 v.2.2.1.2.2.1 v.2.2.1.2.2.2 v.2.2.2.1.1 v.2.2.2.1.2.1 v.2.2.2.1.2.2.1 v.2.2.2.1.2.2.2 v.2.2.2.2.1 v.2.2.2.2.2.1 v.2.2.2.2.2.2.1 v.2.2.2.2.2.2.2 v.2.1.1 v.2.1.2 w.1 w.2.2.1.1 w.2.2.1.2.1 w.2.2.1.2.2.1 w.2.2.1.2.2.2 w.2.2.2.1.1 w.2.2.2.1.2.1 w.2.2.2.1.2.2.1 w.2.2.2.1.2.2.2 w.2.2.2.2.1 w.2.2.2.2.2.1 w.2.2.2.2.2.2.1 w.2.2.2.2.2.2.2 w.2.1.1 w.2.1.2 with
  | none => rw [hz] at h; cases h
  | some z => rw [hz] at h; exact ⟨z, rfl, (Option.some.inj h).symm⟩
set_option maxRecDepth 100000 in
set_option maxHeartbeats 4000000 in
/-- a State is made as another one -/
theorem q_mirS {D : va_G} {y : Nat → ClassId} {p : Program} {l : Launch} {e : Env} {R : Room} {s : State} {m : MethodId} {args : Array Value} {below : List Frame} {meth : Method} {c : Code} {H : Heap} {locs : List Loc} {cells slots : Nat} {Q : State → Prop} {A : Nat → Prop} {own : String} {cc : ByteArray} {cd : Cond} {ret : Option FieldType} {nL pc index : Nat} {ls : Array Slot} {rest : List Value} {tl : va_W} {h h2 : Nat → Nat} {xc xc2 : Nat → Option Nat} {v w v' : SV} {lvl9 : List (Nat × Value)}
    (C : Cx D y p s m args meth c A own cc cd ret nL) (hw : St D A s H locs ((stC y h xc v ++ stC y h2 xc2 w) ++ tl)) (hl : lv_has ls nL lvl9) (hx : HX h xc) (hx2 : HX h2 xc2) (hm : mirV v w = some v') (hlink : Cond.methodLink own index yX7_mirror ∈ tbG) (hfr : 4 ≤ R.frames) (hlo : 98 ≤ R.locals) (hro : (rest.map fun v => v.category).sum ≤ 8) (hcs : cells ≤ R.cells ∧ slots ≤ R.slots) (hdg : decode cc pc = .ok (.invokevirtual index, 3))
    (kk : ∀ (H1 : Heap) (locs1 : List Loc), St D A s H1 locs1 ((stC y h xc v' ++ stC y h2 xc2 w) ++ tl) → W p l e R s m args below meth c H1 locs1 cells slots Q (F0 m (pc + 3) ls rest)) : W p l e R s m args below meth c H locs cells slots Q (F0 m pc ls (.ref (h2 0) :: .ref (h 0) :: rest)) := by
  obtain ⟨z, hz, rfl⟩ := mirV_some hm
  refine q_aftVT (we := stC y h xc v ++ stC y h2 xc2 w) (wc := stC y h xc v ++ stC y h2 xc2 w) (wr := []) (w1 := stC y h xc (z.1, (z.2.2.2.2.2.2.2.2.2.2.2.2.2.1, z.2.2.2.2.2.2.2.2.2.2.2.2.2.2), (z.2.1, z.2.2.1, z.2.2.2.1, z.2.2.2.2.1), (z.2.2.2.2.2.1, z.2.2.2.2.2.2.1, z.2.2.2.2.2.2.2.1, z.2.2.2.2.2.2.2.2.1), (z.2.2.2.2.2.2.2.2.2.1, z.2.2.2.2.2.2.2.2.2.2.1, z.2.2.2.2.2.2.2.2.2.2.2.1, z.2.2.2.2.2.2.2.2.2.2.2.2.1)) ++ stC y h2 xc2 w) (w2 := stC y h xc (z.1, (z.2.2.2.2.2.2.2.2.2.2.2.2.2.1, z.2.2.2.2.2.2.2.2.2.2.2.2.2.2), (z.2.1, z.2.2.1, z.2.2.2.1, z.2.2.2.2.1), (z.2.2.2.2.2.1, z.2.2.2.2.2.2.1, z.2.2.2.2.2.2.2.1, z.2.2.2.2.2.2.2.2.1), (z.2.2.2.2.2.2.2.2.2.1, z.2.2.2.2.2.2.2.2.2.2.1, z.2.2.2.2.2.2.2.2.2.2.2.1, z.2.2.2.2.2.2.2.2.2.2.2.2.1)) ++ stC y h2 xc2 w) C hw [0, 1, 2, 3, 4, 5, 6, 7, 8, 9, 10, 11, 12, 13, 14, 15, 16, 17, 18, 19, 20, 21, 22, 23, 24, 25, 26, 27, 28, 29, 30, 31] [] [0, 1, 2, 3, 4, 5, 6, 7, 8, 9, 10, 11, 12, 13, 14, 15, 16, 17, 18, 19, 20, 21, 22, 23, 24, 25, 26, 27, 28, 29, 30, 31] rfl rfl (by decide) (by decide) (by decide) rfl (q_runV (As := [.ref (h2 0)]) (rest := rest) (q0 := 0) (ci := 7) C hw.pre (tX7_mirror l D y (h 0) (h2 0) (h 1) (h 14) (h 2) (h 3) (h 5) (h 4) (h 6) (h 7) (h 9) (h 8) (h 10) (h 11) (h 13) (h 12) (h 15) (h2 1) (h2 14) (h2 2) (h2 3) (h2 5) (h2 4) (h2 6) (h2 7) (h2 9) (h2 8) (h2 10) (h2 11) (h2 13) (h2 12) (h2 15) 128 128 128 16 128 128 128 16 (v.1) (xc) (v.2.2.1.1) (v.2.2.1.2.1) (v.2.2.1.2.2.1) (v.2.2.1.2.2.2) (v.2.2.2.1.1) (v.2.2.2.1.2.1) (v.2.2.2.1.2.2.1) (v.2.2.2.1.2.2.2) (v.2.2.2.2.1) (v.2.2.2.2.2.1) (v.2.2.2.2.2.2.1) (v.2.2.2.2.2.2.2) (v.2.1.1) (v.2.1.2) (w.1) (xc2) (w.2.2.1.1) (w.2.2.1.2.1) (w.2.2.1.2.2.1) (w.2.2.1.2.2.2) (w.2.2.2.1.1) (w.2.2.2.1.2.1) (w.2.2.2.1.2.2.1) (w.2.2.2.1.2.2.2) (w.2.2.2.2.1) (w.2.2.2.2.2.1) (w.2.2.2.2.2.2.1) (w.2.2.2.2.2.2.2) (w.2.1.1) (w.2.1.2) hx2.1 hx2.2.1 hx2.2.2 hx.1 hx.2.1 hx.2.2 z hz H.size) [0, 1, 2, 3, 4, 5, 6, 7, 8, 9, 10, 11, 12, 13, 14, 15, 16, 17, 18, 19, 20, 21, 22, 23, 24, 25, 26, 27, 28, 29, 30, 31] rfl (by decide) rfl rfl hlink kw486 kw487 kw114 kw488 okX7_mirror ⟨rfl, rfl⟩ ⟨hfr, hlo⟩ rfl hl.1 rfl hro hdg hcs) kk
def rowW (y : Nat → ClassId) (r : Option RD) : va_W := match r with
  | none => []
  | some r => stC y r.1 r.2.1 r.2.2
def upR (rows : Nat → Option RD) (k : Nat) (r : Option RD) : Nat → Option RD := fun j => if j = k then r else rows j
def hrC (y : Nat → ClassId) (rows : Nat → Option RD) : va_W := (List.range 20).flatMap (fun k => rowW y (rows k))
theorem flat_out {α : Type} (f : Nat → List α) (k : Nat) : ∀ l : List Nat, l.Nodup → k ∈ l → (l.flatMap f).Perm (f k ++ l.flatMap (fun j => if j = k then [] else f j))
  | [], _, hk => absurd hk List.not_mem_nil
  | a :: t, hn, hk => by
    rw [List.flatMap_cons, List.flatMap_cons]
    have hn2 := List.nodup_cons.mp hn
    by_cases ha : a = k
    · subst ha
      rw [if_pos rfl, List.nil_append]
      have he : t.flatMap (fun j => if j = a then [] else f j) = t.flatMap f := by
        rw [List.flatMap_def, List.flatMap_def]
        congr 1
        refine List.map_congr_left fun j hj => ?_
        rw [if_neg (fun h : j = a => hn2.1 (h ▸ hj))]
      rw [he]
    · rw [if_neg ha]
      have hkt : k ∈ t := by
        rcases List.mem_cons.mp hk with h | h
        · exact absurd h.symm ha
        · exact h
      have ih := flat_out f k t hn2.2 hkt
      refine (List.Perm.append_left (f a) ih).trans ?_
      rw [← List.append_assoc, ← List.append_assoc]
      exact List.Perm.append_right _ List.perm_append_comm
theorem hrC_out (y : Nat → ClassId) (rows : Nat → Option RD) {k : Nat} (hk : k < 20) : (hrC y rows).Perm (rowW y (rows k) ++ hrC y (upR rows k none)) := by
  have h := flat_out (fun j => rowW y (rows j)) k (List.range 20) List.nodup_range (List.mem_range.mpr hk)
  refine h.trans ?_
  refine List.Perm.append_left _ (List.Perm.of_eq ?_)
  unfold hrC
  rw [List.flatMap_def, List.flatMap_def]
  congr 1
  refine List.map_congr_left fun j _ => ?_
  unfold upR
  by_cases hj : j = k
  · rw [if_pos hj, if_pos hj]; rfl
  · rw [if_neg hj, if_neg hj]
theorem upR_up (rows : Nat → Option RD) (k : Nat) (r r2 : Option RD) : upR (upR rows k r) k r2 = upR rows k r2 := by
  funext j
  unfold upR
  by_cases hj : j = k
  · rw [if_pos hj, if_pos hj]
  · rw [if_neg hj, if_neg hj, if_neg hj]
theorem hrC_in (y : Nat → ClassId) (rows : Nat → Option RD) {k : Nat} (hk : k < 20) (r : Option RD) : (rowW y r ++ hrC y (upR rows k none)).Perm (hrC y (upR rows k r)) := by
  have h := hrC_out y (upR rows k r) hk
  rw [upR_up] at h
  have he : upR rows k r k = r := by unfold upR; rw [if_pos rfl]
  rw [he] at h
  exact h.symm

