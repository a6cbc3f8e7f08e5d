/-! ===== History.mirror ===== -/
def hB (ra : Nat) (u : Nat → Nat) : Nat → Nat := fun j => ([ra, u 0, u 3, u 4, u 5, u 6, u 7, u 8, u 9, u 10, u 11, u 12, u 13, u 14, u 1, u 2] : List Nat).getD j 0
def xcB (u9 : Nat → Nat) : Nat → Option Nat := va_up (va_up (va_up (fun _ => none) (0 : Int32).toNatClampNeg (some (u9 3))) (1 : Int32).toNatClampNeg (some (u9 7))) (2 : Int32).toNatClampNeg (some (u9 11))
theorem hx_B (ra : Nat) (u : Nat → Nat) : HX (hB ra u) (xcB u) := ⟨rfl, rfl, rfl⟩
def nulls (N : Nat) (rows : Nat → Option RD) : Nat := (List.range N).countP (fun k => (rows k).isNone)
theorem cnt_up (p q : Nat → Bool) (k : Nat) (hp : p k = true) (hq : q k = false) (ho : ∀ j, j ≠ k → q j = p j) : ∀ l : List Nat, l.Nodup → k ∈ l → l.countP p = l.countP q + 1
  | [], _, hk => absurd hk List.not_mem_nil
  | a :: t, hn, hk => by
    have hn2 := List.nodup_cons.mp hn
    by_cases ha : a = k
    · subst ha
      rw [List.countP_cons_of_pos hp, List.countP_cons_of_neg (by rw [hq]; decide)]
      congr 1
      refine List.countP_congr fun j hj => ?_
      rw [ho j (fun h : j = a => hn2.1 (h ▸ hj))]
    · have hkt : k ∈ t := by
        rcases List.mem_cons.mp hk with h | h
        · exact absurd h.symm ha
        · exact h
      have ih := cnt_up p q k hp hq ho t hn2.2 hkt
      cases hpa : p a with
      | true => rw [List.countP_cons_of_pos hpa, List.countP_cons_of_pos (by rw [ho a ha]; exact hpa), ih]
      | false => rw [List.countP_cons_of_neg (by rw [hpa]; decide), List.countP_cons_of_neg (by rw [ho a ha, hpa]; decide), ih]
theorem nulls_up {N : Nat} {rows : Nat → Option RD} {k : Nat} (hk : k < N) (h : rows k = none) (r : RD) : nulls N rows = nulls N (upR rows k (some r)) + 1 := by
  refine cnt_up _ _ k (by rw [h]; rfl) ?_ (fun j hj => ?_) (List.range N) List.nodup_range (List.mem_range.mpr hk)
  · show (upR rows k (some r) k).isNone = false
    unfold upR; rw [if_pos rfl]; rfl
  · show (upR rows k (some r) j).isNone = (rows j).isNone
    unfold upR; rw [if_neg hj]
theorem nulls_same {N : Nat} {rows : Nat → Option RD} {k : Nat} {r0 : RD} (h : rows k = some r0) (r : RD) : nulls N (upR rows k (some r)) = nulls N rows := by
  refine List.countP_congr fun j _ => ?_
  show (upR rows k (some r) j).isNone = true ↔ (rows j).isNone = true
  unfold upR
  by_cases hj : j = k
  · rw [if_pos hj, hj, h]; rfl
  · rw [if_neg hj]
section RT
variable {D : va_G} {y : Nat → ClassId} {p : Program} {l : Launch} {e : Env} {R : Room} {s : State} {m : MethodId} {args : Array Value} {below : List Frame} {meth : Method} {c : Code} {H : Heap} {locs : List Loc} {cells slots : Nat} {Q : State → Prop} {A : Nat → Prop} {own : String} {cc : ByteArray} {cd : Cond} {ret : Option FieldType} {nL pc : Nat} {ls : Array Slot} {rest st0 : List Value} {we wr wc tl : va_W}
theorem q_aftRT {w1 w2 : Nat → (Nat → Nat) → va_W} {mc ms : Nat} {a9 : Array Value} (C : Cx D y p s m args meth c A own cc cd ret nL) (hw : St D A s H locs (we ++ tl)) (isC isR is2 : List Nat) (hC : isC.map (fun i => we[i]?) = wc.map some) (hR : isR.map (fun i => we[i]?) = wr.map some) (hn : va_nd isR = true) (hdis : ∀ i ∈ isR, i ∉ isC) (hn2 : va_nd is2 = true) (h2 : ∀ ra u, is2.map (fun i => (wr ++ w1 ra u)[i]?) = (w2 ra u).map some)
    (hr : va_Run p l e R s m args below meth c H locs cells slots mc ms (F0 m pc ls st0) rest (va_Qr (fun (_ : Nat → Nat) => True) (fun u ra t => CtPost D (w1 ra u) (va_A wc H.size) () t) (va_A wc H.size) a9) (va_A wc H.size))
    (kk : ∀ (ra : Nat) (u : Nat → Nat) (H1 : Heap) (locs1 : List Loc), St D A s H1 locs1 (w2 ra u ++ tl) → W p l e R s m args below meth c H1 locs1 (cells + mc) (slots + ms) Q (F0 m (pc + 3) ls (.ref ra :: rest))) : W p l e R s m args below meth c H locs cells slots Q (F0 m pc ls st0) := by
  have hF := va_free (wc := wc) hw.pre.2.1 hw.2.2 C.a isC hC
  refine va_callr hr hw.2.2 (fun q _ h => hF q h) hF (fun u ra t H1 locs1 ht hvm hp hB hz1 hk1 hS => ?_)
  exact kk ra u H1 locs1 (st_backT C hw isC isR is2 hC hR hn hdis hn2 (h2 ra u) ht hB hk1 hS)
end RT
/-- the two histories' own cells -/
abbrev h4 (y : Nat → ClassId) (a ak b bk : Nat) (f hh g j : Int32) (xk xl : Nat → Option Nat) : va_W := [(a, .inr (2, [.ref ak, .int f, .int hh])), (ak, .inl (y 4, 20, .inr (.inr (.inr (.inr xk))))), (b, .inr (2, [.ref bk, .int g, .int j])), (bk, .inl (y 4, 20, .inr (.inr (.inr (.inr xl)))))]
def okRows (rows : Nat → Option RD) (xk : Nat → Option Nat) : Prop := (∀ k, k < 20 → xk k = (rows k).map (fun r => r.1 0)) ∧ ∀ k r, rows k = some r → HX r.1 r.2.1
theorem okRows.up {rows : Nat → Option RD} {xk : Nat → Option Nat} (h : okRows rows xk) {k : Nat} {r r2 : RD} (hr : rows k = some r) (ha : r2.1 = r.1) (hx : r2.2.1 = r.2.1) : okRows (upR rows k (some r2)) xk := by
  refine ⟨fun j hj => ?_, fun j r3 h3 => ?_⟩
  · rw [h.1 j hj]
    unfold upR
    by_cases he : j = k
    · rw [if_pos he, he, hr]
      show some (r.1 0) = some (r2.1 0)
      rw [ha]
    · rw [if_neg he]
  · unfold upR at h3
    by_cases he : j = k
    · rw [if_pos he] at h3
      obtain rfl := Option.some.inj h3
      rw [ha, hx]
      exact h.2 k r hr
    · rw [if_neg he] at h3
      exact h.2 j r3 h3
theorem okRows.new {rows : Nat → Option RD} {xk : Nat → Option Nat} (h : okRows rows xk) {k : Nat} {r2 : RD} (hx : HX r2.1 r2.2.1) : okRows (upR rows k (some r2)) (va_up xk k (some (r2.1 0))) := by
  refine ⟨fun j hj => ?_, fun j r3 h3 => ?_⟩
  · unfold upR va_up
    by_cases he : j = k
    · rw [if_pos he, if_pos he]; rfl
    · rw [if_neg he, if_neg he]; exact h.1 j hj
  · unfold upR at h3
    by_cases he : j = k
    · rw [if_pos he] at h3
      obtain rfl := Option.some.inj h3
      exact hx
    · rw [if_neg he] at h3
      exact h.2 j r3 h3
/-- what is wanted of the two histories -/
def mirOk (n : Nat) (g : Int32) (rows rowsO : Nat → Option RD) (slo : Nat → Nat) (new : Nat → SV) : Prop :=
  n ≤ 20 ∧ (∀ i, i < n → pJ9_floorMod_7cf53 (0 + nI i) 20 = some (nI i)) ∧ ∀ i, i < n → pJ9_floorMod_7cf53 (g + nI i) 20 = some (nI (slo i)) ∧ slo i < 20 ∧ ∃ r, rowsO (slo i) = some r ∧ mirV (match rows i with | none => SV0 | some r => r.2.2) r.2.2 = some (new i)
def mirInv (n i : Nat) (rows rowsC : Nat → Option RD) (xkC : Nat → Option Nat) (new : Nat → SV) : Prop :=
  okRows rowsC xkC ∧ (∀ j, j < i → ∃ r, rowsC j = some r ∧ r.2.2 = new j) ∧ (∀ j, i ≤ j → rowsC j = rows j) ∧ nulls n rowsC ≤ nulls n rows
abbrev QM2 (D : va_G) (y : Nat → ClassId) (s : State) (A : Nat → Prop) (args : Array Value) (below : List Frame) (a ak b bk n : Nat) (g : Int32) (xl : Nat → Option Nat) (rows rowsO : Nat → Option RD) (new : Nat → SV) : State → Prop := MQ below (va_Qv (fun (u : (Nat → Option RD) × (Nat → Option Nat)) => mirInv n n rows u.1 u.2 new) (fun u t => CtPost D (h4 y a ak b bk 0 (nI n) g (nI n) u.2 xl ++ (hrC y u.1 ++ hrC y rowsO)) A () t) A) args s (16 * nulls n rows) (999 * nulls n rows) A
set_option maxRecDepth 100000 in
set_option maxHeartbeats 4000000 in
theorem wX2_mirror {D : va_G} {y : Nat → ClassId} {p : Program} {l : Launch} {e : Env} {s : State} {m : MethodId} {args : Array Value} {below : List Frame} {meth : Method} {c : Code} {A : Nat → Prop} (a ak b bk n : Nat) (g : Int32) (xl : Nat → Option Nat) (rows rowsO : Nat → Option RD) (slo : Nat → Nat) (new : Nat → SV) (hok : mirOk n g rows rowsO slo new) (hO : okRows rowsO xl)
    (C : Cx D y p s m args meth c A RX2 cX2_mirror (Cond.code yX2_mirror cX2_mirror 3 none) none 3) : ∀ (d i : Nat) (rowsC : Nat → Option RD) (xkC : Nat → Option Nat) (H : Heap) (locs : List Loc) (ls : Array Slot), i + d = n → mirInv n i rows rowsC xkC new → St D A s H locs (h4 y a ak b bk 0 (nI n) g (nI n) xkC xl ++ (hrC y rowsC ++ hrC y rowsO)) → lv_has ls 3 [(0, .ref a), (1, .ref b), (2, .int (nI i))] →
    W p l e { frames := 5, cells := 16 * nulls n rows, slots := 999 * nulls n rows, locals := 120 } s m args below meth c H locs (16 * (nulls n rows - nulls n rowsC)) (999 * (nulls n rows - nulls n rowsC)) (QM2 D y s A args below a ak b bk n g xl rows rowsO new) (F0 m 15 ls []) := by
  obtain ⟨hn20, hmod, hsl⟩ := hok
  intro d
  induction d with
  | zero =>
    intro i rowsC xkC H locs ls hd hinv hw hl
    obtain rfl : i = n := by omega
    refine lv_iload_n C.x C.b dX2_mirror_15 rfl (lv_at hl 2 rfl) ?_
    refine lv_aload_n C.x C.b dX2_mirror_16 rfl (lv_at hl 0 rfl) ?_
    refine q_get (v := .int (nI i)) (T := TX2) C hw 0 2 rfl rfl rfl inX2 (by decide) kw211 rfl dX2_mirror_17 ?_
    refine lv_icmp_ge (tgt := 42) C.x C.b dX2_mirror_20 (by decide) (fun _ => ?_) (fun c9 => absurd (nI_le (Nat.le_refl i) (by omega)) c9)
    refine W.widen (k := 16 * nulls i rows) (n := 999 * nulls i rows) (by omega) (by omega) ?_
    exact W.vret C.x C.b C.r (fun t ht _ => ⟨⟨(rowsC, xkC), rfl, hinv, by rw [ht]; exact hw.1, hw.2.1⟩, hw.2.2.F ht⟩) hw.2.2.2.2 dX2_mirror_42 C.lk
  | succ d ih =>
    intro i rowsC xkC H locs ls hd hinv hw hl
    obtain ⟨hok, hdone, hrest, hnull⟩ := hinv
    have hi : i < n := by omega
    have hi20 : i < 20 := by omega
    obtain ⟨hq2, hs20, r2, hr2, hmv⟩ := hsl i hi
    have hin : vp_in (nI i) 20 := vp_in_nI hi20 (by omega)
    have hin2 : vp_in (nI (slo i)) 20 := vp_in_nI hs20 (by omega)
    have hcl : (nI i).toNatClampNeg = i := nI_clamp (by omega)
    have hcl2 : (nI (slo i)).toNatClampNeg = slo i := nI_clamp (by omega)
    refine lv_iload_n C.x C.b dX2_mirror_15 rfl (lv_at hl 2 rfl) ?_
    refine lv_aload_n C.x C.b dX2_mirror_16 rfl (lv_at hl 0 rfl) ?_
    refine q_get (v := .int (nI n)) (T := TX2) C hw 0 2 rfl rfl rfl inX2 (by decide) kw211 rfl dX2_mirror_17 ?_
    refine lv_icmp_ge (tgt := 42) C.x C.b dX2_mirror_20 (by decide) (fun c9 => absurd c9 (nI_ge hi (by omega))) (fun _ => ?_)
    refine lv_aload_n C.x C.b dX2_mirror_23 rfl (lv_at hl 0 rfl) ?_
    refine lv_iload_n C.x C.b dX2_mirror_24 rfl (lv_at hl 2 rfl) ?_
    -- what follows the first rowAt, whichever it was
    have key : ∀ (rowsB : Nat → Option RD) (xkB : Nat → Option Nat) (r1 : RD) (H : Heap) (locs : List Loc), okRows rowsB xkB → rowsB i = some r1 → r1.2.2 = (match rows i with | none => SV0 | some r => r.2.2) → (∀ j, j ≠ i → rowsB j = rowsC j) → nulls n rowsB ≤ nulls n rows → St D A s H locs (h4 y a ak b bk 0 (nI n) g (nI n) xkB xl ++ (hrC y rowsB ++ hrC y rowsO)) →
        W p l e { frames := 5, cells := 16 * nulls n rows, slots := 999 * nulls n rows, locals := 120 } s m args below meth c H locs (16 * (nulls n rows - nulls n rowsB)) (999 * (nulls n rows - nulls n rowsB)) (QM2 D y s A args below a ak b bk n g xl rows rowsO new) (F0 m 28 ls [.ref (r1.1 0)]) := by
      intro rowsB xkB r1 H locs hokB hr1 hv1 hoth hnB hw
      refine lv_aload_n C.x C.b dX2_mirror_28 rfl (lv_at hl 1 rfl) ?_
      refine lv_iload_n C.x C.b dX2_mirror_29 rfl (lv_at hl 2 rfl) ?_
      refine q_aftQT (we := h4 y a ak b bk 0 (nI n) g (nI n) xkB xl) (wc := [(b, .inr (2, [.ref bk, .int g, .int (nI n)])), (bk, .inl (y 4, 20, .inr (.inr (.inr (.inr xl)))))]) (wr := [(a, .inr (2, [.ref ak, .int 0, .int (nI n)])), (ak, .inl (y 4, 20, .inr (.inr (.inr (.inr xkB)))))]) (w1 := [(b, .inr (2, [.ref bk, .int g, .int (nI n)])), (bk, .inl (y 4, 20, .inr (.inr (.inr (.inr xl)))))]) (w2 := h4 y a ak b bk 0 (nI n) g (nI n) xkB xl) C hw [2, 3] [0, 1] [0, 1, 2, 3] rfl rfl (by decide) (by decide) (by decide) rfl (q_runV (As := [.int (nI i)]) (rest := [.ref (r1.1 0)]) (q0 := 2) (ci := 2) C hw.pre (tX2_rowAt l D y b bk (r2.1 0) (nI i) g (nI n) xl (nI (slo i)) hq2 hin2 (by rw [hcl2, hO.1 _ hs20, hr2]; rfl) H.size) [2, 3] rfl (by decide) rfl rfl kw477 kw479 kw2 kw117 kw480 okX2_rowAt ⟨rfl, rfl⟩ ⟨Nat.le_of_ble_eq_true rfl, Nat.le_of_ble_eq_true rfl⟩ rfl hl.1 rfl (Nat.le_of_ble_eq_true rfl) dX2_mirror_30 ⟨by show _ ≤ 16 * nulls n rows; omega, by show _ ≤ 999 * nulls n rows; omega⟩) (fun H locs hw => ?_)
      refine W.eq (g2 := F0 m 33 ls [.ref (r2.1 0), .ref (r1.1 0)]) rfl ?_
      -- both rows to the front
      have hp1 : (hrC y rowsB).Perm (stC y r1.1 r1.2.1 r1.2.2 ++ hrC y (upR rowsB i none)) := by
        have h := hrC_out y rowsB hi20
        rw [hr1] at h
        exact h
      have hp2 : (hrC y rowsO).Perm (stC y r2.1 r2.2.1 r2.2.2 ++ hrC y (upR rowsO (slo i) none)) := by
        have h := hrC_out y rowsO hs20
        rw [hr2] at h
        exact h
      have hfront : ∀ (P1 P2 A1 A2 X : va_W), (X ++ ((P1 ++ A1) ++ (P2 ++ A2))).Perm ((P1 ++ P2) ++ (X ++ (A1 ++ A2))) := by
        intro P1 P2 A1 A2 X
        have h1 : ((P1 ++ A1) ++ (P2 ++ A2)).Perm ((P1 ++ P2) ++ (A1 ++ A2)) := by
          rw [List.append_assoc, List.append_assoc]
          refine List.Perm.append_left P1 ?_
          rw [← List.append_assoc, ← List.append_assoc]
          exact List.Perm.append_right A2 List.perm_append_comm
        refine (List.Perm.append_left X h1).trans ?_
        rw [show X ++ ((P1 ++ P2) ++ (A1 ++ A2)) = (X ++ (P1 ++ P2)) ++ (A1 ++ A2) from (List.append_assoc _ _ _).symm, show (P1 ++ P2) ++ (X ++ (A1 ++ A2)) = ((P1 ++ P2) ++ X) ++ (A1 ++ A2) from (List.append_assoc _ _ _).symm]
        exact List.Perm.append_right _ List.perm_append_comm
      have hw := St.perm ((List.Perm.append_left _ (hp1.append hp2)).trans (hfront _ _ _ _ _)) hw
      refine q_mirS (h := r1.1) (h2 := r2.1) (xc := r1.2.1) (xc2 := r2.2.1) (v := r1.2.2) (w := r2.2.2) (v' := new i) C hw hl (hokB.2 i r1 hr1) (hO.2 _ r2 hr2) (by rw [hv1]; exact hmv) kw485 (Nat.le_of_ble_eq_true rfl) (Nat.le_of_ble_eq_true rfl) (Nat.le_of_ble_eq_true rfl) ⟨by show _ ≤ 16 * nulls n rows; omega, by show _ ≤ 999 * nulls n rows; omega⟩ dX2_mirror_33 (fun H locs hw => ?_)
      have hq1 := hrC_in y rowsB hi20 (some (r1.1, r1.2.1, new i))
      have hw := St.perm ((hfront _ _ _ _ _).symm.trans (List.Perm.append_left _ (List.Perm.append hq1 hp2.symm))) hw
      refine lv_iinc (v := nI (i + 1)) (lv' := [(2, .int (nI (i + 1))), (0, .ref a), (1, .ref b)]) C.x C.b dX2_mirror_36 hl (k := 2) rfl (nI_1 i) (by decide) rfl (fun ls hl => ?_)
      refine lv_goto (tgt := 15) C.x C.b dX2_mirror_39 (by decide) ?_
      have hsame : nulls n (upR rowsB i (some (r1.1, r1.2.1, new i))) = nulls n rowsB := nulls_same hr1 _
      have h9 := ih (i + 1) (upR rowsB i (some (r1.1, r1.2.1, new i))) xkB H locs ls (by omega) ⟨hokB.up hr1 rfl rfl, fun j hj => ?_, fun j hj => ?_, by rw [hsame]; exact hnB⟩ hw (lv_sub hl [1, 2, 0] rfl)
      · rw [hsame] at h9
        exact h9
      · by_cases he : j = i
        · exact ⟨(r1.1, r1.2.1, new i), by unfold upR; rw [if_pos he], by rw [he]⟩
        · obtain ⟨r, h1, h2⟩ := hdone j (by omega)
          exact ⟨r, by unfold upR; rw [if_neg he, hoth j he]; exact h1, h2⟩
      · unfold upR
        rw [if_neg (by omega), hoth j (by omega)]
        exact hrest j (by omega)
    have hri : rowsC i = rows i := hrest i (Nat.le_refl i)
    cases hrc : rowsC i with
    | some r1 =>
      refine q_aftQT (we := h4 y a ak b bk 0 (nI n) g (nI n) xkC xl) (wc := [(a, .inr (2, [.ref ak, .int 0, .int (nI n)])), (ak, .inl (y 4, 20, .inr (.inr (.inr (.inr xkC)))))]) (wr := [(b, .inr (2, [.ref bk, .int g, .int (nI n)])), (bk, .inl (y 4, 20, .inr (.inr (.inr (.inr xl)))))]) (w1 := [(a, .inr (2, [.ref ak, .int 0, .int (nI n)])), (ak, .inl (y 4, 20, .inr (.inr (.inr (.inr xkC)))))]) (w2 := h4 y a ak b bk 0 (nI n) g (nI n) xkC xl) C hw [0, 1] [2, 3] [2, 3, 0, 1] rfl rfl (by decide) (by decide) (by decide) rfl (q_runV (As := [.int (nI i)]) (rest := []) (q0 := 0) (ci := 2) C hw.pre (tX2_rowAt l D y a ak (r1.1 0) (nI i) 0 (nI n) xkC (nI i) (hmod i hi) hin (by rw [hcl, hok.1 _ hi20, hrc]; rfl) H.size) [0, 1] rfl (by decide) rfl rfl kw477 kw479 kw2 kw117 kw480 okX2_rowAt ⟨rfl, rfl⟩ ⟨Nat.le_of_ble_eq_true rfl, Nat.le_of_ble_eq_true rfl⟩ rfl hl.1 rfl (Nat.le_of_ble_eq_true rfl) dX2_mirror_25 ⟨by show _ ≤ 16 * nulls n rows; omega, by show _ ≤ 999 * nulls n rows; omega⟩) (fun H locs hw => ?_)
      refine W.eq (g2 := F0 m 28 ls [.ref (r1.1 0)]) rfl ?_
      exact key rowsC xkC r1 H locs hok hrc (by rw [← hri, hrc]) (fun _ _ => rfl) hnull hw
    | none =>
      have hpos := nulls_up hi hrc (hB 0 (fun _ => 0), xcB (fun _ => 0), SV0)
      refine q_aftRT (we := h4 y a ak b bk 0 (nI n) g (nI n) xkC xl) (wc := [(a, .inr (2, [.ref ak, .int 0, .int (nI n)])), (ak, .inl (y 4, 20, .inr (.inr (.inr (.inr xkC)))))]) (wr := [(b, .inr (2, [.ref bk, .int g, .int (nI n)])), (bk, .inl (y 4, 20, .inr (.inr (.inr (.inr xl)))))]) (w1 := fun ra u9 => [(a, .inr (2, [.ref ak, .int 0, .int (nI n)])), (ak, .inl (y 4, 20, .inr (.inr (.inr (.inr (va_up xkC (nI i).toNatClampNeg (some ra))))))), (ra, .inr (7, [.ref (u9 0), .ref (u9 1), .int (647)])), (u9 0, .inl (y 3, 3, .inr (.inr (.inr (.inr ((va_up ((va_up ((va_up (fun _ => none) (0 : Int32).toNatClampNeg (some (u9 3)))) (1 : Int32).toNatClampNeg (some (u9 7)))) (2 : Int32).toNatClampNeg (some (u9 11))))))))), (u9 1, .inr (5, [.ref (u9 2), .int 0])), (u9 2, .inl (y 1, 16, .inr (.inl (fun _ => 0)))), (u9 3, .inr (0, [.ref (u9 4), .ref (u9 6), .int 0])), (u9 4, .inr (5, [.ref (u9 5), .int 0])), (u9 5, .inl (y 1, 128, .inr (.inl (fun _ => 0)))), (u9 6, .inl (y 0, 192, .inl (fun _ => 0))), (u9 7, .inr (0, [.ref (u9 8), .ref (u9 10), .int 0])), (u9 8, .inr (5, [.ref (u9 9), .int 0])), (u9 9, .inl (y 1, 128, .inr (.inl (fun _ => 0)))), (u9 10, .inl (y 0, 192, .inl (fun _ => 0))), (u9 11, .inr (0, [.ref (u9 12), .ref (u9 14), .int 0])), (u9 12, .inr (5, [.ref (u9 13), .int 0])), (u9 13, .inl (y 1, 128, .inr (.inl (fun _ => 0)))), (u9 14, .inl (y 0, 192, .inl (fun _ => 0)))]) (w2 := fun ra u9 => h4 y a ak b bk 0 (nI n) g (nI n) (va_up xkC (nI i).toNatClampNeg (some ra)) xl ++ stC y (hB ra u9) (xcB u9) SV0) C hw [0, 1] [2, 3] [2, 3, 0, 1, 4, 5, 8, 9, 10, 11, 12, 13, 14, 15, 16, 17, 18, 19, 6, 7] rfl rfl (by decide) (by decide) (by decide) (fun _ _ => rfl) (q_runVm (As := [.int (nI i)]) (rest := []) (q0 := 0) (ci := 2) C hw.pre (tX2_rowAt_B l D y a ak (nI i) 0 (nI n) xkC (nI i) (hmod i hi) hin (by rw [hcl, hok.1 _ hi20, hrc]; rfl) H.size) [0, 1] rfl (by decide) rfl rfl kw477 kw479 kw2 kw117 kw480 okX2_rowAt ⟨rfl, rfl⟩ ⟨Nat.le_of_ble_eq_true rfl, Nat.le_of_ble_eq_true rfl⟩ rfl hl.1 rfl (Nat.le_of_ble_eq_true rfl) dX2_mirror_25 ⟨by show _ ≤ 16 * nulls n rows; omega, by show _ ≤ 999 * nulls n rows; omega⟩) (fun ra u9 H locs hw => ?_)
      rw [hcl] at hw
      have hN := nulls_up hi hrc (hB ra u9, xcB u9, SV0)
      have hout := hrC_out y rowsC hi20
      rw [hrc] at hout
      have hq1 := hrC_in y rowsC hi20 (some (hB ra u9, xcB u9, SV0))
      have hall : (stC y (hB ra u9) (xcB u9) SV0 ++ hrC y rowsC).Perm (hrC y (upR rowsC i (some (hB ra u9, xcB u9, SV0)))) := (List.Perm.append_left _ hout).trans hq1
      rw [List.append_assoc, ← List.append_assoc (stC y (hB ra u9) (xcB u9) SV0)] at hw
      have hw := St.perm (List.Perm.append_left _ (List.Perm.append_right (hrC y rowsO) hall)) hw
      refine W.widen (k := 16 * (nulls n rows - nulls n (upR rowsC i (some (hB ra u9, xcB u9, SV0))))) (n := 999 * (nulls n rows - nulls n (upR rowsC i (some (hB ra u9, xcB u9, SV0))))) (by omega) (by omega) ?_
      exact key (upR rowsC i (some (hB ra u9, xcB u9, SV0))) (va_up xkC i (some ra)) (hB ra u9, xcB u9, SV0) H locs (hok.new (k := i) (r2 := (hB ra u9, xcB u9, SV0)) (hx_B ra u9)) (by unfold upR; rw [if_pos rfl]) (by rw [← hri, hrc]) (fun j hj => by unfold upR; rw [if_neg hj]) (by omega) hw
set_option maxRecDepth 100000 in
set_option maxHeartbeats 4000000 in
/-- History.mirror: rows are as the other's, in their order; what isn't there yet is made -/
theorem tX2_mirror (l : Launch) (D : va_G) (y : Nat → ClassId) (a ak b bk n : Nat) (f hh g : Int32) (xk xl : Nat → Option Nat) (rows rowsO : Nat → Option RD) (slo : Nat → Nat) (new : Nat → SV) (hok : mirOk n g rows rowsO slo new) (hO : okRows rowsO xl) (hR : okRows rows xk) (sz : Nat) :
    Met l yX2_mirror (Cond.code yX2_mirror cX2_mirror 3 none :: tbG) { frames := 5, cells := 16 * nulls n rows, slots := 999 * nulls n rows, locals := 120 } (va_Pc [.ref a, .ref b] (CtPre D y (h4 y a ak b bk f hh g (nI n) xk xl ++ (hrC y rows ++ hrC y rowsO)) sz)) (va_Qv (fun (u : (Nat → Option RD) × (Nat → Option Nat)) => mirInv n n rows u.1 u.2 new) (fun u t => CtPost D (h4 y a ak b bk 0 (nI n) g (nI n) u.2 xl ++ (hrC y u.1 ++ hrC y rowsO)) (va_A (h4 y a ak b bk f hh g (nI n) xk xl ++ (hrC y rows ++ hrC y rowsO)) sz) () t) (va_A (h4 y a ak b bk f hh g (nI n) xk xl ++ (hrC y rows ++ hrC y rowsO)) sz)) (16 * nulls n rows) (999 * nulls n rows) (va_A (h4 y a ak b bk f hh g (nI n) xk xl ++ (hrC y rows ++ hrC y rowsO)) sz) := by
  refine Met.ofW (cc := cX2_mirror) (maxL := 3) (ret := none) (by decide +kernel) rfl ?_
  intro p e s m args below meth c s₁ B hml hv
  obtain ⟨rfl, hsz, hP, hK, hD⟩ := hv
  subst hsz
  rw [lg_entry_eq]
  have C : Cx D y p s m ([.ref a, .ref b] : List Value).toArray meth c (va_A (h4 y a ak b bk f hh g (nI n) xk xl ++ (hrC y rows ++ hrC y rowsO)) s.heap.size) RX2 cX2_mirror (Cond.code yX2_mirror cX2_mirror 3 none) none 3 := of_cx B hml rfl hK
  have hw : St D (va_A (h4 y a ak b bk f hh g (nI n) xk xl ++ (hrC y rows ++ hrC y rowsO)) s.heap.size) s s.heap [] (h4 y a ak b bk f hh g (nI n) xk xl ++ (hrC y rows ++ hrC y rowsO)) := ⟨hP, hD.self, va_S.rf⟩
  have hl := lv_entry ([.ref a, .ref b]) (n := 3) (Nat.le_of_ble_eq_true rfl)
  generalize (lg_sl ([.ref a, .ref b]) ++ List.replicate (3 - (lg_sl ([.ref a, .ref b])).length) Slot.unset).toArray = ls at hl ⊢
  have hl : lv_has ls 3 [(0, .ref a), (1, .ref b)] := hl
  show W p l e { frames := 5, cells := 16 * nulls n rows, slots := 999 * nulls n rows, locals := 120 } s m _ below meth c _ _ _ _ _ _
  refine lv_aload_n C.x C.b dX2_mirror_0 rfl (lv_at hl 0 rfl) ?_
  refine lv_iconst (v := 0) C.x C.b dX2_mirror_1 (by decide) ?_
  refine q_pf (v := .int 0) (w2 := h4 y a ak b bk 0 hh g (nI n) xk xl ++ (hrC y rows ++ hrC y rowsO)) (T := TX2) (ty0 := tyX2) (ty := .int) C hw 0 1 rfl rfl (Nat.le_of_ble_eq_true rfl) rfl inX2 tyX2_ok nmX2 (by decide) kw210 rfl rfl rfl rfl rfl dX2_mirror_2 (fun H locs hw => ?_)
  refine lv_aload_n C.x C.b dX2_mirror_5 rfl (lv_at hl 0 rfl) ?_
  refine lv_aload_n C.x C.b dX2_mirror_6 rfl (lv_at hl 1 rfl) ?_
  refine q_get (v := .int (nI n)) (T := TX2) C hw 2 2 rfl rfl rfl inX2 (by decide) kw211 rfl dX2_mirror_7 ?_
  refine q_pf (v := .int (nI n)) (w2 := h4 y a ak b bk 0 (nI n) g (nI n) xk xl ++ (hrC y rows ++ hrC y rowsO)) (T := TX2) (ty0 := tyX2) (ty := .int) C hw 0 2 rfl rfl (Nat.le_of_ble_eq_true rfl) rfl inX2 tyX2_ok nmX2 (by decide) kw211 rfl rfl rfl rfl rfl dX2_mirror_10 (fun H locs hw => ?_)
  refine lv_iconst (v := 0) C.x C.b dX2_mirror_13 (by decide) ?_
  refine lv_istore_n (lv' := [(2, .int 0), (0, .ref a), (1, .ref b)]) C.x C.b dX2_mirror_14 rfl hl (by decide) rfl (fun ls hl => ?_)
  refine W.widen (k := 16 * (nulls n rows - nulls n rows)) (n := 999 * (nulls n rows - nulls n rows)) (Nat.zero_le _) (Nat.zero_le _) ?_
  exact wX2_mirror a ak b bk n g xl rows rowsO slo new hok hO C n 0 rows xk H locs ls (by omega) ⟨hR, fun j hj => absurd hj (Nat.not_lt_zero j), fun _ _ => rfl, Nat.le_refl _⟩ hw (lv_sub hl [1, 2, 0] rfl)

