/-! Soundness, first part: the heap as the pure machine sees it. Own work. -/
/-- where the made cells begin, the addresses of the five arrays that were there, the array classes by tag, the classes, the five arrays' lengths and contents -/
abbrev KP : Type := Nat × (Nat → Nat) × (Nat → ClassId) × va_G × (Nat → Nat) × (Nat → Nat → Int32)
def adr (κ : KP) (x : Nat) : Nat := if x < 6 then κ.2.1 x else κ.1 + (x - 6)
def orf (κ : KP) (x : Nat) : Option Nat := if x = 0 then none else some (adr κ x)
def tr (κ : KP) (v : Value) : Value := match v with
  | .ref x => va_rf (orf κ x)
  | v => v
def okTag (t : Nat) : Bool := Nat.beq t 1 || Nat.beq t 2 || (Nat.ble 4 t && Nat.ble t 6) || (Nat.ble 10 t && Nat.ble t 17)
def fval (κ : KP) (z : ZS) (x ci k : Nat) : Value := if fk ci k = 1 then va_rf (orf κ (zP z x k)) else .int (zI z x k)
def cellOf (κ : KP) (z : ZS) (x : Nat) : va_E :=
  if tg z x = 1 ∨ tg z x = 2 then .inl (κ.2.2.1 (tg z x), ln z x, .inl (zI z x))
  else if tg z x < 10 then .inl (κ.2.2.1 (tg z x), ln z x, .inr (.inr (.inr (.inr (fun i => orf κ (zP z x i))))))
  else .inr (tg z x - 10, (List.range (nf (tg z x - 10))).map (fval κ z x (tg z x - 10)))
def atys (κ : KP) : List (ClassId × FieldType) := [(κ.2.2.1 1, .int), (κ.2.2.1 2, .boolean), (κ.2.2.1 4, .object RC2), (κ.2.2.1 5, .object RC3), (κ.2.2.1 6, .object RC1)]
abbrev AA (κ : KP) : Nat → Prop := fun q => κ.1 ≤ q
/-- the heap H is as z says -/
def Hp (κ : KP) (z : ZS) (H : Heap) : Prop := H.size = κ.1 + (zn z - 6) ∧ 6 ≤ zn z ∧ (∀ x, 6 ≤ x → x < zn z → okTag (tg z x) = true ∧ va_at κ.2.2.2.1 cls (adr κ x, cellOf κ z x) H) ∧ (∀ x, zn z ≤ x → tg z x = 0) ∧ tg z 0 = 0 ∧ (∀ x, 1 ≤ x → x < 6 → tg z x = 3 ∧ ln z x = κ.2.2.2.2.1 x ∧ ∀ j, zI z x j = κ.2.2.2.2.2 x j)
/-- the tables and the statics, at U -/
def Gl (κ : KP) (U : State) : Prop := va_K κ.2.2.2.1 cls (atys κ) U ∧ (∀ w ∈ nestW, va_Nw w U) ∧ va_AO RC2 U ∧ va_AO RC3 U ∧ va_AO RC1 U ∧ κ.1 ≤ U.heap.size ∧ (∀ x, 1 ≤ x → x < 5 → va_Z "ClubStrokes" (snm x) "[I" (.ref (κ.2.1 x)) (AA κ) U U.heap) ∧ (∀ x, 1 ≤ x → x < 6 → va_T .int (κ.2.1 x) (κ.2.2.2.2.1 x) (fun j => .int (κ.2.2.2.2.2 x j)) (AA κ) U U.heap)
theorem nest_mv {s U : State} (hW : s.WarmedH U.vm) : ∀ w ∈ nestW, va_Nw w s → va_Nw w U := by
  intro w hw h
  simp only [nestW, List.mem_cons, List.not_mem_nil, or_false] at hw
  rcases hw with rfl | rfl | rfl | rfl | rfl | rfl | rfl | rfl | rfl <;> first | exact va_Nw.warmM hW h | exact va_Nw.warmF hW h
theorem nest_tab : ∀ w ∈ nestW, w.onTables = true := by
  intro w hw
  simp only [nestW, List.mem_cons, List.not_mem_nil, or_false] at hw
  rcases hw with rfl | rfl | rfl | rfl | rfl | rfl | rfl | rfl | rfl <;> rfl
theorem Gl.mv {κ : KP} {s U : State} (h : Gl κ s) (hW : s.WarmedH U.vm) (hH : ∀ q : Nat, q < s.heap.size → ¬ AA κ q → U.heap[q]? = s.heap[q]?) (hs : κ.1 ≤ U.heap.size) : Gl κ U := by
  obtain ⟨h1, h2, h3, h4, h5, h6, h7, h8⟩ := h
  exact ⟨h1.moved hW.alike, fun w hw => nest_mv hW w hw (h2 w hw), h3.moved hW.alike, h4.moved hW.alike, h5.moved hW.alike, hs, fun x a b => ((h7 x a b).moved hW.alike).kept hH, fun x a b => ((h8 x a b).moved hW.alike).kept hH⟩
theorem Gl.same {κ : KP} {u U : State} (h : Gl κ u) (hv : u.vm = U.vm) (hh : u.heap = U.heap) : Gl κ U := by
  obtain ⟨h1, h2, h3, h4, h5, h6, h7, h8⟩ := h
  have ha : u.vm.Alike U.vm := by rw [hv]; exact Vm.Alike.refl _
  exact ⟨h1.moved ha, fun w hw => va_Nw.same (nest_tab w hw) hv (h2 w hw), h3.moved ha, h4.moved ha, h5.moved ha, by rw [← hh]; exact h6, fun x a b => by rw [← hh]; exact (h7 x a b).moved ha, fun x a b => by rw [← hh]; exact (h8 x a b).moved ha⟩
theorem adr_hi {κ : KP} {x : Nat} (h : 6 ≤ x) : adr κ x = κ.1 + (x - 6) := by unfold adr; rw [if_neg (by omega)]
theorem orf_some {κ : KP} {x : Nat} (h : x ≠ 0) : orf κ x = some (adr κ x) := by unfold orf; rw [if_neg h]
theorem tr_ref {κ : KP} {x : Nat} (h : x ≠ 0) : tr κ (.ref x) = .ref (adr κ x) := by show va_rf (orf κ x) = _; rw [orf_some h]; rfl
theorem tr_null {κ : KP} : tr κ (.ref 0) = .null := rfl
theorem tr_cat (κ : KP) (v : Value) : (tr κ v).category = v.category := by
  cases v <;> try rfl
  rename_i x
  by_cases h : x = 0
  · subst h; rfl
  · rw [tr_ref h]; rfl
theorem Hp.rng {κ : KP} {z : ZS} {H : Heap} (h : Hp κ z H) {x : Nat} (h0 : tg z x ≠ 0) (h3 : tg z x ≠ 3) : 6 ≤ x ∧ x < zn z := by
  obtain ⟨-, -, -, h4, h5, h6⟩ := h
  constructor
  · rcases Nat.lt_or_ge x 6 with q | q
    · rcases Nat.eq_zero_or_pos x with e | e
      · subst e; exact absurd h5 h0
      · exact absurd (h6 x e q).1 h3
    · exact q
  · rcases Nat.lt_or_ge x (zn z) with q | q
    · exact q
    · exact absurd (h4 x q) h0
theorem cellOf_congr {κ : KP} {z z' : ZS} {x : Nat} (h1 : tg z' x = tg z x) (h2 : ln z' x = ln z x) (h3 : zI z' x = zI z x) (h4 : zP z' x = zP z x) : cellOf κ z' x = cellOf κ z x := by
  have hf : ∀ ci, fval κ z' x ci = fval κ z x ci := fun ci => by funext k; unfold fval; rw [h3, h4]
  unfold cellOf
  rw [h1, h2, h3, h4, hf]
theorem Hp.upd {κ : KP} {z z' : ZS} {H H1 : Heap} {x : Nat} (h : Hp κ z H) (hx6 : 6 ≤ x) (e1 : zn z' = zn z) (e2 : tg z' = tg z) (e3 : ln z' = ln z) (eI : ∀ y, y ≠ x → zI z' y = zI z y) (eP : ∀ y, y ≠ x → zP z' y = zP z y) (hsz : H1.size = H.size) (hq : ∀ q, q ≠ adr κ x → H1[q]? = H[q]?) (hat : va_at κ.2.2.2.1 cls (adr κ x, cellOf κ z' x) H1) : Hp κ z' H1 := by
  obtain ⟨h1, h2, h3, h4, h5, h6⟩ := h
  refine ⟨by rw [hsz, h1, e1], by rw [e1]; exact h2, fun y a b => ?_, fun y a => by rw [e2]; exact h4 y (by rw [← e1]; exact a), by rw [e2]; exact h5, fun y a b => ?_⟩
  · rw [e1] at b
    obtain ⟨g1, g2⟩ := h3 y a b
    refine ⟨by rw [e2]; exact g1, ?_⟩
    by_cases hy : y = x
    · subst hy; exact hat
    · rw [cellOf_congr (by rw [e2]) (by rw [e3]) (eI y hy) (eP y hy)]
      refine g2.kept (hq _ ?_)
      show adr κ y ≠ adr κ x
      rw [adr_hi a, adr_hi hx6]
      omega
  · obtain ⟨g1, g2, g3⟩ := h6 y a b
    exact ⟨by rw [e2]; exact g1, by rw [e3]; exact g2, fun j => by rw [eI y (by omega)]; exact g3 j⟩
theorem nw_tg (z : ZS) (t n w : Nat) : tg (nw z t n w) (zn z) = t := by show va_up z.2.2.1 z.1 t z.1 = t; unfold va_up; rw [if_pos rfl]
theorem nw_ln (z : ZS) (t n w : Nat) : ln (nw z t n w) (zn z) = n := by show va_up z.2.2.2.1 z.1 n z.1 = n; unfold va_up; rw [if_pos rfl]
theorem nw_zI (z : ZS) (t n w : Nat) : zI (nw z t n w) (zn z) = fun _ => 0 := by show va_up z.2.2.2.2.1 z.1 _ z.1 = _; unfold va_up; rw [if_pos rfl]
theorem nw_zP (z : ZS) (t n w : Nat) : zP (nw z t n w) (zn z) = fun _ => 0 := by show va_up z.2.2.2.2.2 z.1 _ z.1 = _; unfold va_up; rw [if_pos rfl]
theorem Hp.new {κ : KP} {z : ZS} {H H1 : Heap} {t n w : Nat} (h : Hp κ z H) (hsz : H1.size = H.size + 1) (hq : ∀ q : Nat, q < H.size → H1[q]? = H[q]?) (ht : okTag t = true) (hat : va_at κ.2.2.2.1 cls (H.size, cellOf κ (nw z t n w) (zn z)) H1) : Hp κ (nw z t n w) H1 := by
  obtain ⟨h1, h2, h3, h4, h5, h6⟩ := h
  have en : zn (nw z t n w) = zn z + 1 := rfl
  have old : ∀ y, y ≠ zn z → tg (nw z t n w) y = tg z y ∧ ln (nw z t n w) y = ln z y ∧ zI (nw z t n w) y = zI z y ∧ zP (nw z t n w) y = zP z y := by
    intro y hy
    have hy' : y ≠ z.1 := hy
    refine ⟨?_, ?_, ?_, ?_⟩
    · show va_up _ _ _ y = _; unfold va_up; rw [if_neg hy']; rfl
    · show va_up _ _ _ y = _; unfold va_up; rw [if_neg hy']; rfl
    · show va_up _ _ _ y = _; unfold va_up; rw [if_neg hy']; rfl
    · show va_up _ _ _ y = _; unfold va_up; rw [if_neg hy']; rfl
  have htn : tg (nw z t n w) (zn z) = t := nw_tg z t n w
  refine ⟨by rw [hsz, h1, en]; omega, by rw [en]; omega, fun y a b => ?_, fun y a => ?_, ?_, fun y a b => ?_⟩
  · by_cases hy : y = zn z
    · subst hy
      refine ⟨by rw [htn]; exact ht, ?_⟩
      have : adr κ (zn z) = H.size := by rw [adr_hi a, h1]
      rw [this]; exact hat
    · obtain ⟨o1, o2, o3, o4⟩ := old y hy
      rw [en] at b
      obtain ⟨g1, g2⟩ := h3 y a (by omega)
      refine ⟨by rw [o1]; exact g1, ?_⟩
      rw [cellOf_congr o1 o2 o3 o4]
      exact g2.kept (hq _ g2.lt)
  · rw [en] at a
    rw [(old y (by omega)).1]
    exact h4 y (by omega)
  · rw [(old 0 (by omega)).1]; exact h5
  · obtain ⟨o1, o2, o3, o4⟩ := old y (by omega)
    obtain ⟨g1, g2, g3⟩ := h6 y a b
    exact ⟨by rw [o1]; exact g1, by rw [o2]; exact g2, fun j => by rw [o3]; exact g3 j⟩
theorem vS_new {κ : KP} {H0 H H1 : Heap} {locs : List Loc} (hS : va_S (AA κ) H0 H locs) (hsz : H1.size = H.size + 1) (hq : ∀ q : Nat, q < H.size → H1[q]? = H[q]?) : va_S (AA κ) H0 H1 locs :=
  ⟨by have := hS.1; omega, fun q a b => (hq q (Nat.lt_of_lt_of_le a hS.1)).trans (hS.2.1 q a b), hS.2.2⟩
-- the locals
def LH (κ : KP) (nL : Nat) (lsA : Array Slot) (ls : List Value) : Prop := lsA.size = nL ∧ lv_wf lsA ∧ ls.length = nL ∧ ∀ (i : Nat) (v : Value), lk ls i = v → v ≠ .null → lsA[i]? = some (.val (tr κ v))
def prs (κ : KP) (ls : List Value) (nL : Nat) : List (Nat × Value) := (List.range nL).filterMap (fun j => if lk ls j = .null then none else some (j, tr κ (lk ls j)))
theorem prs_mem {κ : KP} {ls : List Value} {nL : Nat} {q : Nat × Value} : q ∈ prs κ ls nL ↔ q.1 < nL ∧ lk ls q.1 ≠ .null ∧ q.2 = tr κ (lk ls q.1) := by
  unfold prs
  rw [List.mem_filterMap]
  constructor
  · rintro ⟨j, h1, h2⟩
    split at h2
    · cases h2
    · rename_i h3
      cases h2
      exact ⟨List.mem_range.mp h1, h3, rfl⟩
  · rintro ⟨h1, h2, h3⟩
    refine ⟨q.1, List.mem_range.mpr h1, ?_⟩
    rw [if_neg h2, ← h3]
theorem LH.has {κ : KP} {nL : Nat} {lsA : Array Slot} {ls : List Value} (h : LH κ nL lsA ls) : lv_has lsA nL (prs κ ls nL) := by
  refine ⟨h.1, h.2.1, fun q hq => ?_⟩
  obtain ⟨h1, h2, h3⟩ := prs_mem.mp hq
  rw [h3]
  exact h.2.2.2 q.1 _ rfl h2
theorem lk_stl : ∀ (ls : List Value) (i j : Nat) (v : Value), i < ls.length → lk (stl ls i v) j = if j = i then v else lk ls j
  | [], i, j, v, h => by simp at h
  | u :: r, 0, 0, v, _ => rfl
  | u :: r, 0, j + 1, v, _ => by simp [stl, lk]
  | u :: r, i + 1, 0, v, _ => by simp [stl, lk]
  | u :: r, i + 1, j + 1, v, h => by
    have := lk_stl r i j v (by simpa using h)
    simp only [stl, lk, this, Nat.add_right_cancel_iff]
theorem stl_len : ∀ (ls : List Value) (i : Nat) (v : Value), (stl ls i v).length = ls.length
  | [], _, _ => rfl
  | _ :: _, 0, _ => rfl
  | _ :: r, i + 1, v => by simp [stl, stl_len r i v]
theorem lk_ge : ∀ (ls : List Value) (j : Nat), ls.length ≤ j → lk ls j = .null
  | [], _, _ => rfl
  | _ :: _, 0, h => by simp at h
  | _ :: r, j + 1, h => lk_ge r j (by simpa using h)
theorem LH.of_has {κ : KP} {nL i : Nat} {lsA ls' : Array Slot} {ls : List Value} {v : Value} (h0 : LH κ nL lsA ls) (hi : i < nL) (hp : (pv ls i).category = 1) (h : lv_has ls' nL ((i, tr κ v) :: (prs κ ls nL).filter (fun q => !(q.1 == i) && !(q.1 + 1 == i && q.2.category == 2)))) : LH κ nL ls' (stl ls i v) := by
  refine ⟨h.1, h.2.1, by rw [stl_len]; exact h0.2.2.1, fun j w hj hw => ?_⟩
  rw [lk_stl ls i j v (by rw [h0.2.2.1]; exact hi)] at hj
  by_cases hji : j = i
  · rw [if_pos hji] at hj
    subst hji; subst hj
    exact h.2.2 _ List.mem_cons_self
  · rw [if_neg hji] at hj
    have hjn : j < nL := by
      rcases Nat.lt_or_ge j nL with q | q
      · exact q
      · exfalso
        apply hw
        rw [← hj]
        exact lk_ge ls j (by rw [h0.2.2.1]; exact q)
    have hm : (j, tr κ w) ∈ prs κ ls nL := prs_mem.mpr ⟨hjn, by show lk ls j ≠ _; rw [hj]; exact hw, by show _ = tr κ (lk ls j); rw [hj]⟩
    refine h.2.2 (j, tr κ w) (List.mem_cons_of_mem _ (List.mem_filter.mpr ⟨hm, ?_⟩))
    simp only [Bool.and_eq_true, Bool.not_eq_true', beq_eq_false_iff_ne, ne_eq, Bool.and_eq_false_iff]
    refine ⟨hji, ?_⟩
    by_cases hjs : j + 1 = i
    · right
      subst hjs
      have : (lk ls j).category = 1 := hp
      rw [tr_cat, ← hj, this]
      decide
    · left; exact hjs
