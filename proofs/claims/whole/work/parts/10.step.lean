/-! Soundness, second part: the steps that touch the heap. Own work. -/
section StepRows
variable {κ : KP} {p : Program} {l : Launch} {e : Env} {R : Room} {s : State} {m : MethodId} {args : Array Value} {below : List Frame} {meth : Method} {c : Code} {H : Heap} {locs : List Loc} {cells slots : Nat} {Q : State → Prop}
variable {cc : ByteArray} {pc : Nat} {lsA : Array Slot} {rest : List Value} {z : ZS} {own : String}
theorem cell_obj {κ : KP} {z : ZS} {x a : Nat} (ha : tg z x = a) (h10 : 10 ≤ a) : cellOf κ z x = .inr (a - 10, (List.range (nf (a - 10))).map (fval κ z x (a - 10))) := by
  unfold cellOf
  rw [ha, if_neg (by omega), if_neg (by omega)]
theorem cell_int {κ : KP} {z : ZS} {x a : Nat} (ha : tg z x = a) (h : a = 1 ∨ a = 2) : cellOf κ z x = .inl (κ.2.2.1 a, ln z x, .inl (zI z x)) := by
  unfold cellOf
  rw [ha, if_pos h]
theorem cell_rf {κ : KP} {z : ZS} {x a : Nat} (ha : tg z x = a) (h1 : 4 ≤ a) (h2 : a ≤ 6) : cellOf κ z x = .inl (κ.2.2.1 a, ln z x, .inr (.inr (.inr (.inr (fun i => orf κ (zP z x i)))))) := by
  unfold cellOf
  rw [ha, if_neg (by omega), if_pos (by omega)]
theorem Hp.at1 {κ : KP} {z : ZS} {H : Heap} (h : Hp κ z H) {x a : Nat} (ha : tg z x = a) (h0 : a ≠ 0) (h3 : a ≠ 3) : va_P κ.2.2.2.1 cls [(adr κ x, cellOf κ z x)] H ∧ 6 ≤ x ∧ x < zn z := by
  obtain ⟨r1, r2⟩ := h.rng (by rw [ha]; exact h0) (by rw [ha]; exact h3)
  refine ⟨fun k q hk => ?_, r1, r2⟩
  have hz : k < 1 := (List.getElem?_eq_some_iff.mp hk).1
  rw [show k = 0 by omega] at hk
  cases hk
  exact (h.2.2.1 x r1 r2).2
theorem map_get {α : Type} {N k : Nat} (f : Nat → α) (hk : k < N) : ((List.range N).map f)[k]? = some (f k) := by
  rw [List.getElem?_map, List.getElem?_range hk]; rfl
theorem vpV_map {N k : Nat} (f : Nat → Value) (hk : k < N) : vp_V ((List.range N).map f) k = f k := by
  unfold vp_V
  rw [List.getD_eq_getElem?_getD, map_get f hk]; rfl
theorem r_get (hx : p.tables.exec = Jvm.exec) (hb : c.code = cc) (hown : s.vm.findClass own = some m.cls) (hts : ∀ w ∈ gw, w.before args s = true) (hG : Gl κ s) (hH : Hp κ z H) {x a b k : Nat} {C : String} {T : u_T} {N : Nat} (ha : tg z x = a) (h10 : 10 ≤ a) (hc : cls[a - 10]? = some (C, T, N)) (hb4 : b < N) (hw : Cond.fieldLink own k (T b).1 (T b).2.1 (T b).2.2.1 ∈ gw) (hd : decode cc pc = .ok (.getfield k, 3))
    (kk : W p l e R s m args below meth c H locs cells slots Q (F0 m (pc + 3) lsA (fval κ z x (a - 10) b :: rest))) : W p l e R s m args below meth c H locs cells slots Q (F0 m pc lsA (tr κ (.ref x) :: rest)) := by
  obtain ⟨hP, r1, r2⟩ := hH.at1 ha (by omega) (by omega)
  rw [cell_obj ha h10] at hP
  rw [tr_ref (by omega)]
  obtain ⟨g1, g2, g3, g4⟩ := clOK hc
  exact va_get (D := κ.2.2.2.1) (cl := cls) (ci := a - 10) (C := C) (T := T) (N := N) hx hb hts g1 hown hG.1 hP 0 rfl hc b hb4 (hts _ hw) (fun _ h => h) (by rw [← g4]; exact map_get _ hb4) hd kk
theorem vS_put {κ : KP} {H0 H H1 : Heap} {locs : List Loc} {x k : Nat} (hS : va_S (AA κ) H0 H locs) (h6 : 6 ≤ x) (hsz : H1.size = H.size) (hq : ∀ q, q ≠ adr κ x → H1[q]? = H[q]?) : va_S (AA κ) H0 H1 (locs ++ [⟨adr κ x, k⟩]) := hS.put hsz hq (by show κ.1 ≤ adr κ x; rw [adr_hi h6]; omega)
theorem r_put (hx : p.tables.exec = Jvm.exec) (hb : c.code = cc) (hown : s.vm.findClass own = some m.cls) (hts : ∀ w ∈ gw, w.before args s = true) (hG : Gl κ s) (hH : Hp κ z H) (hS : va_S (AA κ) s.heap H locs) {x a b k : Nat} {C : String} {T : u_T} {N : Nat} (ha : tg z x = a) (h10 : 10 ≤ a) (hc : cls[a - 10]? = some (C, T, N)) (hb4 : b < N) (hw : Cond.fieldLink own k (T b).1 (T b).2.1 (T b).2.2.1 ∈ gw) (hfin : (T b).2.2.2 = true → meth.name = "<init>" ∧ (T b).1 = own)
    {v : Value} (hn : narrow (tC (a - 10) b) v = v) (hfit : fits (tC (a - 10) b) v = true) {z' : ZS} (e1 : zn z' = zn z) (e2 : tg z' = tg z) (e3 : ln z' = ln z) (eI : ∀ y, y ≠ x → zI z' y = zI z y) (eP : ∀ y, y ≠ x → zP z' y = zP z y) (ev : ∀ j, fval κ z' x (a - 10) j = if j = b then v else fval κ z x (a - 10) j) (hd : decode cc pc = .ok (.putfield k, 3))
    (kk : ∀ (H1 : Heap) (locs1 : List Loc), Hp κ z' H1 → va_S (AA κ) s.heap H1 locs1 → W p l e R s m args below meth c H1 locs1 cells slots Q (F0 m (pc + 3) lsA rest)) : W p l e R s m args below meth c H locs cells slots Q (F0 m pc lsA (v :: tr κ (.ref x) :: rest)) := by
  obtain ⟨hP, r1, r2⟩ := hH.at1 ha (by omega) (by omega)
  rw [cell_obj ha h10] at hP
  rw [tr_ref (by omega)]
  obtain ⟨hin, hnm, hty, hN⟩ := clOK hc
  have hK := hG.1
  have hap := va_apart (own := own) hts hin (tC (a - 10)) hty hnm hK hc
  obtain ⟨r, g1, cell, q1, q2, q3, q4⟩ := hP 0 _ rfl
  have hr : r = (C, T, N) := Option.some.inj (g1.symm.trans hc)
  subst hr
  obtain ⟨hSl, hfc, kC, hkC, hkind⟩ := hK.1 (a - 10) _ hc
  obtain ⟨cf, kf, fi, f, hi, hsl⟩ := hSl b hb4
  have hlay := hts _ (hin _ (u_in_lay hb4))
  unfold u_lay at hlay
  have hst := (u_facts hfc hkC (u_lays hts hin hb4) hi).1
  have fin : ∀ H' : Heap, H'[adr κ x]? = some (cell.setSlot f.slot v) → H'.size = H.size → (∀ q, q ≠ adr κ x → H'[q]? = H[q]?) → Hp κ z' H' := by
    intro H' e4 e5 e6
    refine hH.upd r1 e1 e2 e3 eI eP e5 e6 ?_
    rw [cell_obj (by rw [e2]; exact ha) h10]
    rw [hsl] at e4
    refine ⟨_, hc, t_OB.to (V := updV (vp_V ((List.range (nf (a - 10))).map (fval κ z x (a - 10)))) b v) ⟨_, e4, q2, q3, t_set q4 hap hb4 v⟩ (fun j hj => ?_)⟩
    have hj' : j < nf (a - 10) := by rw [← hN]; exact hj
    rw [vpV_map _ hj', ev j]
    unfold updV
    by_cases hjb : j = b
    · rw [if_pos hjb, if_pos hjb]
    · rw [if_neg hjb, if_neg hjb, vpV_map _ hj']
  cases hf : (T b).2.2.2 with
  | false =>
    rw [if_neg (by rw [hf]; decide)] at hlay
    have h6 := u_store hfc hkC hkind hlay hi (hty b hb4) hn hfit
    refine W.putK hx hb (f := f) ⟨hown, hts _ hw, ⟨_, _, _, hi⟩, hst⟩ (by rw [q2]; exact h6) q1 q3 (by rw [hsl]; exact k2_hasslot (q4 b hb4)) rfl rfl hd fun H' e4 e5 e6 => ?_
    exact kk H' _ (fin H' e4 e5 e6) (vS_put hS r1 e5 e6)
  | true =>
    rw [if_pos hf] at hlay
    obtain ⟨hini, hdecl⟩ := hfin hf
    have hcf : m.cls = cf := by
      obtain ⟨_, _, c', _, _, _, -, -, hf', -, -, -, hown2, -⟩ := Cond.laysFinal_spec hlay
      have e1 : c' = cf := by have := hi.symm.trans hf'; simp at this; exact this.1.symm
      rw [hdecl] at hown2
      rw [← e1]; exact Option.some.inj (hown.symm.trans hown2)
    have h6 := u_fits hfc hkC hkind (Or.inr hlay) hi (hty b hb4) hn hfit
    refine W.putFinK hx hb hown (hts _ hw) hi hst hcf hini (by rw [q2]; exact h6) q1 q3 (by rw [hsl]; exact k2_hasslot (q4 b hb4)) rfl rfl hd fun H' e4 e5 e6 => ?_
    exact kk H' _ (fin H' e4 e5 e6) (vS_put hS r1 e5 e6)
-- arrays
theorem r_iald (hx : p.tables.exec = Jvm.exec) (hb : c.code = cc) (hG : Gl κ s) (hH : Hp κ z H) (hS : va_S (AA κ) s.heap H locs) {x a : Nat} (ha : tg z x = a) (h13 : a = 1 ∨ a = 3) {i : Int32} (hin : vp_in i (ln z x)) (hd : decode cc pc = .ok (.iaload, 1))
    (kk : W p l e R s m args below meth c H locs cells slots Q (F0 m (pc + 1) lsA (.int (zI z x i.toNatClampNeg) :: rest))) : W p l e R s m args below meth c H locs cells slots Q (F0 m pc lsA (.int i :: tr κ (.ref x) :: rest)) := by
  rcases h13 with rfl | rfl
  · obtain ⟨hP, r1, r2⟩ := hH.at1 ha (by omega) (by omega)
    rw [cell_int ha (Or.inl rfl)] at hP
    rw [tr_ref (by omega)]
    exact va_iald hx hb hG.1 hP 0 0 rfl rfl hin hd kk
  · have hx6 : 1 ≤ x ∧ x < 6 := by
      obtain ⟨-, -, h3, h4, h5, -⟩ := hH
      constructor
      · rcases Nat.eq_zero_or_pos x with q | q
        · subst q; rw [h5] at ha; omega
        · exact q
      · rcases Nat.lt_or_ge x 6 with q | q
        · exact q
        · rcases Nat.lt_or_ge x (zn z) with r | r
          · have := (h3 x q r).1; rw [ha] at this; exact absurd this (by decide)
          · rw [h4 x r] at ha; omega
    obtain ⟨g1, g2, g3⟩ := hH.2.2.2.2.2 x hx6.1 hx6.2
    rw [tr_ref (by omega), show adr κ x = κ.2.1 x by unfold adr; rw [if_pos hx6.2]]
    refine va_ti hx hb (hG.2.2.2.2.2.2.2 x hx6.1 hx6.2) hS (by rw [← g2]; exact hin) (v := .int (zI z x i.toNatClampNeg)) (by rw [g3]) hd kk
theorem r_zald (hx : p.tables.exec = Jvm.exec) (hb : c.code = cc) (hG : Gl κ s) (hH : Hp κ z H) {x : Nat} (ha : tg z x = 2) {i : Int32} (hin : vp_in i (ln z x)) (hd : decode cc pc = .ok (.baload, 1))
    (kk : W p l e R s m args below meth c H locs cells slots Q (F0 m (pc + 1) lsA (.int (zI z x i.toNatClampNeg) :: rest))) : W p l e R s m args below meth c H locs cells slots Q (F0 m pc lsA (.int i :: tr κ (.ref x) :: rest)) := by
  obtain ⟨hP, r1, r2⟩ := hH.at1 ha (by omega) (by omega)
  rw [cell_int ha (Or.inr rfl)] at hP
  rw [tr_ref (by omega)]
  exact va_zald hx hb hG.1 hP 0 1 rfl rfl hin hd kk
theorem aty (κ : KP) {a : Nat} (h1 : 4 ≤ a) (h2 : a ≤ 6) : ∃ (t0 : Nat) (C : String), (atys κ)[t0]? = some (κ.2.2.1 a, FieldType.object C) ∧ ∃ (T : u_T) (N : Nat), cls[elc a]? = some (C, T, N) := by
  rcases (show a = 4 ∨ a = 5 ∨ a = 6 by omega) with rfl | rfl | rfl
  · exact ⟨2, _, rfl, _, _, rfl⟩
  · exact ⟨3, _, rfl, _, _, rfl⟩
  · exact ⟨4, _, rfl, _, _, rfl⟩
theorem r_aald (hx : p.tables.exec = Jvm.exec) (hb : c.code = cc) (hG : Gl κ s) (hH : Hp κ z H) {x a : Nat} (ha : tg z x = a) (h1 : 4 ≤ a) (h2 : a ≤ 6) {i : Int32} (hin : vp_in i (ln z x)) (hd : decode cc pc = .ok (.aaload, 1))
    (kk : W p l e R s m args below meth c H locs cells slots Q (F0 m (pc + 1) lsA (tr κ (.ref (zP z x i.toNatClampNeg)) :: rest))) : W p l e R s m args below meth c H locs cells slots Q (F0 m pc lsA (.int i :: tr κ (.ref x) :: rest)) := by
  obtain ⟨hP, r1, r2⟩ := hH.at1 ha (by omega) (by omega)
  rw [cell_rf ha h1 h2] at hP
  rw [tr_ref (x := x) (by omega)]
  obtain ⟨t0, C, ht, -⟩ := aty κ h1 h2
  exact va_aldq hx hb hG.1 hP 0 t0 rfl ht hin hd kk
theorem u2_ne {α : Type} {f : Nat → Nat → α} {a k y : Nat} {x : α} (h : y ≠ a) : u2 f a k x y = f y := by
  funext j; unfold u2; rw [if_neg (fun q => h q.1)]
theorem r_ias (hx : p.tables.exec = Jvm.exec) (hb : c.code = cc) (hG : Gl κ s) (hH : Hp κ z H) (hS : va_S (AA κ) s.heap H locs) {x : Nat} (ha : tg z x = 1) {i v : Int32} (hin : vp_in i (ln z x)) (hd : decode cc pc = .ok (.iastore, 1))
    (kk : ∀ (H1 : Heap) (locs1 : List Loc), Hp κ (sI z x i.toNatClampNeg v) H1 → va_S (AA κ) s.heap H1 locs1 → W p l e R s m args below meth c H1 locs1 cells slots Q (F0 m (pc + 1) lsA rest)) : W p l e R s m args below meth c H locs cells slots Q (F0 m pc lsA (.int v :: .int i :: tr κ (.ref x) :: rest)) := by
  obtain ⟨hP, r1, r2⟩ := hH.at1 ha (by omega) (by omega)
  rw [cell_int ha (Or.inl rfl)] at hP
  rw [tr_ref (by omega)]
  refine W.iast hx hb (hP 0 _ rfl) ((hG.1.2 0 _ rfl).1 (ln z x) (fun j => .int (zI z x j))) (fun q => by cases q) (by show ¬ (i < 0 ∨ (arrV _ _ _).slots.size ≤ _); rw [arrV_size]; exact hin) rfl rfl hd fun H1 e4 e5 e6 => ?_
  refine kk H1 _ (hH.upd r1 rfl rfl rfl (fun y hy => u2_ne hy) (fun y hy => rfl) e5 e6 ?_) (vS_put hS r1 e5 e6)
  rw [cell_int (z := sI z x i.toNatClampNeg v) (a := 1) ha (Or.inl rfl)]
  show H1[adr κ x]? = some (vp_cell _ _)
  rw [e4, vp_cell_i, vp_cell_i, arrV_store]
  congr 2
  funext q
  show updV _ _ _ q = .int (u2 (zI z) x i.toNatClampNeg v x q)
  unfold updV u2
  by_cases hq : q = i.toNatClampNeg
  · rw [if_pos hq, if_pos ⟨rfl, hq⟩]
  · rw [if_neg hq, if_neg (fun w => hq w.2)]
theorem r_zas (hx : p.tables.exec = Jvm.exec) (hb : c.code = cc) (hG : Gl κ s) (hH : Hp κ z H) (hS : va_S (AA κ) s.heap H locs) {x : Nat} (ha : tg z x = 2) {i v : Int32} (hin : vp_in i (ln z x)) (h01 : v = 0 ∨ v = 1) (hd : decode cc pc = .ok (.bastore, 1))
    (kk : ∀ (H1 : Heap) (locs1 : List Loc), Hp κ (sI z x i.toNatClampNeg v) H1 → va_S (AA κ) s.heap H1 locs1 → W p l e R s m args below meth c H1 locs1 cells slots Q (F0 m (pc + 1) lsA rest)) : W p l e R s m args below meth c H locs cells slots Q (F0 m pc lsA (.int v :: .int i :: tr κ (.ref x) :: rest)) := by
  obtain ⟨hP, r1, r2⟩ := hH.at1 ha (by omega) (by omega)
  rw [cell_int ha (Or.inr rfl)] at hP
  rw [tr_ref (by omega)]
  have hnar : narrow .boolean (.int v) = .int v := by rcases h01 with rfl | rfl <;> rfl
  refine W.zast hx hb (hP 0 _ rfl) ((hG.1.2 1 _ rfl).1 (ln z x) (fun j => .int (zI z x j))) (fun q => by cases q) (by show ¬ (i < 0 ∨ (arrV _ _ _).slots.size ≤ _); rw [arrV_size]; exact hin) rfl rfl hd fun H1 e4 e5 e6 => ?_
  rw [hnar] at e4
  refine kk H1 _ (hH.upd r1 rfl rfl rfl (fun y hy => u2_ne hy) (fun y hy => rfl) e5 e6 ?_) (vS_put hS r1 e5 e6)
  rw [cell_int (z := sI z x i.toNatClampNeg v) (a := 2) ha (Or.inr rfl)]
  show H1[adr κ x]? = some (vp_cell _ _)
  rw [e4, vp_cell_i, vp_cell_i, arrV_store]
  congr 2
  funext q
  show updV _ _ _ q = .int (u2 (zI z) x i.toNatClampNeg v x q)
  unfold updV u2
  by_cases hq : q = i.toNatClampNeg
  · rw [if_pos hq, if_pos ⟨rfl, hq⟩]
  · rw [if_neg hq, if_neg (fun w => hq w.2)]
theorem r_aas (hx : p.tables.exec = Jvm.exec) (hb : c.code = cc) (hG : Gl κ s) (hH : Hp κ z H) (hS : va_S (AA κ) s.heap H locs) {x a y : Nat} (ha : tg z x = a) (h1 : 4 ≤ a) (h2 : a ≤ 6) {i : Int32} (hin : vp_in i (ln z x)) (hy : y = 0 ∨ tg z y = 10 + elc a) (hd : decode cc pc = .ok (.aastore, 1))
    (kk : ∀ (H1 : Heap) (locs1 : List Loc), Hp κ (sP z x i.toNatClampNeg y) H1 → va_S (AA κ) s.heap H1 locs1 → W p l e R s m args below meth c H1 locs1 cells slots Q (F0 m (pc + 1) lsA rest)) : W p l e R s m args below meth c H locs cells slots Q (F0 m pc lsA (tr κ (.ref y) :: .int i :: tr κ (.ref x) :: rest)) := by
  obtain ⟨hP, r1, r2⟩ := hH.at1 ha (by omega) (by omega)
  rw [cell_rf ha h1 h2] at hP
  obtain ⟨t0, C, ht, T, N, hc⟩ := aty κ h1 h2
  have fin : ∀ (H1 : Heap) (v : Value), v = tr κ (.ref y) → H1[adr κ x]? = some ((vp_cell (κ.2.2.1 a) (ln z x, .inr (.inr (.inr (.inr (fun i => orf κ (zP z x i))))))).setSlot i.toNatClampNeg v) → H1.size = H.size → (∀ q, q ≠ adr κ x → H1[q]? = H[q]?) → Hp κ (sP z x i.toNatClampNeg y) H1 := by
    intro H1 v hv e4 e5 e6
    refine hH.upd r1 rfl rfl rfl (fun y hy => rfl) (fun y hy => u2_ne hy) e5 e6 ?_
    rw [cell_rf (z := sP z x i.toNatClampNeg y) (a := a) ha h1 h2]
    show H1[adr κ x]? = some (vp_cell _ _)
    rw [e4, vp_cell_q, vp_cell_q, arrV_store]
    congr 2
    funext q
    show updV _ _ _ q = va_rf (orf κ (u2 (zP z) x i.toNatClampNeg y x q))
    unfold updV u2
    by_cases hq : q = i.toNatClampNeg
    · rw [if_pos hq, if_pos ⟨rfl, hq⟩, hv]; rfl
    · rw [if_neg hq, if_neg (fun w => hq w.2)]
  rw [tr_ref (x := x) (by omega)]
  have hlt : i.toNatClampNeg < ln z x := Nat.not_le.mp fun q => hin (Or.inr q)
  have h0 : ¬ i < 0 := fun q => hin (Or.inl q)
  by_cases hy0 : y = 0
  · subst hy0
    refine va_WaastN (C := C) hx hb (hP 0 _ rfl) ((hG.1.2 t0 _ ht).1 (ln z x) (fun j => va_rf (orf κ (zP z x j)))) (fun h => by cases h) (by show ¬ (i < 0 ∨ (arrV _ _ _).slots.size ≤ _); rw [arrV_size]; exact hin) rfl rfl hd fun H1 e4 e5 e6 => ?_
    exact kk H1 _ (fin H1 _ rfl e4 e5 e6) (vS_put hS r1 e5 e6)
  · have hyt : tg z y = 10 + elc a := hy.resolve_left hy0
    obtain ⟨hPy, s1, s2⟩ := hH.at1 hyt (by omega) (by omega)
    rw [cell_obj hyt (by omega)] at hPy
    obtain ⟨r', hr', cellV, g1, g2, g3, -⟩ := hPy 0 _ rfl
    have he : 10 + elc a - 10 = elc a := by omega
    have hcls := (hG.1.1 (elc a) _ hc).2
    obtain ⟨kA, comp, k1, k2, k3, -⟩ := (hG.1.2 t0 _ ht).2
    have hcomp : comp = κ.2.2.2.1.1 (elc a) := Option.some.inj (k3.symm.trans hcls.1)
    subst hcomp
    rw [show (10 + elc a - 10, (List.range (nf (10 + elc a - 10))).map (fval κ z y (10 + elc a - 10))).1 = elc a from he] at g2
    obtain ⟨kC, hkC, -⟩ := hcls.2
    rw [tr_ref (x := y) hy0]
    refine W.aast hx hb (hP 0 _ rfl) (fun q h => by cases h) (fun h => by cases h) k1 k2 rfl hkC ⟨h0, by show _ < (arrV _ _ _).slots.size; rw [arrV_size]; exact hlt⟩ g1 (fun q h => by rw [g3] at h; cases h) (by rw [g2]; exact hkC) (by rw [g2]; exact va_assign hcls) rfl rfl hd fun H1 e4 e5 e6 => ?_
    exact kk H1 _ (fin H1 _ (tr_ref hy0).symm e4 e5 e6) (vS_put hS r1 e5 e6)
theorem r_alen (hx : p.tables.exec = Jvm.exec) (hb : c.code = cc) (hG : Gl κ s) (hH : Hp κ z H) (hS : va_S (AA κ) s.heap H locs) {x : Nat} (ha : isAr (tg z x) = true) (hd : decode cc pc = .ok (.arraylength, 1))
    (kk : W p l e R s m args below meth c H locs cells slots Q (F0 m (pc + 1) lsA (.int (nI (ln z x)) :: rest))) : W p l e R s m args below meth c H locs cells slots Q (F0 m pc lsA (tr κ (.ref x) :: rest)) := by
  have h16 : 1 ≤ tg z x ∧ tg z x ≤ 6 := by
    simp only [isAr, Bool.and_eq_true, Nat.ble_eq] at ha; exact ha
  by_cases h3 : tg z x = 3
  · have hx6 : 1 ≤ x ∧ x < 6 := by
      obtain ⟨-, -, g3, h4, h5, -⟩ := hH
      constructor
      · rcases Nat.eq_zero_or_pos x with q | q
        · subst q; rw [h5] at h3; omega
        · exact q
      · rcases Nat.lt_or_ge x 6 with q | q
        · exact q
        · rcases Nat.lt_or_ge x (zn z) with r | r
          · have := (g3 x q r).1; rw [h3] at this; exact absurd this (by decide)
          · rw [h4 x r] at h3; omega
    obtain ⟨g1, g2, g3⟩ := hH.2.2.2.2.2 x hx6.1 hx6.2
    rw [tr_ref (by omega), show adr κ x = κ.2.1 x by unfold adr; rw [if_pos hx6.2]]
    exact va_tlen hx hb (hG.2.2.2.2.2.2.2 x hx6.1 hx6.2) hS (v := nI (ln z x)) (by rw [g2]; rfl) hd kk
  · obtain ⟨hP, r1, r2⟩ := hH.at1 rfl (by omega) h3
    rw [tr_ref (by omega)]
    have hok := (hH.2.2.1 x r1 r2).1
    rcases (show tg z x = 1 ∨ tg z x = 2 ∨ (4 ≤ tg z x ∧ tg z x ≤ 6) by omega) with h | h | ⟨h, h'⟩
    · rw [cell_int h (Or.inl rfl)] at hP
      exact va_alen hx hb hG.1 hP 0 0 rfl rfl (v := nI (ln z x)) rfl hd kk
    · rw [cell_int h (Or.inr rfl)] at hP
      exact va_alen hx hb hG.1 hP 0 1 rfl rfl (v := nI (ln z x)) rfl hd kk
    · rw [cell_rf rfl h h'] at hP
      obtain ⟨t0, C, ht, -⟩ := aty κ h h'
      exact va_alen hx hb hG.1 hP 0 t0 rfl ht (v := nI (ln z x)) rfl hd kk
theorem inst_in : ∀ (ci : Nat) (C : String) (T : u_T) (N : Nat), cls[ci]? = some (C, T, N) → Cond.instantiable C N ∈ gw ∧ Cond.initialized C ∈ gw := by
  intro ci C T N h
  match ci, h with
  | 0, h => cases h; exact ⟨gw_in (by decide +kernel) rfl, gw_in (by decide +kernel) rfl⟩
  | 1, h => cases h; exact ⟨gw_in (by decide +kernel) rfl, gw_in (by decide +kernel) rfl⟩
  | 2, h => cases h; exact ⟨gw_in (by decide +kernel) rfl, gw_in (by decide +kernel) rfl⟩
  | 3, h => cases h; exact ⟨gw_in (by decide +kernel) rfl, gw_in (by decide +kernel) rfl⟩
  | 4, h => cases h; exact ⟨gw_in (by decide +kernel) rfl, gw_in (by decide +kernel) rfl⟩
  | 5, h => cases h; exact ⟨gw_in (by decide +kernel) rfl, gw_in (by decide +kernel) rfl⟩
  | 6, h => cases h; exact ⟨gw_in (by decide +kernel) rfl, gw_in (by decide +kernel) rfl⟩
  | 7, h => cases h; exact ⟨gw_in (by decide +kernel) rfl, gw_in (by decide +kernel) rfl⟩
  | k + 8, h => simp [cls] at h
theorem fk_def : ∀ ci, ci < 8 → ∀ k, k < nf ci → defaultValue (tC ci k) = if fk ci k = 1 then .null else .int 0 := by decide +kernel
theorem fk_ty : ∀ ci, ci < 8 → ∀ k, k < nf ci → (fk ci k = 0 → tC ci k = .int) ∧ (fk ci k = 2 → tC ci k = .boolean) ∧ fk ci k < 3 := by decide +kernel
theorem fk_rf : ∀ ci, ci < 8 → ∀ k, k < nf ci → fk ci k = 1 → (tC ci k).isReference = true := by decide +kernel
theorem r_new (hx : p.tables.exec = Jvm.exec) (hb : c.code = cc) (hown : s.vm.findClass own = some m.cls) (hts : ∀ w ∈ gw, w.before args s = true) (hG : Gl κ s) (hH : Hp κ z H) (hS : va_S (AA κ) s.heap H locs) {a k : Nat} {C : String} {T : u_T} {N : Nat} (h10 : 10 ≤ a) (hc : cls[a - 10]? = some (C, T, N)) (hw : Cond.classLink own k C ∈ gw) (hcells : cells + 1 ≤ R.cells) (hslots : slots + N ≤ R.slots) (hd : decode cc pc = .ok (.new k, 3))
    (kk : ∀ (H1 : Heap), Hp κ (nw z a 0 N) H1 → va_S (AA κ) s.heap H1 locs → W p l e R s m args below meth c H1 locs (cells + 1) (slots + N) Q (F0 m (pc + 3) lsA (tr κ (.ref (zn z)) :: rest))) : W p l e R s m args below meth c H locs cells slots Q (F0 m pc lsA rest) := by
  obtain ⟨hin, hnm, hty, hN⟩ := clOK hc
  obtain ⟨i1, i2⟩ := inst_in _ _ _ _ hc
  have hKn := hG.1.1 (a - 10) _ hc
  have h6 := hH.2.1
  have hci : a - 10 < 8 := by
    have := (List.getElem?_eq_some_iff.mp hc).1
    simpa [cls] using this
  refine W.newcK hx hb hown (hts _ hw) (hts _ i1) (hts _ i2) rfl hd hcells hslots hKn.2.1 rfl fun H1 kC hkC e1 z1 o1 => ?_
  rw [show (Value.ref H.size : Value) = tr κ (.ref (zn z)) by rw [tr_ref (by omega), adr_hi h6, hH.1]]
  have htg : tg (nw z a 0 N) (zn z) = a := nw_tg _ _ _ _
  refine kk H1 (hH.new z1 o1 (by simp [okTag]; omega) ?_) (vS_new hS z1 o1)
  rw [cell_obj htg h10]
  refine ⟨_, hc, (u_born (tC (a - 10)) hts hin hKn hkC e1 hty).to (fun j hj => ?_)⟩
  have hj' : j < nf (a - 10) := by rw [← hN]; exact hj
  rw [vpV_map _ hj', fk_def _ hci j hj']
  unfold fval
  have z1 : zP (nw z a 0 N) (zn z) j = 0 := by rw [nw_zP]
  have z2 : zI (nw z a 0 N) (zn z) j = 0 := by rw [nw_zI]
  rw [z1, z2]
  rfl
theorem arrI_in : Cond.arrayClass .int ∈ gw ∧ Cond.arrayClass .boolean ∈ gw := ⟨gw_in (by decide +kernel) rfl, gw_in (by decide +kernel) rfl⟩
theorem r_newa (hx : p.tables.exec = Jvm.exec) (hb : c.code = cc) (hts : ∀ w ∈ gw, w.before args s = true) (hG : Gl κ s) (hH : Hp κ z H) (hS : va_S (AA κ) s.heap H locs) {a : Nat} {t : ArrayType} (ht : (t = .int ∧ a = 1) ∨ (t = .boolean ∧ a = 2)) {n : Int32} (hn : ¬ n < 0) (hn2 : n.toNatClampNeg ≤ 100000) (hcells : cells + 1 ≤ R.cells) (hslots : slots + n.toNatClampNeg ≤ R.slots) (hd : decode cc pc = .ok (.newarray t, 2))
    (kk : ∀ (H1 : Heap), Hp κ (nw z a n.toNatClampNeg n.toNatClampNeg) H1 → va_S (AA κ) s.heap H1 locs → W p l e R s m args below meth c H1 locs (cells + 1) (slots + n.toNatClampNeg) Q (F0 m (pc + 2) lsA (tr κ (.ref (zn z)) :: rest))) : W p l e R s m args below meth c H locs cells slots Q (F0 m pc lsA (.int n :: rest)) := by
  have h6 := hH.2.1
  have hr : (Value.ref H.size : Value) = tr κ (.ref (zn z)) := by rw [tr_ref (by omega), adr_hi h6, hH.1]
  have htg : tg (nw z a n.toNatClampNeg n.toNatClampNeg) (zn z) = a := nw_tg _ _ _ _
  have hln : ln (nw z a n.toNatClampNeg n.toNatClampNeg) (zn z) = n.toNatClampNeg := nw_ln _ _ _ _
  have hzI : zI (nw z a n.toNatClampNeg n.toNatClampNeg) (zn z) = fun _ => 0 := nw_zI _ _ _ _
  rcases ht with ⟨rfl, rfl⟩ | ⟨rfl, rfl⟩
  · refine va_newaK (atype := .int) hx hb (hts _ arrI_in.1) rfl hd rfl hn rfl (by show _ * 4 ≤ _; omega) hcells hslots rfl fun H1 cA e1 z1 o1 hAr hNm => ?_
    have hcA : cA = κ.2.2.1 1 := Option.some.inj (hNm.symm.trans (hG.1.2 0 _ rfl).2)
    rw [hr]
    refine kk H1 (hH.new z1 o1 rfl ?_) (vS_new hS z1 o1)
    rw [cell_int htg (Or.inl rfl), hln, hzI]
    show H1[H.size]? = some (vp_cell _ _)
    rw [e1, hcA]; rfl
  · refine va_newaK (atype := .boolean) hx hb (hts _ arrI_in.2) rfl hd rfl hn rfl (by show _ * 1 ≤ _; omega) hcells hslots rfl fun H1 cA e1 z1 o1 hAr hNm => ?_
    have hcA : cA = κ.2.2.1 2 := Option.some.inj (hNm.symm.trans (hG.1.2 1 _ rfl).2)
    rw [hr]
    refine kk H1 (hH.new z1 o1 rfl ?_) (vS_new hS z1 o1)
    rw [cell_int htg (Or.inr rfl), hln, hzI]
    show H1[H.size]? = some (vp_cell _ _)
    rw [e1, hcA]; rfl
theorem ao_of {a : Nat} {C : String} {T : u_T} {N : Nat} (hG : Gl κ s) (h1 : 4 ≤ a) (h2 : a ≤ 6) (hc : cls[elc a]? = some (C, T, N)) : va_AO C s := by
  rcases (show a = 4 ∨ a = 5 ∨ a = 6 by omega) with rfl | rfl | rfl
  · cases hc; exact hG.2.2.1
  · cases hc; exact hG.2.2.2.1
  · cases hc; exact hG.2.2.2.2.1
theorem r_newr (hx : p.tables.exec = Jvm.exec) (hb : c.code = cc) (hown : s.vm.findClass own = some m.cls) (hts : ∀ w ∈ gw, w.before args s = true) (hG : Gl κ s) (hH : Hp κ z H) (hS : va_S (AA κ) s.heap H locs) {a k : Nat} (h1 : 4 ≤ a) (h2 : a ≤ 6) {C : String} {T : u_T} {N : Nat} (hc : cls[elc a]? = some (C, T, N)) (hw : Cond.classLink own k C ∈ gw) {n : Int32} (hn : ¬ n < 0) (hn2 : n.toNatClampNeg ≤ 100000) (hcells : cells + 1 ≤ R.cells) (hslots : slots + n.toNatClampNeg ≤ R.slots) (hd : decode cc pc = .ok (.anewarray k, 3))
    (kk : ∀ (H1 : Heap), Hp κ (nw z a n.toNatClampNeg n.toNatClampNeg) H1 → va_S (AA κ) s.heap H1 locs → W p l e R s m args below meth c H1 locs (cells + 1) (slots + n.toNatClampNeg) Q (F0 m (pc + 3) lsA (tr κ (.ref (zn z)) :: rest))) : W p l e R s m args below meth c H locs cells slots Q (F0 m pc lsA (.int n :: rest)) := by
  have h6 := hH.2.1
  have hr : (Value.ref H.size : Value) = tr κ (.ref (zn z)) := by rw [tr_ref (by omega), adr_hi h6, hH.1]
  have htg : tg (nw z a n.toNatClampNeg n.toNatClampNeg) (zn z) = a := nw_tg _ _ _ _
  have hln : ln (nw z a n.toNatClampNeg n.toNatClampNeg) (zn z) = n.toNatClampNeg := nw_ln _ _ _ _
  have hzP : zP (nw z a n.toNatClampNeg n.toNatClampNeg) (zn z) = fun _ => 0 := nw_zP _ _ _ _
  refine W.anew hx hb hown (hts _ hw) (va_AO.use (ao_of hG h1 h2 hc)) rfl hd rfl hn (by omega) hcells hslots fun cA kA comp f1 f2 f3 f4 => ?_
  generalize hH1 : H.push ({ cls := cA, slots := Array.replicate n.toNatClampNeg .null, vm := .none } : Cell) = H1
  have z1 : H1.size = H.size + 1 := by rw [← hH1, Array.size_push]
  have e1 : H1[H.size]? = some (arrV cA n.toNatClampNeg (fun _ => .null)) := by rw [← hH1, Array.getElem?_push_size, ← arrV_new]
  have o1 : ∀ q : Nat, q < H.size → H1[q]? = H[q]? := fun q hq => by rw [← hH1, Array.getElem?_push, if_neg (Nat.ne_of_lt hq)]
  have hcA : cA = κ.2.2.1 a := by
    rcases (show a = 4 ∨ a = 5 ∨ a = 6 by omega) with rfl | rfl | rfl
    · cases hc
      obtain ⟨_, _, -, -, -, q⟩ := (hG.1.2 2 _ rfl).2
      exact Option.some.inj (f1.symm.trans q)
    · cases hc
      obtain ⟨_, _, -, -, -, q⟩ := (hG.1.2 3 _ rfl).2
      exact Option.some.inj (f1.symm.trans q)
    · cases hc
      obtain ⟨_, _, -, -, -, q⟩ := (hG.1.2 4 _ rfl).2
      exact Option.some.inj (f1.symm.trans q)
  rw [hr]
  refine kk H1 (hH.new z1 o1 (by simp [okTag]; omega) ?_) (vS_new hS z1 o1)
  rw [cell_rf htg h1 h2, hln, hzP]
  show H1[H.size]? = some (vp_cell _ _)
  rw [e1, hcA]; rfl
-- statics
theorem r_gets (hx : p.tables.exec = Jvm.exec) (hb : c.code = cc) (hown : s.vm.findClass own = some m.cls) (hts : ∀ w ∈ gw, w.before args s = true) (hG : Gl κ s) (hS : va_S (AA κ) s.heap H locs) {a k : Nat} (h1 : 1 ≤ a) (h2 : a < 5) (hw : Cond.fieldLink own k "ClubStrokes" (snm a) "[I" ∈ gw ∨ Cond.fieldLinkNest own k "ClubStrokes" (snm a) "[I" "ClubStrokes" ∈ nestW) (hd : decode cc pc = .ok (.getstatic k, 3))
    (kk : W p l e R s m args below meth c H locs cells slots Q (F0 m (pc + 3) lsA (tr κ (.ref a) :: rest))) : W p l e R s m args below meth c H locs cells slots Q (F0 m pc lsA rest) := by
  have hz := hG.2.2.2.2.2.2.1 a h1 h2
  rw [tr_ref (by omega), show adr κ a = κ.2.1 a by unfold adr; rw [if_pos (by omega)]] at kk
  rcases hw with hw | hw
  · exact va_gets hx hb hz hS hown (hts _ hw) (fun _ h => h) hd kk
  · exact va_getsN hx hb hz hS hown (va_Nw.use (nest_tab _ hw) (hG.2.1 _ hw)) (fun _ h => h) hd kk
end StepRows
