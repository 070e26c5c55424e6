/-! Soundness, third part: calls. Own work. -/
def mwl (mi : Nat) : List Cond := Cond.code (my mi) (mb mi) (mx mi) (mr mi) :: gw
def rmD (d : Nat) (z z' : ZS) : Room := { frames := d, cells := zn z' - zn z, slots := zw z' - zw z, locals := 38 * d }
def Pre0 (κ : KP) (av : List Value) (z : ZS) : Array Value → State → Prop := va_Pc (av.map (tr κ)) (fun U => Gl κ U ∧ Hp κ z U.heap)
def Qr (κ : KP) (r : Option Value) (z' : ZS) : Array Value → State → Outcome → State → Prop := fun _ st oc t => oc = .returned (r.map (tr κ)) ∧ Hp κ z' t.heap ∧ va_F (AA κ) st t
/-- the contract of a run -/
def Ctr (κ : KP) (l : Launch) (d mi : Nat) (av : List Value) (z : ZS) (r : Option Value) (z' : ZS) : Prop := Met l (my mi) (mwl mi) (rmD d z z') (Pre0 κ av z) (Qr κ r z') (zn z' - zn z) (zw z' - zw z) (AA κ)
theorem good_gw {ws : List Cond} (h : ∀ w ∈ ws, w ∈ gw) : GoodIn gw ws := fun w hw => ⟨h w hw, good_of_word (List.mem_filter.mp (h w hw)).2⟩
theorem mwl_in {mi : Nat} (h : mi < 174) : ∀ w ∈ mwl mi, w ∈ gw := by
  intro w hw
  rcases List.mem_cons.mp hw with rfl | hw
  · exact gw_in (mdOK mi h) rfl
  · exact hw
theorem wAt_in {w : Nat} {q : Cond} (h : wAt w q = true) : q ∈ gw := by
  simp only [wAt, Bool.and_eq_true, decide_eq_true_eq] at h
  exact gw_in (List.mem_of_getElem? h.1) h.2
theorem pre_blind {κ : KP} {av : List Value} {z : ZS} : FrameBlind (Pre0 κ av z) := fun a U g mk h => ⟨h.1, h.2.1.same rfl rfl, h.2.2⟩
theorem scat_tr (κ : KP) : ∀ st : List Value, ((st.map (tr κ)).map fun v => v.category).sum = scat st
  | [] => rfl
  | v :: r => by
    simp only [List.map_cons, List.sum_cons, scat, tr_cat]
    rw [scat_tr κ r]
theorem tk_spec : ∀ (n : Nat) (st acc av st' : List Value), tk n st acc = some (av, st') → ∃ pre : List Value, av = pre ++ acc ∧ st = pre.reverse ++ st' ∧ pre.length = n
  | 0, st, acc, av, st', h => by
    cases h
    exact ⟨[], rfl, rfl, rfl⟩
  | n + 1, [], acc, av, st', h => by cases h
  | n + 1, v :: st, acc, av, st', h => by
    obtain ⟨pre, h1, h2, h3⟩ := tk_spec n st (v :: acc) av st' h
    exact ⟨pre ++ [v], by rw [h1]; simp, by rw [h2]; simp, by simp [h3]⟩
theorem rk_le : ∀ mi, mi < 174 → rk mi ≤ 17 := by decide +kernel
section CallRows
variable {κ : KP} {p : Program} {l : Launch} {e : Env} {R : Room} {s : State} {m : MethodId} {args : Array Value} {below : List Frame} {meth : Method} {c : Code} {H : Heap} {locs : List Loc} {cells slots : Nat} {Q : State → Prop}
variable {cc : ByteArray} {pc : Nat} {lsA : Array Slot} {z : ZS} {own : String} {nL d : Nat}
theorem r_run {mc ms : Nat} {a : Array Value} {r : Option Value} {z' : ZS} {st0 rest : List Value} (hr : va_Run p l e R s m args below meth c H locs cells slots mc ms (F0 m pc lsA st0) rest (Qr κ r z' a) (AA κ)) (hS : va_S (AA κ) s.heap H locs)
    (kk : ∀ (H1 : Heap) (locs1 : List Loc), Hp κ z' H1 → va_S (AA κ) s.heap H1 locs1 → W p l e R s m args below meth c H1 locs1 (cells + mc) (slots + ms) Q (F0 m (pc + 3) lsA ((r.map (tr κ)).toList ++ rest))) : W p l e R s m args below meth c H locs cells slots Q (F0 m pc lsA st0) := by
  intro T hT X
  obtain ⟨v, st₀, t, T', L, h0, X', hL, e1, e2, ⟨hv, hp, hz, hk⟩, st⟩ := hr T hT X
  cases hv
  rw [h0] at hz hk
  obtain ⟨t2, a1, b1⟩ := kk T'.heap (locs ++ L) (by rw [e1]; exact hp)
    ⟨Nat.le_trans hS.1 (by rw [e1]; exact hz), fun q h1 h2 => by rw [e1, hk q (Nat.lt_of_lt_of_le h1 hS.1) h2]; exact hS.2.1 q h1 h2, fun q hq => by
      rcases List.mem_append.mp hq with h | h
      · exact hS.2.2 q h
      · exact hL q h⟩ T' rfl X'
  exact ⟨t2, st t2 a1, b1⟩
theorem pre_at (hG : Gl κ s) (hH : Hp κ z H) (hS : va_S (AA κ) s.heap H locs) {av : List Value} : ∀ U : State, U.heap = H → s.WarmedH U.vm → Pre0 κ av z (av.map (tr κ)).toArray U := by
  intro U hU hW
  refine ⟨rfl, hG.mv hW (fun q a b => by rw [hU]; exact hS.2.1 q a b) ?_, by rw [hU]; exact hH⟩
  rw [hU, hH.1]; omega
theorem vM_of {mi : Nat} (h : mi < 174) : Cond.initialized (my mi).cls ∈ gw ∧ (parseMethodDescriptor (my mi).desc).map (fun d => d.parameters.length) = some (mp mi) ∧ mx mi ≤ 19 ∧ plainFor (my mi) = true ∧ (my mi).cls ≠ "java/lang/invoke/MethodHandle" ∧ (my mi).cls ≠ "java/lang/invoke/VarHandle" ∧ (rb mi = 1 ↔ mr mi = some .boolean) := by
  have := vMOK mi h
  simp only [vM, Bool.and_eq_true, decide_eq_true_eq, beq_iff_eq] at this
  obtain ⟨⟨⟨⟨⟨⟨⟨h1, h2⟩, h3⟩, h4⟩, h5⟩, h6⟩, h7⟩, h8⟩ := this
  exact ⟨wAt_in h1, h3, h4, h5, h6, h7, by simpa using h8⟩
theorem vM_st {mi : Nat} (h : mi < 174) (hk : mk3 mi = 0) : Cond.static (my mi) ∈ gw := by
  have := vMOK mi h
  simp only [vM, hk, Bool.and_eq_true] at this
  exact wAt_in this.1.1.1.1.1.1.2
theorem vM_in {mi : Nat} (h : mi < 174) (hk : mk3 mi = 1) : Cond.instanceMethod (my mi) ∈ gw ∧ (my mi).name = "<init>" ∧ mr mi = none := by
  have := vMOK mi h
  simp only [vM, hk, Bool.and_eq_true, decide_eq_true_eq] at this
  exact ⟨wAt_in this.1.1.1.1.1.1.2.1.1, this.1.1.1.1.1.1.2.1.2, this.1.1.1.1.1.1.2.2⟩
theorem vM_vi {mi : Nat} (h : mi < 174) (hk : mk3 mi = 2) : Cond.instanceMethod (my mi) ∈ gw ∧ Cond.selects (my mi).cls (my mi) (my mi) ∈ gw ∧ ∃ ci C T N, rk mi = 10 + ci ∧ cls[ci]? = some (C, T, N) ∧ C = (my mi).cls := by
  have := vMOK mi h
  simp only [vM, hk, Bool.and_eq_true, decide_eq_true_eq] at this
  refine ⟨wAt_in this.1.1.1.1.1.1.2.1.1, wAt_in this.1.1.1.1.1.1.2.1.2, ?_⟩
  have hr := this.1.1.1.1.1.1.2.2
  cases hf : cls.findIdx? (fun q => decide (q.1 = (my mi).cls)) with
  | none =>
    rw [hf] at hr
    have := rk_le mi h
    rw [hr] at this
    exact absurd this (by decide)
  | some ci =>
    rw [hf] at hr
    obtain ⟨hl, hp, -⟩ := List.findIdx?_eq_some_iff_getElem.mp hf
    exact ⟨ci, _, _, _, hr, List.getElem?_eq_getElem hl, of_decide_eq_true hp⟩
theorem r_virt (hx : p.tables.exec = Jvm.exec) (hb : c.code = cc) (hml : c.maxLocals = nL) (hown : s.vm.findClass own = some m.cls) (hts : ∀ w ∈ gw, w.before args s = true) (hG : Gl κ s) (hH : Hp κ z H) (hS : va_S (AA κ) s.heap H locs) (hls : lsA.size = nL) (hfr : d + 1 ≤ R.frames) (hlo : 38 * d + 38 ≤ R.locals)
    {mi k x : Nat} (hmi : mi < 174) (hk3 : mk3 mi = 2) {av st' : List Value} {r : Option Value} {z' : ZS} (hM : Ctr κ l d mi (.ref x :: av) z r z') (hrc : tg z x = rk mi) (hn : av.length = mp mi) (hw : Cond.methodLink own k (my mi) ∈ gw) (hsc : scat st' ≤ 8) (hc1 : cells + (zn z' - zn z) ≤ R.cells) (hc2 : slots + (zw z' - zw z) ≤ R.slots) (hd : decode cc pc = .ok (.invokevirtual k, 3))
    (kk : ∀ (H1 : Heap) (locs1 : List Loc), Hp κ z' H1 → va_S (AA κ) s.heap H1 locs1 → W p l e R s m args below meth c H1 locs1 (cells + (zn z' - zn z)) (slots + (zw z' - zw z)) Q (F0 m (pc + 3) lsA ((r.map (tr κ)).toList ++ st'.map (tr κ)))) : W p l e R s m args below meth c H locs cells slots Q (F0 m pc lsA ((av.map (tr κ)).reverse ++ tr κ (.ref x) :: st'.map (tr κ))) := by
  obtain ⟨v1, v2, v3, v4, v5, v6, v7⟩ := vM_of hmi
  obtain ⟨w1, w2, ci, C, T, N, hci, hcc, hC⟩ := vM_vi hmi hk3
  obtain ⟨hP, r1, r2⟩ := hH.at1 (hrc.trans hci) (by omega) (by omega)
  rw [cell_obj (hrc.trans hci) (by omega), show 10 + ci - 10 = ci by omega] at hP
  rw [tr_ref (by omega)]
  have hM : Met l (my mi) (mwl mi) (rmD d z z') (Pre0 κ (.ref x :: av) z) (Qr κ r z') (zn z' - zn z) (zw z' - zw z) (AA κ) := hM
  refine r_run (va_runV (As := av.map (tr κ)) (b := adr κ x) (rest := st'.map (tr κ)) (nL := nL) (C := (my mi).cls) ⟨hx, hb, hml, hown, hts⟩ hM (cwV (mp mi) hts (good_gw ?_) rfl rfl rfl ⟨rfl, v5, v6, v2⟩ ⟨hfr, ?_⟩) ⟨pre_blind, ?_, ?_⟩ rfl (by rw [List.length_map]; exact hn) hls rfl (lv_room (by rw [scat_tr]; exact hsc)) hd ⟨hc1, hc2⟩) hS kk
  · intro w hw2
    simp only [wsV, List.mem_append, List.mem_cons, List.not_mem_nil, or_false] at hw2
    rcases hw2 with (rfl | rfl | rfl | rfl) | h
    · exact hw
    · exact w1
    · exact w2
    · exact v1
    · exact mwl_in hmi w h
  · show 8 + (mx mi + 11) + 38 * d ≤ R.locals
    omega
  · subst hC
    exact va_recv (q0 := 0) hG.1 hP hcc rfl
  · intro U hU hW
    have := pre_at (av := .ref x :: av) hG hH hS U hU hW
    rw [List.map_cons, tr_ref (by omega)] at this
    exact this
theorem r_stat (hx : p.tables.exec = Jvm.exec) (hb : c.code = cc) (hml : c.maxLocals = nL) (hown : s.vm.findClass own = some m.cls) (hts : ∀ w ∈ gw, w.before args s = true) (hG : Gl κ s) (hH : Hp κ z H) (hS : va_S (AA κ) s.heap H locs) (hls : lsA.size = nL) (hfr : d + 1 ≤ R.frames) (hlo : 38 * d + 38 ≤ R.locals)
    {mi k : Nat} (hmi : mi < 174) (hk3 : mk3 mi = 0) {av st' : List Value} {r : Option Value} {z' : ZS} (hM : Ctr κ l d mi av z r z') (hn : av.length = mp mi) (hw : Cond.methodLink own k (my mi) ∈ gw ∨ Cond.methodLinkNest own k (my mi) "ClubStrokes" ∈ nestW) (hsc : scat st' ≤ 8) (hc1 : cells + (zn z' - zn z) ≤ R.cells) (hc2 : slots + (zw z' - zw z) ≤ R.slots) (hd : decode cc pc = .ok (.invokestatic k, 3))
    (kk : ∀ (H1 : Heap) (locs1 : List Loc), Hp κ z' H1 → va_S (AA κ) s.heap H1 locs1 → W p l e R s m args below meth c H1 locs1 (cells + (zn z' - zn z)) (slots + (zw z' - zw z)) Q (F0 m (pc + 3) lsA ((r.map (tr κ)).toList ++ st'.map (tr κ)))) : W p l e R s m args below meth c H locs cells slots Q (F0 m pc lsA ((av.map (tr κ)).reverse ++ st'.map (tr κ))) := by
  obtain ⟨v1, v2, v3, v4, v5, v6, v7⟩ := vM_of hmi
  have w1 := vM_st hmi hk3
  have hM : Met l (my mi) (mwl mi) (rmD d z z') (Pre0 κ av z) (Qr κ r z') (zn z' - zn z) (zw z' - zw z) (AA κ) := hM
  have hlo' : 8 + (mx mi + 11) + (rmD d z z').locals ≤ R.locals := by show 8 + (mx mi + 11) + 38 * d ≤ R.locals; omega
  rcases hw with hw | hw
  · refine r_run (va_runS (As := av.map (tr κ)) (rest := st'.map (tr κ)) (nL := nL) ⟨hx, hb, hml, hown, hts⟩ hM (va_cwS (mp mi) hts (good_gw ?_) rfl rfl rfl ⟨v5, v6, v2⟩ ⟨hfr, hlo'⟩) ⟨pre_blind, pre_at hG hH hS⟩ rfl (by rw [List.length_map]; exact hn) hls rfl (lv_room (by rw [scat_tr]; exact hsc)) hd ⟨hc1, hc2⟩) hS kk
    intro w hw2
    simp only [va_wsS, List.mem_append, List.mem_cons, List.not_mem_nil, or_false] at hw2
    rcases hw2 with (rfl | rfl | rfl) | h
    · exact hw
    · exact w1
    · exact v1
    · exact mwl_in hmi w h
  · exact r_run (va_runSN (As := av.map (tr κ)) (rest := st'.map (tr κ)) (nL := nL) ⟨hx, hb, hml, hown, hts⟩ hM ⟨va_cnB (mp mi) hts (good_gw (mwl_in hmi)) rfl rfl rfl (hG.2.1 _ hw) (hts _ v1) ⟨v5, v6, v2⟩ ⟨hfr, hlo'⟩, hts _ w1, trivial⟩ ⟨pre_blind, pre_at hG hH hS⟩ rfl (by rw [List.length_map]; exact hn) hls rfl (lv_room (by rw [scat_tr]; exact hsc)) hd ⟨hc1, hc2⟩) hS kk
theorem r_init (hx : p.tables.exec = Jvm.exec) (hb : c.code = cc) (hml : c.maxLocals = nL) (hown : s.vm.findClass own = some m.cls) (hts : ∀ w ∈ gw, w.before args s = true) (hG : Gl κ s) (hH : Hp κ z H) (hS : va_S (AA κ) s.heap H locs) (hls : lsA.size = nL) (hfr : d + 1 ≤ R.frames) (hlo : 38 * d + 38 ≤ R.locals)
    {mi k x : Nat} (hx0 : x ≠ 0) (hmi : mi < 174) (hk3 : mk3 mi = 1) {av st' : List Value} {r : Option Value} {z' : ZS} (hM : Ctr κ l d mi (.ref x :: av) z r z') (hn : av.length = mp mi) (hw : Cond.methodLink own k (my mi) ∈ gw ∨ Cond.methodLinkNest own k (my mi) "ClubStrokes" ∈ nestW) (hsc : scat st' ≤ 8) (hc1 : cells + (zn z' - zn z) ≤ R.cells) (hc2 : slots + (zw z' - zw z) ≤ R.slots) (hd : decode cc pc = .ok (.invokespecial k, 3))
    (kk : ∀ (H1 : Heap) (locs1 : List Loc), Hp κ z' H1 → va_S (AA κ) s.heap H1 locs1 → W p l e R s m args below meth c H1 locs1 (cells + (zn z' - zn z)) (slots + (zw z' - zw z)) Q (F0 m (pc + 3) lsA ((r.map (tr κ)).toList ++ st'.map (tr κ)))) : W p l e R s m args below meth c H locs cells slots Q (F0 m pc lsA ((av.map (tr κ)).reverse ++ tr κ (.ref x) :: st'.map (tr κ))) := by
  obtain ⟨v1, v2, v3, v4, v5, v6, v7⟩ := vM_of hmi
  obtain ⟨w1, w2, w3⟩ := vM_in hmi hk3
  rw [tr_ref hx0]
  have hM : Met l (my mi) (mwl mi) (rmD d z z') (Pre0 κ (.ref x :: av) z) (Qr κ r z') (zn z' - zn z) (zw z' - zw z) (AA κ) := hM
  have hwl : mwl mi = Cond.code (my mi) (mb mi) (mx mi) none :: gw := by unfold mwl; rw [w3]
  have hlo' : 8 + (mx mi + 11) + (rmD d z z').locals ≤ R.locals := by show 8 + (mx mi + 11) + 38 * d ≤ R.locals; omega
  have hpre : ∀ U : State, U.heap = H → s.WarmedH U.vm → Pre0 κ (.ref x :: av) z (Value.ref (adr κ x) :: av.map (tr κ)).toArray U := by
    intro U hU hW
    have := pre_at (av := .ref x :: av) hG hH hS U hU hW
    rw [List.map_cons, tr_ref hx0] at this
    exact this
  rcases hw with hw | hw
  · exact r_run (va_runI (As := av.map (tr κ)) (b := adr κ x) (rest := st'.map (tr κ)) (nL := nL) ⟨hx, hb, hml, hown, hts⟩ hM (cwI (mp mi) hts (good_gw (mwl_in hmi)) hwl rfl rfl (hts _ v1) (hts _ hw) (hts _ w1) w2 ⟨v5, v6, v2⟩ ⟨hfr, hlo'⟩) ⟨pre_blind, hpre⟩ rfl (by rw [List.length_map]; exact hn) hls rfl (lv_room (by rw [scat_tr]; exact hsc)) hd ⟨hc1, hc2⟩) hS kk
  · exact r_run (va_runIN (As := av.map (tr κ)) (b := adr κ x) (rest := st'.map (tr κ)) (nL := nL) ⟨hx, hb, hml, hown, hts⟩ hM ⟨va_cnB (mp mi) hts (good_gw (mwl_in hmi)) hwl rfl rfl (hG.2.1 _ hw) (hts _ v1) ⟨v5, v6, v2⟩ ⟨hfr, hlo'⟩, w2, hts _ w1⟩ ⟨pre_blind, hpre⟩ rfl (by rw [List.length_map]; exact hn) hls rfl (lv_room (by rw [scat_tr]; exact hsc)) hd ⟨hc1, hc2⟩) hS kk
end CallRows
