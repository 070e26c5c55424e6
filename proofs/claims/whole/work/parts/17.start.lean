/-! The law's start: what the Statement gives, as the pure machine sees it. The rows lw_.. are the skeleton's; the rest is own work. -/
def lw_P (b : Addr) (xs : List Int32) (args : Array Value) (s : State) : Prop := args = #[.ref b] ∧ s.IntsAt b xs ∧ xs.length ≤ 2560 ∧ (Jvm.Cond.and given_1 narrow_1).before args s = true
def lw_Q (_ : Array Value) (s : State) (o : Outcome) (t : State) : Prop := o = .returned (some (.int 1)) ∧ Framed s o t [] 600000 7302250
def lw_Z (below : List Frame) (a : Array Value) (s : State) : State → Prop := fun t => ∃ o, t.status = .running ∧ Ended t below o ∧ lw_Q a s o t
/-- the law's own end, with 1 on the stack, nothing written that was there before, its room as the claim has it -/
theorem lw_ret {p : Program} {l : Launch} {e : Env} {s : State} {m : MethodId} {below : List Frame} {meth : Method} {c : Code} {b : Nat} (hx : p.tables.exec = Jvm.exec) (hb : c.code = code) (hr : meth.sig.returnType = ret) (hlocks : meth.locks = false) {pc : Nat} {H : Heap} {ls : Array Slot} (hdg : decode code pc = .ok (.ireturn, 1)) : W p l e room_1 s m #[Value.ref b] below meth c H [] 600000 7302250 (lw_Z below #[Value.ref b] s) (F0 m pc ls [.int 1]) := by
  intro T hT X
  obtain ⟨fs, hret, hrun, hended, hW, hframe⟩ := X.leave (v := some (.int 1)) (hlocks := hlocks) (fun h => by rw [hr] at h; cases h)
  have hmeth' : T.vm.method? m = some meth := X.method'
  refine ⟨T.setFrames fs, ?_, .returned (some (.int 1)), hrun, hended, rfl, ⟨_, rfl⟩, hW, hframe⟩
  jvm_step X.here [X.here.top, hx, hb, hdg, hmeth', hr, ret, narrow_b1]
  (try refine ⟨rfl, ?_⟩); (try refine ⟨rfl, ?_⟩)
  first | (intro acts; rw [hret _ acts rfl rfl rfl]) | rw [hret _ _ rfl rfl rfl]
  exact Steps.refl _
/-- what holds at the law's entry: the machine, the code, the tables' words (any of lw_tbl by 'hts w (by decide +kernel)'), the script of L ints xs at the cell b, what the Statement gives of the start (any of its parts by flat_of_before) -/
def lw_At (p : Program) (s : State) (m : MethodId) (meth : Method) (c : Code) (b L : Nat) (xs : Nat → Int32) : Prop :=
  p.tables.exec = Jvm.exec ∧ c.code = code ∧ meth.sig.returnType = ret ∧ c.maxLocals = 4 ∧ s.vm.findClass R_law = some m.cls ∧ (∀ w ∈ lw_tbl, w.before #[Value.ref b] s = true) ∧ va_X b L xs s s.heap ∧ b < s.heap.size ∧ meth.locks = false ∧ (Jvm.Cond.and given_1 narrow_1).before #[Value.ref b] s = true
def mkA : Nat → Int32
  | 3 => 1
  | 4 => 1
  | 5 => 1
  | 6 => 2
  | 7 => 2
  | 8 => 2
  | 9 => 3
  | 10 => 3
  | 11 => 3
  | 12 => 4
  | 13 => 4
  | 14 => 4
  | 15 => 5
  | 16 => 5
  | 17 => 6
  | 18 => 6
  | 19 => 7
  | 20 => 8
  | _ => 0
def tkA : Nat → Int32
  | 3 => 20
  | 4 => 10
  | 6 => 10
  | _ => 0
def pfA : Nat → Int32
  | 1 => 9
  | 2 => 12
  | 3 => 15
  | 4 => 17
  | _ => 0
def slnF (L : Nat) : Nat → Nat
  | 2 => 21 | 3 => 21 | 4 => 5 | 5 => L | _ => 0
def scnF (xs : Nat → Int32) : Nat → Nat → Int32
  | 2 => mkA | 3 => tkA | 4 => pfA | 5 => xs | _ => fun _ => 0
/-- the heap at the law's entry -/
def z00 (xs : Nat → Int32) (L : Nat) : ZS := (6, 0, fun x => if 1 ≤ x ∧ x < 6 then 3 else 0, slnF L, scnF xs, fun _ _ => 0)
/-- THE PURE CLAIM -/
def LawOK : Prop := ∀ (L : Nat) (xs : Nat → Int32), L ≤ 2560 → ∃ z' : ZS, zn z' ≤ 600006 ∧ zw z' ≤ 7302250 ∧ Rn 13 174 [.ref 5] (z00 xs L) (some (.int 1)) z'
def vRL : Bool := (tb 174).all (fun e => match e.2.2.1 with
  | .areturn => false
  | .return_ => false
  | _ => true)
theorem vRL_ok : vRL = true := by decide +kernel
theorem arr_of {s : State} {args : Array Value} {ty : FieldType} (h : (Cond.arrayClass ty).before args s = true) : ∃ cA, ArrOfT s cA ty ∧ s.vm.findClass ("[" ++ ty.toString) = some cA := by
  obtain ⟨c, k, comp, h1, h2, h3⟩ := Cond.arrayClass_spec h
  exact ⟨c, fun n z => ⟨fun k h => (by cases h), k, h2, comp, h3⟩, h1⟩
theorem aro_of {s : State} {args : Array Value} {C : String} (h : (Cond.arrayOver (.object C)).before args s = true) : ∃ cA, ArrOfT s cA (.object C) ∧ va_RA s cA (.object C) := by
  obtain ⟨comp, c, k, h1, h2, h3, h4, h5⟩ := Cond.arrayOver_spec h
  exact ⟨c, fun n z => ⟨fun k h => (by cases h), k, h3, comp, h4⟩, k, comp, h3, h4, h1, h5⟩
theorem el_no {s : State} {b : Nat} (hs : ∀ c ∈ flatC (Jvm.Cond.and given_1 narrow_1), c.before #[Value.ref b] s = true) : ∀ j : Nat, j < 0 → (Term.elem (.static "ClubStrokes" "NO_HOLES" "[I") (.int (Int32.ofNat j))).eval #[Value.ref b] s none [] s = some (.int ((fun _ => (0 : Int32)) j)) := by
  intro j hj
  omega
theorem el_mk {s : State} {b : Nat} (hs : ∀ c ∈ flatC (Jvm.Cond.and given_1 narrow_1), c.before #[Value.ref b] s = true) : ∀ j : Nat, j < 21 → (Term.elem (.static "ClubStrokes" "MAKING" "[I") (.int (Int32.ofNat j))).eval #[Value.ref b] s none [] s = some (.int (mkA j)) := by
  intro j hj
  rcases (show j = 0 ∨ j = 1 ∨ j = 2 ∨ j = 3 ∨ j = 4 ∨ j = 5 ∨ j = 6 ∨ j = 7 ∨ j = 8 ∨ j = 9 ∨ j = 10 ∨ j = 11 ∨ j = 12 ∨ j = 13 ∨ j = 14 ∨ j = 15 ∨ j = 16 ∨ j = 17 ∨ j = 18 ∨ j = 19 ∨ j = 20 by omega) with rfl | rfl | rfl | rfl | rfl | rfl | rfl | rfl | rfl | rfl | rfl | rfl | rfl | rfl | rfl | rfl | rfl | rfl | rfl | rfl | rfl
  · exact va_eqt (hs (.eq (.elem (.static "ClubStrokes" "MAKING" "[I") (.int (Int32.ofNat 0))) (.int 0)) (by decide +kernel))
  · exact va_eqt (hs (.eq (.elem (.static "ClubStrokes" "MAKING" "[I") (.int (Int32.ofNat 1))) (.int 0)) (by decide +kernel))
  · exact va_eqt (hs (.eq (.elem (.static "ClubStrokes" "MAKING" "[I") (.int (Int32.ofNat 2))) (.int 0)) (by decide +kernel))
  · exact va_eqt (hs (.eq (.elem (.static "ClubStrokes" "MAKING" "[I") (.int (Int32.ofNat 3))) (.int 1)) (by decide +kernel))
  · exact va_eqt (hs (.eq (.elem (.static "ClubStrokes" "MAKING" "[I") (.int (Int32.ofNat 4))) (.int 1)) (by decide +kernel))
  · exact va_eqt (hs (.eq (.elem (.static "ClubStrokes" "MAKING" "[I") (.int (Int32.ofNat 5))) (.int 1)) (by decide +kernel))
  · exact va_eqt (hs (.eq (.elem (.static "ClubStrokes" "MAKING" "[I") (.int (Int32.ofNat 6))) (.int 2)) (by decide +kernel))
  · exact va_eqt (hs (.eq (.elem (.static "ClubStrokes" "MAKING" "[I") (.int (Int32.ofNat 7))) (.int 2)) (by decide +kernel))
  · exact va_eqt (hs (.eq (.elem (.static "ClubStrokes" "MAKING" "[I") (.int (Int32.ofNat 8))) (.int 2)) (by decide +kernel))
  · exact va_eqt (hs (.eq (.elem (.static "ClubStrokes" "MAKING" "[I") (.int (Int32.ofNat 9))) (.int 3)) (by decide +kernel))
  · exact va_eqt (hs (.eq (.elem (.static "ClubStrokes" "MAKING" "[I") (.int (Int32.ofNat 10))) (.int 3)) (by decide +kernel))
  · exact va_eqt (hs (.eq (.elem (.static "ClubStrokes" "MAKING" "[I") (.int (Int32.ofNat 11))) (.int 3)) (by decide +kernel))
  · exact va_eqt (hs (.eq (.elem (.static "ClubStrokes" "MAKING" "[I") (.int (Int32.ofNat 12))) (.int 4)) (by decide +kernel))
  · exact va_eqt (hs (.eq (.elem (.static "ClubStrokes" "MAKING" "[I") (.int (Int32.ofNat 13))) (.int 4)) (by decide +kernel))
  · exact va_eqt (hs (.eq (.elem (.static "ClubStrokes" "MAKING" "[I") (.int (Int32.ofNat 14))) (.int 4)) (by decide +kernel))
  · exact va_eqt (hs (.eq (.elem (.static "ClubStrokes" "MAKING" "[I") (.int (Int32.ofNat 15))) (.int 5)) (by decide +kernel))
  · exact va_eqt (hs (.eq (.elem (.static "ClubStrokes" "MAKING" "[I") (.int (Int32.ofNat 16))) (.int 5)) (by decide +kernel))
  · exact va_eqt (hs (.eq (.elem (.static "ClubStrokes" "MAKING" "[I") (.int (Int32.ofNat 17))) (.int 6)) (by decide +kernel))
  · exact va_eqt (hs (.eq (.elem (.static "ClubStrokes" "MAKING" "[I") (.int (Int32.ofNat 18))) (.int 6)) (by decide +kernel))
  · exact va_eqt (hs (.eq (.elem (.static "ClubStrokes" "MAKING" "[I") (.int (Int32.ofNat 19))) (.int 7)) (by decide +kernel))
  · exact va_eqt (hs (.eq (.elem (.static "ClubStrokes" "MAKING" "[I") (.int (Int32.ofNat 20))) (.int 8)) (by decide +kernel))
theorem el_tk {s : State} {b : Nat} (hs : ∀ c ∈ flatC (Jvm.Cond.and given_1 narrow_1), c.before #[Value.ref b] s = true) : ∀ j : Nat, j < 21 → (Term.elem (.static "ClubStrokes" "TAKEN_OFF" "[I") (.int (Int32.ofNat j))).eval #[Value.ref b] s none [] s = some (.int (tkA j)) := by
  intro j hj
  rcases (show j = 0 ∨ j = 1 ∨ j = 2 ∨ j = 3 ∨ j = 4 ∨ j = 5 ∨ j = 6 ∨ j = 7 ∨ j = 8 ∨ j = 9 ∨ j = 10 ∨ j = 11 ∨ j = 12 ∨ j = 13 ∨ j = 14 ∨ j = 15 ∨ j = 16 ∨ j = 17 ∨ j = 18 ∨ j = 19 ∨ j = 20 by omega) with rfl | rfl | rfl | rfl | rfl | rfl | rfl | rfl | rfl | rfl | rfl | rfl | rfl | rfl | rfl | rfl | rfl | rfl | rfl | rfl | rfl
  · exact va_eqt (hs (.eq (.elem (.static "ClubStrokes" "TAKEN_OFF" "[I") (.int (Int32.ofNat 0))) (.int 0)) (by decide +kernel))
  · exact va_eqt (hs (.eq (.elem (.static "ClubStrokes" "TAKEN_OFF" "[I") (.int (Int32.ofNat 1))) (.int 0)) (by decide +kernel))
  · exact va_eqt (hs (.eq (.elem (.static "ClubStrokes" "TAKEN_OFF" "[I") (.int (Int32.ofNat 2))) (.int 0)) (by decide +kernel))
  · exact va_eqt (hs (.eq (.elem (.static "ClubStrokes" "TAKEN_OFF" "[I") (.int (Int32.ofNat 3))) (.int 20)) (by decide +kernel))
  · exact va_eqt (hs (.eq (.elem (.static "ClubStrokes" "TAKEN_OFF" "[I") (.int (Int32.ofNat 4))) (.int 10)) (by decide +kernel))
  · exact va_eqt (hs (.eq (.elem (.static "ClubStrokes" "TAKEN_OFF" "[I") (.int (Int32.ofNat 5))) (.int 0)) (by decide +kernel))
  · exact va_eqt (hs (.eq (.elem (.static "ClubStrokes" "TAKEN_OFF" "[I") (.int (Int32.ofNat 6))) (.int 10)) (by decide +kernel))
  · exact va_eqt (hs (.eq (.elem (.static "ClubStrokes" "TAKEN_OFF" "[I") (.int (Int32.ofNat 7))) (.int 0)) (by decide +kernel))
  · exact va_eqt (hs (.eq (.elem (.static "ClubStrokes" "TAKEN_OFF" "[I") (.int (Int32.ofNat 8))) (.int 0)) (by decide +kernel))
  · exact va_eqt (hs (.eq (.elem (.static "ClubStrokes" "TAKEN_OFF" "[I") (.int (Int32.ofNat 9))) (.int 0)) (by decide +kernel))
  · exact va_eqt (hs (.eq (.elem (.static "ClubStrokes" "TAKEN_OFF" "[I") (.int (Int32.ofNat 10))) (.int 0)) (by decide +kernel))
  · exact va_eqt (hs (.eq (.elem (.static "ClubStrokes" "TAKEN_OFF" "[I") (.int (Int32.ofNat 11))) (.int 0)) (by decide +kernel))
  · exact va_eqt (hs (.eq (.elem (.static "ClubStrokes" "TAKEN_OFF" "[I") (.int (Int32.ofNat 12))) (.int 0)) (by decide +kernel))
  · exact va_eqt (hs (.eq (.elem (.static "ClubStrokes" "TAKEN_OFF" "[I") (.int (Int32.ofNat 13))) (.int 0)) (by decide +kernel))
  · exact va_eqt (hs (.eq (.elem (.static "ClubStrokes" "TAKEN_OFF" "[I") (.int (Int32.ofNat 14))) (.int 0)) (by decide +kernel))
  · exact va_eqt (hs (.eq (.elem (.static "ClubStrokes" "TAKEN_OFF" "[I") (.int (Int32.ofNat 15))) (.int 0)) (by decide +kernel))
  · exact va_eqt (hs (.eq (.elem (.static "ClubStrokes" "TAKEN_OFF" "[I") (.int (Int32.ofNat 16))) (.int 0)) (by decide +kernel))
  · exact va_eqt (hs (.eq (.elem (.static "ClubStrokes" "TAKEN_OFF" "[I") (.int (Int32.ofNat 17))) (.int 0)) (by decide +kernel))
  · exact va_eqt (hs (.eq (.elem (.static "ClubStrokes" "TAKEN_OFF" "[I") (.int (Int32.ofNat 18))) (.int 0)) (by decide +kernel))
  · exact va_eqt (hs (.eq (.elem (.static "ClubStrokes" "TAKEN_OFF" "[I") (.int (Int32.ofNat 19))) (.int 0)) (by decide +kernel))
  · exact va_eqt (hs (.eq (.elem (.static "ClubStrokes" "TAKEN_OFF" "[I") (.int (Int32.ofNat 20))) (.int 0)) (by decide +kernel))
theorem el_pf {s : State} {b : Nat} (hs : ∀ c ∈ flatC (Jvm.Cond.and given_1 narrow_1), c.before #[Value.ref b] s = true) : ∀ j : Nat, j < 5 → (Term.elem (.static "ClubStrokes" "PLACED_FROM" "[I") (.int (Int32.ofNat j))).eval #[Value.ref b] s none [] s = some (.int (pfA j)) := by
  intro j hj
  rcases (show j = 0 ∨ j = 1 ∨ j = 2 ∨ j = 3 ∨ j = 4 by omega) with rfl | rfl | rfl | rfl | rfl
  · exact va_eqt (hs (.eq (.elem (.static "ClubStrokes" "PLACED_FROM" "[I") (.int (Int32.ofNat 0))) (.int 0)) (by decide +kernel))
  · exact va_eqt (hs (.eq (.elem (.static "ClubStrokes" "PLACED_FROM" "[I") (.int (Int32.ofNat 1))) (.int 9)) (by decide +kernel))
  · exact va_eqt (hs (.eq (.elem (.static "ClubStrokes" "PLACED_FROM" "[I") (.int (Int32.ofNat 2))) (.int 12)) (by decide +kernel))
  · exact va_eqt (hs (.eq (.elem (.static "ClubStrokes" "PLACED_FROM" "[I") (.int (Int32.ofNat 3))) (.int 15)) (by decide +kernel))
  · exact va_eqt (hs (.eq (.elem (.static "ClubStrokes" "PLACED_FROM" "[I") (.int (Int32.ofNat 4))) (.int 17)) (by decide +kernel))
theorem known {s : State} {b : Nat} (hts : ∀ w ∈ lw_tbl, w.before #[Value.ref b] s = true) : ∃ (dC : Nat → ClassId) (dI : Nat → Nat → Nat), ∀ (k : Nat) (q : vw_C), cls[k]? = some q → u_Kn s q.1 q.2.1 q.2.2 (dC k) (dI k) := by
  have key : ∀ k : Nat, ∃ (c : ClassId) (i : Nat → Nat), ∀ q : vw_C, cls[k]? = some q → u_Kn s q.1 q.2.1 q.2.2 c i := by
    intro k
    cases hk : cls[k]? with
    | none => exact ⟨0, fun _ => 0, fun q h => by cases h⟩
    | some q =>
      obtain ⟨C, T, N⟩ := q
      have hg : ∀ w ∈ gw, w.before #[Value.ref b] s = true := fun w hw => hts w (List.mem_filter.mp hw).1
      obtain ⟨c, i, h⟩ := u_known (C := C) (T := T) (N := N) (n := N) hg (clOK hk).1 (hg _ (inst_in _ _ _ _ hk).1)
      exact ⟨c, i, fun q h2 => by cases h2; exact h⟩
  exact ⟨fun k => Classical.choose (key k), fun k => Classical.choose (Classical.choose_spec (key k)), fun k q h => Classical.choose_spec (Classical.choose_spec (key k)) q h⟩
set_option maxHeartbeats 4000000 in
theorem start_of (hLaw : LawOK) (hvl : (tb 174).all (vE (my 174).cls (mb 174) (tb 174) (mx 174) false) = true) {p : Program} {e : Env} {s : State} {m : MethodId} {below : List Frame} {meth : Method} {c : Code} (l : Launch) {b L : Nat} {xs : Nat → Int32} (hL : L ≤ 2560) (C0 : lw_At p s m meth c b L xs) : W p l e room_1 s m #[Value.ref b] below meth c s.heap [] 0 0 (lw_Z below #[Value.ref b] s) (entryFrame m ([Value.ref b] : List Value).toArray 4) := by
  obtain ⟨hx, hb, hr, hml, hown, hts, hX, hbl, hlocks, hgv⟩ := C0
  have hs := flat_of_before _ hgv
  have hgw : ∀ w ∈ gw, w.before #[Value.ref b] s = true := fun w hw => hts w (List.mem_filter.mp hw).1
  obtain ⟨dC, dI, hKn⟩ := known hts
  obtain ⟨c1, a1, b1⟩ := arr_of (hts (.arrayClass .int) (by decide +kernel))
  obtain ⟨c2, a2, b2⟩ := arr_of (hts (.arrayClass .boolean) (by decide +kernel))
  obtain ⟨c4, a4, b4⟩ := aro_of (hts (.arrayOver (.object RC2)) (by decide +kernel))
  obtain ⟨c5, a5, b5⟩ := aro_of (hts (.arrayOver (.object RC3)) (by decide +kernel))
  obtain ⟨c6, a6, b6⟩ := aro_of (hts (.arrayOver (.object RC1)) (by decide +kernel))
  have hA : ∀ q : Nat, q < s.heap.size → ¬ (fun q : Nat => s.heap.size ≤ q) q := fun q h => Nat.not_le.mpr h
  have hini := hts (.initialized "ClubStrokes") (by decide +kernel)
  obtain ⟨t1, e1, T1⟩ := va_Tof (N := 0) (f := fun j => .int ((fun _ => (0 : Int32)) j)) (A := fun q : Nat => s.heap.size ≤ q) (by decide) (hs (.arrayOf (.static "ClubStrokes" "NO_HOLES" "[I") .int) (by decide +kernel)) (va_eqt (hs (.eq (.length (.static "ClubStrokes" "NO_HOLES" "[I")) (.int (Int32.ofNat 0))) (by decide +kernel))) (el_no hs) hA
  obtain ⟨t2, e2, T2⟩ := va_Tof (N := 21) (f := fun j => .int (mkA j)) (A := fun q : Nat => s.heap.size ≤ q) (by decide) (hs (.arrayOf (.static "ClubStrokes" "MAKING" "[I") .int) (by decide +kernel)) (va_eqt (hs (.eq (.length (.static "ClubStrokes" "MAKING" "[I")) (.int (Int32.ofNat 21))) (by decide +kernel))) (el_mk hs) hA
  obtain ⟨t3, e3, T3⟩ := va_Tof (N := 21) (f := fun j => .int (tkA j)) (A := fun q : Nat => s.heap.size ≤ q) (by decide) (hs (.arrayOf (.static "ClubStrokes" "TAKEN_OFF" "[I") .int) (by decide +kernel)) (va_eqt (hs (.eq (.length (.static "ClubStrokes" "TAKEN_OFF" "[I")) (.int (Int32.ofNat 21))) (by decide +kernel))) (el_tk hs) hA
  obtain ⟨t4, e4, T4⟩ := va_Tof (N := 5) (f := fun j => .int (pfA j)) (A := fun q : Nat => s.heap.size ≤ q) (by decide) (hs (.arrayOf (.static "ClubStrokes" "PLACED_FROM" "[I") .int) (by decide +kernel)) (va_eqt (hs (.eq (.length (.static "ClubStrokes" "PLACED_FROM" "[I")) (.int (Int32.ofNat 5))) (by decide +kernel))) (el_pf hs) hA
  obtain ⟨κ, hκ⟩ : ∃ κ : KP, κ = (s.heap.size, (fun x => if x = 1 then t1 else if x = 2 then t2 else if x = 3 then t3 else if x = 4 then t4 else b), (fun t => if t = 1 then c1 else if t = 2 then c2 else if t = 4 then c4 else if t = 5 then c5 else c6), (dC, dI), slnF L, scnF xs) := ⟨_, rfl⟩
  have hG : Gl κ s := by
    subst hκ
    refine ⟨⟨hKn, fun k q hk => ?_⟩, fun w hw => va_Nw.of (nest_tab w hw) (hts w (nestW_in w hw)), va_AO.of (hts (.arrayOver (.object RC2)) (by decide +kernel)), va_AO.of (hts (.arrayOver (.object RC3)) (by decide +kernel)), va_AO.of (hts (.arrayOver (.object RC1)) (by decide +kernel)), Nat.le_refl _, fun x h1 h2 => ?_, fun x h1 h2 => ?_⟩
    · match k, hk with
      | 0, hk => cases hk; exact ⟨a1, b1⟩
      | 1, hk => cases hk; exact ⟨a2, b2⟩
      | 2, hk => cases hk; exact ⟨a4, b4⟩
      | 3, hk => cases hk; exact ⟨a5, b5⟩
      | 4, hk => cases hk; exact ⟨a6, b6⟩
      | k + 5, hk => simp [atys] at hk
    · rcases (show x = 1 ∨ x = 2 ∨ x = 3 ∨ x = 4 by omega) with rfl | rfl | rfl | rfl
      · exact va_Zref (hts (.laysStatic "ClubStrokes" "NO_HOLES" "[I") (by decide +kernel)) hini e1 hA
      · exact va_Zref (hts (.laysStatic "ClubStrokes" "MAKING" "[I") (by decide +kernel)) hini e2 hA
      · exact va_Zref (hts (.laysStatic "ClubStrokes" "TAKEN_OFF" "[I") (by decide +kernel)) hini e3 hA
      · exact va_Zref (hts (.laysStatic "ClubStrokes" "PLACED_FROM" "[I") (by decide +kernel)) hini e4 hA
    · rcases (show x = 1 ∨ x = 2 ∨ x = 3 ∨ x = 4 ∨ x = 5 by omega) with rfl | rfl | rfl | rfl | rfl
      · exact T1
      · exact T2
      · exact T3
      · exact T4
      · obtain ⟨scr, g1, g2, g3, g4, g5⟩ := hX
        exact ⟨scr, g1, g2, g3, by rw [g4]; exact Nat.le_refl _, by rw [g4]; rfl, fun j hj => g5 j hj, hA b hbl⟩
  have hk1 : κ.1 = s.heap.size := by rw [hκ]
  have hk5 : tr κ (.ref 5) = .ref b := by rw [hκ]; rfl
  have hH : Hp κ (z00 xs L) s.heap := by
    subst hκ
    refine ⟨rfl, Nat.le_refl _, fun x h1 h2 => absurd h2 (Nat.not_lt.mpr h1), fun x h1 => ?_, rfl, fun x h1 h2 => ⟨?_, rfl, fun j => rfl⟩⟩
    · have h1 : 6 ≤ x := h1
      show (if 1 ≤ x ∧ x < 6 then 3 else 0) = 0
      rw [if_neg (by omega)]
    · show (if 1 ≤ x ∧ x < 6 then 3 else 0) = 3
      rw [if_pos ⟨h1, h2⟩]
  clear hκ
  obtain ⟨z', hz1, hz2, hrn⟩ := hLaw L xs hL
  obtain ⟨-, -, -, HK⟩ := hrn
  have hall := List.all_eq_true.mp hvl
  have hret := List.all_eq_true.mp vRL_ok
  have hS : Sf (Rn 12) (tb 174) (fun r1 z1 => r1 = some (.int 1) ∧ z1 = z') (GG κ p l e room_1 s m #[Value.ref b] below meth c 4 (lw_Z below #[Value.ref b] s) (z00 xs L) z') := by
    refine sf_G (cc := mb 174) (own := (my 174).cls) (ini := false) (fun {en} hen {kk} hkk hkb {ls st zz} hs => ?_) (tb_len 174 (by omega))
    refine step_G (pI := True) (pA := False) (pV := False) ⟨hx, hb, hml, hown, hgw, hG, ?_, ?_, (by decide), (by decide), (fun mi av z r z' h1 h2 => snd κ l 12 mi av z r z' h1 h2), (fun q => by cases q), (fun v z1 h => by rw [h.2]; exact zle.rf _), ?_, (fun q => q.elim), (fun q => q.elim)⟩ (hall en hen) (fun _ => trivial) ?_ ?_ hkk hkb hs
    · show zn z' - 6 ≤ 600000
      omega
    · show zw z' - 0 ≤ 7302250
      omega
    · rintro - x z1 H locs lsA pc ⟨h1, rfl⟩ hz hH1 hS1 hd
      cases h1
      refine va_forget (fun q hq => by rw [← hk1]; exact hS1.2.2 q hq) ?_
      refine W.widen (k := 600000) (n := 7302250) (by show zn z1 - 6 ≤ _; omega) (by show zw z1 - 0 ≤ _; omega) ?_
      exact lw_ret hx hb hr hlocks hd
    · intro q
      have := hret en hen
      rw [q] at this
      cases this
    · intro q
      have := hret en hen
      rw [q] at this
      cases this
  have hK := HK _ hS
  have hLH := LH.entry κ (n := 4) (av := [.ref 5]) (by decide)
  have := hK.2 s.heap [] _ (zle.rf _) hH va_S.rf hLH
  rw [Nat.sub_self, Nat.sub_self] at this
  rw [lg_entry_eq]
  rw [show ([Value.ref 5].map (tr κ)) = [Value.ref b] by rw [List.map_cons, hk5]; rfl] at this
  exact this
