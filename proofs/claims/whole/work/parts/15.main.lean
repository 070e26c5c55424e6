/-! Soundness, fifth part: every run is a contract. Own work. -/
theorem gt_mem : ∀ (l : List Ez) (i : Nat) (e : Ez), gt l i = some e → e ∈ l
  | [], i, e, h => by cases h
  | a :: l, 0, e, h => by cases h; exact List.mem_cons_self
  | a :: l, i + 1, e, h => List.mem_cons_of_mem _ (gt_mem l i e h)
theorem gt_none : ∀ (l : List Ez) (i : Nat), l.length ≤ i → gt l i = none
  | [], i, h => rfl
  | a :: l, 0, h => by simp at h
  | a :: l, i + 1, h => gt_none l i (by simpa using h)
theorem pcA_some {full : List Ez} {i : Nat} {e : Ez} (h : gt full i = some e) : pcA full i = e.1 := by unfold pcA; rw [h]
section Sound2
variable {κ : KP} {p : Program} {l : Launch} {e : Env} {R : Room} {s : State} {m : MethodId} {args : Array Value} {below : List Frame} {meth : Method} {c : Code} {nL : Nat} {Q : State → Prop} {z0 zF : ZS}
variable {cc : ByteArray} {own : String} {full : List Ez} {d : Nat} {Rt : Option Value → ZS → Prop} {ini : Bool}
/-- what a method's walk rests on -/
def SX (κ : KP) (p : Program) (l : Launch) (e : Env) (R : Room) (s : State) (m : MethodId) (args : Array Value) (below : List Frame) (meth : Method) (c : Code) (nL : Nat) (Q : State → Prop) (z0 zF : ZS) (cc : ByteArray) (own : String) (full : List Ez) (d : Nat) (Rt : Option Value → ZS → Prop) (ini : Bool) : Prop :=
  ∀ {en : Ez}, en ∈ full → ∀ {kk : Zt → Prop}, (∀ i ls st z, kk (i, ls, st, z) → GG κ p l e R s m args below meth c nL Q z0 zF (pcA full i) ls st z) → (∀ ls st z, ¬ kk (99999, ls, st, z)) → ∀ {ls st : List Value} {z : ZS}, stp (Rn d) Rt kk (nx full en en.2.2.2.2.2.2.2 ls st z) → GG κ p l e R s m args below meth c nL Q z0 zF en.1 ls st z
theorem wq_G (h : SX κ p l e R s m args below meth c nL Q z0 zF cc own full d Rt ini) (hl : full.length ≤ 99999) : ∀ (n i : Nat) (ls st : List Value) (z : ZS), wq (Rn d) full Rt (GG κ p l e R s m args below meth c nL Q z0 zF) n (i, ls, st, z) → GG κ p l e R s m args below meth c nL Q z0 zF (pcA full i) ls st z
  | 0, i, ls, st, z, H => by
    unfold wq at H
    split at H
    · rename_i en he
      rw [pcA_some he]; exact H
    · exact H.elim
  | n + 1, i, ls, st, z, H => by
    unfold wq at H
    split at H
    · rename_i en he
      rw [pcA_some he]
      cases hc : Nat.beq en.2.1 1 with
      | true => rw [hc] at H; exact H
      | false =>
        rw [hc] at H
        exact h (gt_mem _ _ _ he) (fun i ls st z q => wq_G h hl n i ls st z q) (fun ls st z q => by
          have hg : gt full 99999 = none := gt_none full 99999 hl
          cases n with
          | zero => unfold wq at q; rw [hg] at q; exact q
          | succ n => unfold wq at q; rw [hg] at q; exact q) H
    · exact H.elim
theorem sf_G (h : SX κ p l e R s m args below meth c nL Q z0 zF cc own full d Rt ini) (hl : full.length ≤ 99999) : Sf (Rn d) full Rt (GG κ p l e R s m args below meth c nL Q z0 zF) := by
  intro i ls st z hw
  unfold wp at hw
  split at hw
  · rename_i en he
    rw [pcA_some he]
    exact h (gt_mem _ _ _ he) (fun i ls st z q => wq_G (cc := cc) (own := own) (ini := ini) h hl 400 i ls st z q) (fun ls st z q => by
      have hg : gt full 99999 = none := gt_none full 99999 hl
      unfold wq at q
      rw [hg] at q
      exact q) hw
  · exact hw.elim
end Sound2
/-- as Met.ofW, by the method's name -/
theorem metWF {l : Launch} {y : MethodName} {ws ws' : List Cond} {rm : Room} {Pc : Array Value → State → Prop} {Qc : Array Value → State → Outcome → State → Prop} {mc ms : Nat} {free : Addr → Prop} {cc : ByteArray} {maxL : Nat} {ret : Option FieldType}
    (hy : plainFor y = true) (hw : ws = Cond.code y cc maxL ret :: ws')
    (body : ∀ p e s m args below meth c s₁, BodyLoose p l y (headSpec ws rm) cc maxL ret e s m args below meth c s₁ → c.maxLocals = maxL → Pc args s →
      W p l e (headSpec ws rm).room s m args below meth c s.heap [] 0 0 (MQ below Qc args s mc ms free) (entryFrame m args maxL)) : Met l y ws rm Pc Qc mc ms free := by
  refine MetFree.of_bodySF (code := cc) (maxLocals := maxL) (ret := ret) hy ?_ ?_
  · intro args s m h hn
    obtain ⟨meth, c, h1, h2, h3, h4, h5, h6, -, -⟩ := Cond.code_spec hn (atoms_spec (ws := ws) h _ (by rw [hw]; exact List.mem_cons_self))
    exact ⟨meth, c, h1, h2, h3, h4, h5, h6⟩
  · intro p e s m args below meth c s₁ B hml hP _
    have hh0 : s₁.heap = s.heap := by rw [B.state]; rfl
    obtain ⟨t, a1, o, b1, b2, b3⟩ := body p e s m args below meth c s₁ B hml hP s₁ hh0 (Stand.of_body B)
    exact ⟨t, o, a1, b1, b2, ⟨b3.1, b3.2⟩⟩
/-- the locals at the entry -/
theorem ent_len {n : Nat} {av : List Value} (h : (en0 av).length ≤ n) : (ent n av).length = n := by
  unfold ent
  rw [List.length_append, List.length_replicate]; omega
theorem en0_sl (κ : KP) : ∀ av : List Value, (lg_sl (av.map (tr κ))).length = (en0 av).length ∧ ∀ (i : Nat) (v : Value), lk (en0 av) i = v → v ≠ .null → (lg_sl (av.map (tr κ)))[i]? = some (.val (tr κ v))
  | [] => ⟨rfl, fun i v h hv => absurd h.symm hv⟩
  | u :: r => by
    obtain ⟨h1, h2⟩ := en0_sl κ r
    have hc := tr_cat κ u
    rcases lv_cat u with h | h
    · have e1 : en0 (u :: r) = u :: en0 r := by simp only [en0, h]
      have e2 : lg_sl ((u :: r).map (tr κ)) = .val (tr κ u) :: lg_sl (r.map (tr κ)) := by
        unfold lg_sl
        rw [List.map_cons, List.flatMap_cons, if_neg (by rw [hc, h]; decide)]
        rfl
      rw [e1, e2]
      refine ⟨by simp [h1], fun i v hi hv => ?_⟩
      cases i with
      | zero => simp only [lk] at hi; rw [hi]; rfl
      | succ i => simp only [lk] at hi; simpa using h2 i v hi hv
    · have e1 : en0 (u :: r) = u :: .null :: en0 r := by simp only [en0, h]
      have e2 : lg_sl ((u :: r).map (tr κ)) = .val (tr κ u) :: .second :: lg_sl (r.map (tr κ)) := by
        unfold lg_sl
        rw [List.map_cons, List.flatMap_cons, if_pos (by rw [hc, h])]
        rfl
      rw [e1, e2]
      refine ⟨by simp [h1], fun i v hi hv => ?_⟩
      match i with
      | 0 => simp only [lk] at hi; rw [hi]; rfl
      | 1 => simp only [lk] at hi; exact absurd hi.symm hv
      | i + 2 => simp only [lk] at hi; simpa using h2 i v hi hv
theorem lk_app : ∀ (l r : List Value) (i : Nat), lk (l ++ r) i = if i < l.length then lk l i else lk r (i - l.length)
  | [], r, i => by simp
  | a :: l, r, 0 => by simp [lk]
  | a :: l, r, i + 1 => by
    simp only [List.cons_append, lk, lk_app l r i, List.length_cons, Nat.add_lt_add_iff_right, Nat.add_sub_add_right]
theorem lk_rep : ∀ (n i : Nat), lk (List.replicate n Value.null) i = .null
  | 0, _ => rfl
  | n + 1, 0 => rfl
  | n + 1, i + 1 => lk_rep n i
theorem LH.entry (κ : KP) {n : Nat} {av : List Value} (h : (en0 av).length ≤ n) : LH κ n ((lg_sl (av.map (tr κ)) ++ List.replicate (n - (lg_sl (av.map (tr κ))).length) Slot.unset).toArray) (ent n av) := by
  obtain ⟨h1, h2⟩ := en0_sl κ av
  have hl := lv_entry (av.map (tr κ)) (n := n) (by rw [h1]; exact h)
  refine ⟨hl.1, hl.2.1, ent_len h, fun i v hi hv => ?_⟩
  unfold ent at hi
  rw [lk_app] at hi
  split at hi
  · rename_i hlt
    have := h2 i v hi hv
    rw [List.getElem?_toArray, List.getElem?_append_left (by rw [h1]; exact hlt)]
    exact this
  · rw [lk_rep] at hi; exact absurd hi.symm hv
def vR (mi : Nat) : Bool := (tb mi).all (fun e => match e.2.2.1 with
  | .ireturn => decide (mr mi = some .int ∨ mr mi = some .boolean)
  | .areturn => (match mr mi with
    | some t => t.isReference
    | none => false)
  | .return_ => decide (mr mi = none)
  | _ => true)
theorem vR_ok : ∀ mi, mi < 174 → vR mi = true := by decide +kernel
theorem tb_len : ∀ mi, mi < 175 → (tb mi).length ≤ 99999 := by decide +kernel
theorem ref_ty {t : FieldType} (h : t.isReference = true) : (∃ n, t = .object n) ∨ ∃ u, t = .array u := by
  cases t <;> first | exact Or.inl ⟨_, rfl⟩ | exact Or.inr ⟨_, rfl⟩ | cases h
set_option maxHeartbeats 4000000 in
theorem snd (κ : KP) (l : Launch) : ∀ (d mi : Nat) (av : List Value) (z : ZS) (r : Option Value) (z' : ZS), mi < 174 → Rn d mi av z r z' → Ctr κ l d mi av z r z'
  | 0, mi, av, z, r, z', _, H => H.elim
  | d + 1, mi, av, z, r, z', hmi, H => by
    obtain ⟨v1, v2, v3, v4, v5, v6, v7⟩ := vM_of hmi
    refine metWF (cc := mb mi) (maxL := mx mi) (ret := mr mi) v4 rfl ?_
    intro p e s m args below meth c s₁ B hml hv
    obtain ⟨rfl, hG, hH⟩ := hv
    have hx := B.exec
    have hb := B.bytes
    have hr := B.returns
    have hts : ∀ w ∈ gw, w.before (av.map (tr κ)).toArray s = true := fun w hw => atoms_spec (ws := mwl mi) B.pre w (List.mem_cons_of_mem _ hw)
    have hown : s.vm.findClass (my mi).cls = some m.cls := findClass_of_methodNamed B.named
    have hlocks := B.notSynchronized
    have hin : mini mi = true → meth.name = "<init>" := fun q => by
      rw [(name_of_methodNamed B.named B.method).1]
      exact (vM_in hmi (Nat.eq_of_beq_eq_true q)).2.1
    obtain ⟨-, hok, hle, HK⟩ := H
    have hle := Nat.le_of_ble_eq_true hle
    have hall := List.all_eq_true.mp (vTOK mi hmi)
    have hret := List.all_eq_true.mp (vR_ok mi hmi)
    have hS : Sf (Rn d) (tb mi) (fun r1 z1 => r1 = r ∧ z1 = z') (GG κ p l e (headSpec (mwl mi) (rmD (d + 1) z z')).room s m (av.map (tr κ)).toArray below meth c (mx mi) (MQ below (Qr κ r z') (av.map (tr κ)).toArray s (zn z' - zn z) (zw z' - zw z) (AA κ)) z z') := by
      refine sf_G (cc := mb mi) (own := (my mi).cls) (ini := mini mi) (fun {en} hen {kk} hkk hkb {ls st zz} hs => ?_) (tb_len mi (by omega))
      refine step_G (pI := mr mi = some .int ∨ mr mi = some .boolean) (pA := ∃ t, mr mi = some t ∧ t.isReference = true) (pV := mr mi = none) ⟨hx, hb, hml, hown, hts, hG, Nat.le_refl _, Nat.le_refl _, Nat.le_refl _, (by show 38 * d + 38 ≤ 38 * (d + 1); omega), (fun mi av z r z' h1 h2 => snd κ l d mi av z r z' h1 h2), hin, (fun v z1 h => by rw [h.2]; exact zle.rf _), ?_, ?_, ?_⟩ (hall en hen) ?_ ?_ ?_ hkk hkb hs
      · rintro hp x z1 H locs lsA pc ⟨h1, rfl⟩ hz hH1 hS1 hd
        subst h1
        rcases hp with hp | hp
        · exact W.iret hx hb (hr.trans hp) (fun t ht hW => ⟨rfl, by rw [ht]; exact hH1, hS1.F ht⟩) hS1.2.2 hd
        · have hok' : some (Value.int x) = some (.int 0) ∨ some (Value.int x) = some (.int 1) := by
            unfold okr at hok
            rw [v7.mpr hp] at hok
            exact hok
          refine W.zret hx hb (hr.trans hp) ?_ (fun t ht hW => ⟨rfl, by rw [ht]; exact hH1, hS1.F ht⟩) hS1.2.2 hd
          rcases hok' with q | q <;> cases q <;> rfl
      · rintro ⟨t, hp, hp2⟩ x z1 H locs lsA pc ⟨h1, rfl⟩ hz hH1 hS1 hd
        subst h1
        exact W.aret hx hb (hr.trans hp) (ref_ty hp2) (va_rf_or _) (fun t ht hW => ⟨rfl, by rw [ht]; exact hH1, hS1.F ht⟩) hS1.2.2 hd
      · rintro hp z1 H locs lsA pc ⟨h1, rfl⟩ hz hH1 hS1 hd
        subst h1
        exact W.vret hx hb (hr.trans hp) (fun t ht hW => ⟨rfl, by rw [ht]; exact hH1, hS1.F ht⟩) hS1.2.2 hd
      · intro q
        have := hret en hen
        rw [q] at this
        exact of_decide_eq_true this
      · intro q
        have := hret en hen
        rw [q] at this
        dsimp only at this
        split at this
        · rename_i t ht; exact ⟨t, ht, this⟩
        · cases this
      · intro q
        have := hret en hen
        rw [q] at this
        exact of_decide_eq_true this
    have hK := HK _ hS
    have := hK.2 s.heap [] _ (zle.rf z) hH va_S.rf (LH.entry κ hle)
    rw [Nat.sub_self, Nat.sub_self] at this
    rw [lg_entry_eq]
    exact this
