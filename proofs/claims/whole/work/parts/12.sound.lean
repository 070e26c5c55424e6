/-! Soundness, fourth part: one step, all steps, all methods. Own work; made by wip/whole/later/mk12.py -/
def zle (z z' : ZS) : Prop := zn z ≤ zn z' ∧ zw z ≤ zw z'
theorem zle.rf (z : ZS) : zle z z := ⟨Nat.le_refl _, Nat.le_refl _⟩
theorem zle.tr {a b c : ZS} (h : zle a b) (g : zle b c) : zle a c := ⟨Nat.le_trans h.1 g.1, Nat.le_trans h.2 g.2⟩
theorem zle_sI (z : ZS) (a k : Nat) (x : Int32) : zle z (sI z a k x) := zle.rf z
theorem zle_sP (z : ZS) (a k x : Nat) : zle z (sP z a k x) := zle.rf z
theorem zle_nw (z : ZS) (t n w : Nat) : zle z (nw z t n w) := ⟨Nat.le_succ _, Nat.le_add_right _ _⟩
def am (z : ZS) (a : Za) : Prop := match a with
  | .inl s => zle z s.2.2.2
  | .inr (.inl (_, s)) => zle z s.2.2.2
  | .inr (.inr (.inl (l, s))) => (∀ q ∈ l, zle z q.2.2.2.2) ∧ zle z s.2.2.2
  | .inr (.inr (.inr (.inl (_, _, s)))) => zle z s.2.2.2
  | .inr (.inr (.inr (.inr (.inl (_, z1))))) => zle z z1
  | .inr (.inr (.inr (.inr (.inr _)))) => True
theorem am_tab (full : List Ez) (pc : Nat) (x : Int32) (ls st : List Value) (z : ZS) : ∀ (os : List Int) (lo : Int), ∀ q ∈ x_tab full pc x ls st z os lo, zle z q.2.2.2.2
  | [], lo, q, h => by cases h
  | o :: os, lo, q, h => by
    rcases List.mem_cons.mp h with rfl | h
    · exact zle.rf z
    · exact am_tab full pc x ls st z os (lo + 1) q h
theorem am_look (full : List Ez) (pc : Nat) (x : Int32) (ls st : List Value) (z : ZS) : ∀ (os : List (Int × Int)), ∀ q ∈ x_look full pc x ls st z os, zle z q.2.2.2.2
  | [], q, h => by cases h
  | o :: os, q, h => by
    rcases List.mem_cons.mp h with rfl | h
    · exact zle.rf z
    · exact am_look full pc x ls st z os q h
theorem am_br {z : ZS} {c : Prop} {s1 s2 : Zt} (h1 : s1.2.2.2 = z) (h2 : s2.2.2.2 = z) : am z (a_br c s1 s2) := ⟨fun q hq => by
  rw [List.mem_singleton.mp hq]
  show zle z s1.2.2.2
  rw [h1]; exact zle.rf z, by rw [h2]; exact zle.rf z⟩
theorem am_sto (ls : List Value) (k : Nat) (v : Value) (rest : Nat) (st : List Value) (z : ZS) : am z (x_sto ls k v rest st z) := by
  unfold x_sto
  split
  · exact zle.rf z
  · trivial
theorem am_cmp (c : Jvm.ClassFile.Cond) (x y : Int32) {t n : Zt} {z : ZS} (h1 : t.2.2.2 = z) (h2 : n.2.2.2 = z) : am z (x_cmp c x y t n) := by
  cases c <;> first | exact am_br h1 h2 | exact am_br h2 h1
theorem am_get (t b : Nat) (c : Value) (rest : Nat) (ls st : List Value) (z : ZS) (x : Nat) : am z (x_get t b c rest ls st z x) := by
  unfold x_get
  split
  · split
    · exact zle.rf z
    · trivial
  · exact zle.rf z
  · exact zle.rf z
theorem am_put (t b : Nat) (rest : Nat) (ls st : List Value) (z : ZS) : am z (x_put t b rest ls st z) := by
  unfold x_put
  split
  · exact zle_sI z _ _ _
  · exact zle_sP z _ _ _
  · exact zle_sI z _ _ _
  · trivial
theorem am_if {z : ZS} {b : Bool} {a1 a2 : Za} (h1 : am z a1) (h2 : am z a2) : am z (bif b then a1 else a2) := by cases b <;> assumption
theorem nx_am (full : List Ez) (e : Ez) (rest : Nat) (ls st : List Value) (z : ZS) : am z (nx full e rest ls st z) := by
  obtain ⟨pc, cut, I, a, b, cv, w, nxt⟩ := e
  cases I <;> dsimp only [nx] <;> first
    | trivial
    | exact zle.rf z
    | exact am_put _ _ _ _ _ _
    | exact zle_nw z _ _ _
    | (split <;> first | trivial | exact zle.rf z | exact am_sto _ _ _ _ _ _ | exact am_cmp _ _ _ rfl rfl | exact am_br rfl rfl | exact am_get _ _ _ _ _ _ _ _ | exact zle_sI z _ _ _ | exact zle_sP z _ _ _ | exact zle_nw z _ _ _ | exact ⟨am_tab _ _ _ _ _ _ _ _, zle.rf z⟩ | exact ⟨am_look _ _ _ _ _ _ _, zle.rf z⟩ | exact am_if (zle.rf z) trivial)
    | skip
  · split
    · split
      · refine ⟨fun q hq => ?_, zle.rf z⟩
        rcases List.mem_cons.mp hq with rfl | hq
        · exact zle.rf z
        · rw [List.mem_singleton.mp hq]; exact zle.rf z
      · refine ⟨fun q hq => ?_, zle.rf z⟩
        rcases List.mem_cons.mp hq with rfl | hq
        · exact zle.rf z
        · rw [List.mem_singleton.mp hq]; exact zle.rf z
    · trivial
  · refine am_if ?_ ?_
    · split
      · exact am_if (zle.rf z) trivial
      · trivial
    · split
      · exact am_if (zle.rf z) trivial
      · trivial
theorem brs_bd {k : Zt → Prop} {z zF : ZS} (hk : ∀ s, k s → zle s.2.2.2 zF) : ∀ (l : List (Prop × Zt)) (s : Zt), (∀ q ∈ l, zle z q.2.2.2.2) → zle z s.2.2.2 → brs k l s → zle z zF
  | [], s, _, h2, H => h2.tr (hk s H)
  | q :: l, s, h1, h2, H => by
    by_cases hq : q.1
    · exact (h1 q List.mem_cons_self).tr (hk _ (H.1 hq))
    · exact brs_bd hk l s (fun q h => h1 q (List.mem_cons_of_mem _ h)) h2 (H.2 hq)
theorem stp_bd {C : Nat → List Value → ZS → Option Value → ZS → Prop} {Rt : Option Value → ZS → Prop} {k : Zt → Prop} {z zF : ZS} (hk : ∀ s, k s → zle s.2.2.2 zF) (hC : ∀ mi av z r z', C mi av z r z' → zle z z') (hR : ∀ v z1, Rt v z1 → zle z1 zF) (a : Za) (ha : am z a) (H : stp C Rt k a) : zle z zF := by
  rcases a with s | ⟨c, s⟩ | ⟨l, s⟩ | ⟨mi, av, s⟩ | ⟨v, z⟩ | u
  · exact zle.tr ha (hk s H)
  · exact zle.tr ha (hk s H.2)
  · exact brs_bd hk l s ha.1 ha.2 H
  · obtain ⟨r, z', h1, h2⟩ := H
    exact zle.tr ha ((hC _ _ _ _ _ h1).tr (hk _ h2))
  · exact zle.tr ha (hR _ _ H)
  · exact H.elim
theorem wq_bd {C : Nat → List Value → ZS → Option Value → ZS → Prop} {full : List Ez} {Rt : Option Value → ZS → Prop} {zF : ZS} (hC : ∀ mi av z r z', C mi av z r z' → zle z z') (hR : ∀ v z1, Rt v z1 → zle z1 zF) : ∀ (n : Nat) (s : Zt), wq C full Rt (fun _ _ _ z => zle z zF) n s → zle s.2.2.2 zF
  | 0, (i, ls, st, z), H => by
    unfold wq at H
    split at H
    · exact H
    · exact H.elim
  | n + 1, (i, ls, st, z), H => by
    unfold wq at H
    split at H
    · rename_i e he
      cases hc : Nat.beq e.2.1 1 with
      | true => rw [hc] at H; exact H
      | false =>
        rw [hc] at H
        exact stp_bd (fun s h => wq_bd hC hR n s h) hC hR _ (nx_am _ _ _ _ _ _) H
    · exact H.elim
theorem rn_mono : ∀ (d mi : Nat) (av : List Value) (z : ZS) (r : Option Value) (z' : ZS), Rn d mi av z r z' → zle z z'
  | 0, mi, av, z, r, z', H => H.elim
  | d + 1, mi, av, z, r, z', H => by
    refine H.2.2.2 (fun _ _ _ z1 => zle z1 z') (fun i ls st z1 hw => ?_)
    unfold wp at hw
    split at hw
    · exact stp_bd (fun s h => wq_bd (rn_mono d) (fun v z1 h => by rw [h.2]; exact zle.rf _) 400 s h) (rn_mono d) (fun v z1 h => by rw [h.2]; exact zle.rf _) _ (nx_am _ _ _ _ _ _) hw
    · exact hw.elim
/-- the machine goes on well from here -/
def GG (κ : KP) (p : Program) (l : Launch) (e : Env) (R : Room) (s : State) (m : MethodId) (args : Array Value) (below : List Frame) (meth : Method) (c : Code) (nL : Nat) (Q : State → Prop) (z0 zF : ZS) : Zk := fun pc ls st z => zle z zF ∧ ∀ (H : Heap) (locs : List Loc) (lsA : Array Slot), zle z0 z → Hp κ z H → va_S (AA κ) s.heap H locs → LH κ nL lsA ls → W p l e R s m args below meth c H locs (zn z - zn z0) (zw z - zw z0) Q (F0 m pc lsA (st.map (tr κ)))
def vX (own : String) (full : List Ez) (nL : Nat) (ini : Bool) (e : Ez) : Bool := match e.2.2.1 with
  | .iload_n k => decide (k.val = e.2.2.2.1)
  | .aload_n k => decide (k.val = e.2.2.2.1)
  | .lload_n k => decide (k.val = e.2.2.2.1)
  | .iload k => decide (k = e.2.2.2.1)
  | .aload k => decide (k = e.2.2.2.1)
  | .istore_n k => decide (k.val = e.2.2.2.1 ∧ e.2.2.2.1 < nL)
  | .astore_n k => decide (k.val = e.2.2.2.1 ∧ e.2.2.2.1 < nL)
  | .istore k => decide (k = e.2.2.2.1 ∧ e.2.2.2.1 < nL)
  | .astore k => decide (k = e.2.2.2.1 ∧ e.2.2.2.1 < nL)
  | .iconst n => decide (e.2.2.2.2.2.1 = .int (Int32.ofInt n))
  | .bipush n => decide (e.2.2.2.2.2.1 = .int (Int8.ofInt n).toInt32)
  | .sipush n => decide (e.2.2.2.2.2.1 = .int (Int16.ofInt n).toInt32)
  | .ldc k => (match e.2.2.2.2.2.1 with
    | .int v => wAt e.2.2.2.2.2.2.1 (.constant own k v)
    | _ => false)
  | .ldc2_w k => (match e.2.2.2.2.2.1 with
    | .long v => wAt e.2.2.2.2.2.2.1 (.constantLong own k v)
    | _ => false)
  | .iinc k n => decide (k = e.2.2.2.1 ∧ e.2.2.2.1 < nL ∧ e.2.2.2.2.2.1 = .int (Int32.ofInt n))
  | .if_icmp _ o => decide ((e.1 : Int) + o = (pcA full e.2.2.2.1 : Int))
  | .ifCond _ o => decide ((e.1 : Int) + o = (pcA full e.2.2.2.1 : Int))
  | .if_acmp _ o => decide ((e.1 : Int) + o = (pcA full e.2.2.2.1 : Int))
  | .ifnull o => decide ((e.1 : Int) + o = (pcA full e.2.2.2.1 : Int))
  | .ifnonnull o => decide ((e.1 : Int) + o = (pcA full e.2.2.2.1 : Int))
  | .goto o => decide ((e.1 : Int) + o = (pcA full e.2.2.2.1 : Int))
  | .tableswitch d lo hi offs => decide (hi + 1 = lo + (offs.toList.length : Int)) && (d :: offs.toList).all (fun o => decide ((e.1 : Int) + o = (pcA full (fnd full ((e.1 : Int) + o).toNat 0) : Int)))
  | .lookupswitch d ps => (ps.toList.zip (ps.toList.drop 1)).all (fun (a, next) => a.1 < next.1) && (d :: ps.toList.map (fun q => q.2)).all (fun o => decide ((e.1 : Int) + o = (pcA full (fnd full ((e.1 : Int) + o).toNat 0) : Int)))
  | .getfield k => (match cls[e.2.2.2.1 - 10]? with
    | some (C, T, N) => vFld own e.2.2.2.2.2.2.1 k e.2.2.2.1 e.2.2.2.2.1 C T N && (decide (e.2.2.2.2.1 % 4 = 1 ∨ e.2.2.2.2.1 % 4 = 3) == decide (fk (e.2.2.2.1 - 10) (e.2.2.2.2.1 / 4) = 1))
    | none => false)
  | .putfield k => (match cls[e.2.2.2.1 - 10]? with
    | some (C, T, N) => vFld own e.2.2.2.2.2.2.1 k e.2.2.2.1 e.2.2.2.2.1 C T N && decide (e.2.2.2.2.1 % 4 = fk (e.2.2.2.1 - 10) (e.2.2.2.2.1 / 4)) && (!(T (e.2.2.2.2.1 / 4)).2.2.2 || (ini && decide ((T (e.2.2.2.2.1 / 4)).1 = own)))
    | none => false)
  | .getstatic k => decide (1 ≤ e.2.2.2.1 ∧ e.2.2.2.1 < 5) && (bif Nat.beq e.2.2.2.2.1 1 then decide (Cond.fieldLinkNest own k "ClubStrokes" (snm e.2.2.2.1) "[I" "ClubStrokes" ∈ nestW) else wAt e.2.2.2.2.2.2.1 (.fieldLink own k "ClubStrokes" (snm e.2.2.2.1) "[I"))
  | .iaload => decide (e.2.2.2.1 = 1 ∨ e.2.2.2.1 = 3)
  | .aaload => decide (4 ≤ e.2.2.2.1 ∧ e.2.2.2.1 ≤ 6)
  | .aastore => decide (4 ≤ e.2.2.2.1 ∧ e.2.2.2.1 ≤ 6 ∧ e.2.2.2.2.1 = 10 + elc e.2.2.2.1)
  | .new k => (match cls[e.2.2.2.1 - 10]? with
    | some (C, _, N) => decide (10 ≤ e.2.2.2.1 ∧ e.2.2.2.2.1 = N) && wAt e.2.2.2.2.2.2.1 (.classLink own k C)
    | none => false)
  | .newarray t => decide ((t = .int ∧ e.2.2.2.1 = 1) ∨ (t = .boolean ∧ e.2.2.2.1 = 2))
  | .anewarray k => decide (4 ≤ e.2.2.2.1 ∧ e.2.2.2.1 ≤ 6) && (match cls[elc e.2.2.2.1]? with
    | some (C, _, _) => wAt e.2.2.2.2.2.2.1 (.classLink own k C)
    | none => false)
  | .invokevirtual k => decide (e.2.2.2.1 < 174 ∧ mk3 e.2.2.2.1 = 2 ∧ e.2.2.2.2.1 = mp e.2.2.2.1 + 1) && wAt e.2.2.2.2.2.2.1 (.methodLink own k (my e.2.2.2.1))
  | .invokestatic k => decide (e.2.2.2.1 < 174 ∧ mk3 e.2.2.2.1 = 0 ∧ e.2.2.2.2.1 = mp e.2.2.2.1) && (match e.2.2.2.2.2.1 with
    | .int _ => decide (Cond.methodLinkNest own k (my e.2.2.2.1) "ClubStrokes" ∈ nestW)
    | _ => wAt e.2.2.2.2.2.2.1 (.methodLink own k (my e.2.2.2.1)))
  | .invokespecial k => (bif Nat.beq e.2.2.2.1 9999 then wAt e.2.2.2.2.2.2.1 (.methodLink own k objectInit) else decide (e.2.2.2.1 < 174 ∧ mk3 e.2.2.2.1 = 1 ∧ e.2.2.2.2.1 = mp e.2.2.2.1 + 1) && (match e.2.2.2.2.2.1 with
    | .int _ => decide (Cond.methodLinkNest own k (my e.2.2.2.1) "ClubStrokes" ∈ nestW)
    | _ => wAt e.2.2.2.2.2.2.1 (.methodLink own k (my e.2.2.2.1))))
  | _ => true
def vN (full : List Ez) (e : Ez) : Bool := match e.2.2.1 with
  | .goto _ => true
  | .tableswitch _ _ _ _ => true
  | .lookupswitch _ _ => true
  | .ireturn => true
  | .areturn => true
  | .return_ => true
  | _ => decide (pcA full e.2.2.2.2.2.2.2 = e.1 + lnI e.2.2.1 e.2.2.2.2.1)
theorem vE_eq (own : String) (cc : ByteArray) (full : List Ez) (nL : Nat) (ini : Bool) (e : Ez) : vE own cc full nL ini e = (decide (decode cc e.1 = .ok (e.2.2.1, lnI e.2.2.1 e.2.2.2.2.1)) && vX own full nL ini e && vN full e) := rfl
theorem orf_inj {κ : KP} {x y : Nat} : ((x = 0 ∨ 6 ≤ x) ∧ (y = 0 ∨ 6 ≤ y)) → orf κ x = orf κ y → x = y := by
  rintro ⟨h1, h2⟩ h3
  by_cases hx0 : x = 0
  · by_cases hy0 : y = 0
    · omega
    · rw [hx0, orf_some hy0] at h3; cases h3
  · by_cases hy0 : y = 0
    · rw [hy0, orf_some hx0] at h3; cases h3
    · rw [orf_some hx0, orf_some hy0, adr_hi (by omega), adr_hi (by omega)] at h3
      have := Option.some.inj h3
      omega
theorem narrow_rf {ty : FieldType} (h : ty.isReference = true) (o : Option Nat) : narrow ty (va_rf o) = va_rf o := by
  cases ty <;> cases o <;> first | rfl | cases h
theorem fits_rf {ty : FieldType} (h : ty.isReference = true) (o : Option Nat) : fits ty (va_rf o) = true := by
  cases ty <;> cases o <;> first | rfl | cases h
theorem brs_tab {k : Zt → Prop} {full : List Ez} {pc : Nat} {x : Int32} {ls st : List Value} {z : ZS} {sd : Zt} : ∀ {offs : List Int} {lo : Int}, brs k (x_tab full pc x ls st z offs lo) sd → (∃ (j : Nat) (o : Int), offs[j]? = some o ∧ x.toInt = lo + j ∧ k (fnd full ((pc : Int) + o).toNat 0, ls, st, z)) ∨ ((x.toInt < lo ∨ lo + offs.length ≤ x.toInt) ∧ k sd)
  | [], lo, H => Or.inr ⟨by simp; omega, H⟩
  | o :: os, lo, H => by
    by_cases hq : x.toInt = lo
    · exact Or.inl ⟨0, o, rfl, by omega, H.1 hq⟩
    · rcases brs_tab (H.2 hq) with ⟨j, o', h1, h2, h3⟩ | ⟨h1, h2⟩
      · exact Or.inl ⟨j + 1, o', h1, by omega, h3⟩
      · exact Or.inr ⟨by simp only [List.length_cons]; omega, h2⟩
theorem brs_look {k : Zt → Prop} {full : List Ez} {pc : Nat} {x : Int32} {ls st : List Value} {z : ZS} {d : Int} : ∀ {ps : List (Int × Int)}, brs k (x_look full pc x ls st z ps) (fnd full ((pc : Int) + d).toNat 0, ls, st, z) → ∃ o : Int, Op.lookupswitch.offset ps d x.toInt = o ∧ o ∈ d :: ps.map (fun q => q.2) ∧ k (fnd full ((pc : Int) + o).toNat 0, ls, st, z)
  | [], H => ⟨d, by simp [Op.lookupswitch.offset], List.mem_cons_self, H⟩
  | q :: ps, H => by
    obtain ⟨a, o⟩ := q
    by_cases hq : x.toInt = a
    · exact ⟨o, by rw [Op.lookupswitch.offset_cons, if_pos hq.symm], by simp, H.1 hq⟩
    · obtain ⟨o', h1, h2, h3⟩ := brs_look (H.2 hq)
      refine ⟨o', by rw [Op.lookupswitch.offset_cons, if_neg (fun h => hq h.symm)]; exact h1, ?_, h3⟩
      rcases List.mem_cons.mp h2 with h | h
      · rw [h]; exact List.mem_cons_self
      · exact List.mem_cons_of_mem _ (List.mem_cons_of_mem _ h)
theorem obj_in : Cond.instanceMethod objectInit ∈ gw ∧ Cond.code objectInit ⟨#[0xb1]⟩ 1 none ∈ gw := ⟨gw_in (by decide +kernel) rfl, gw_in (List.mem_of_getElem? (i := 60) rfl) rfl⟩
theorem rn_rcv {d mi : Nat} {av : List Value} {z z' : ZS} {r : Option Value} (h : Rn d mi av z r z') : rcv mi av z := by
  cases d with
  | zero => exact h.elim
  | succ d => exact h.1
theorem rk_pos {mi : Nat} (h : mi < 174) (hk : mk3 mi = 2) : 2 ≤ rk mi := by
  obtain ⟨-, -, ci, -, -, -, hr, -⟩ := vM_vi h hk
  omega
theorem rcv_of {mi : Nat} {av : List Value} {z : ZS} (h : rcv mi av z) (h0 : 2 ≤ rk mi) : ∃ (x : Nat) (av' : List Value), av = .ref x :: av' ∧ tg z x = rk mi := by
  unfold rcv at h
  split at h
  · rename_i hr; exact absurd hr (by omega)
  · rename_i hr; exact absurd hr (by omega)
  · rename_i t x r hr; exact ⟨x, r, rfl, by rw [hr]; exact h⟩
  · exact h.elim
theorem rk_one : ∀ mi, mi < 174 → mk3 mi = 1 → rk mi = 1 := by decide +kernel
theorem init_of {d mi : Nat} {av : List Value} {z z' : ZS} {r : Option Value} (h : Rn d mi av z r z') (hm : mi < 174) (hk : mk3 mi = 1) : ∃ (x : Nat) (av' : List Value), av = .ref x :: av' ∧ x ≠ 0 := by
  have hr := rk_one mi hm hk
  have := rn_rcv h
  unfold rcv at this
  rw [hr] at this
  split at this
  · rename_i q; cases q
  · rename_i x r _; exact ⟨x, r, rfl, this⟩
  · rename_i q; cases q
  · exact this.elim
section Sound
variable {κ : KP} {p : Program} {l : Launch} {e : Env} {R : Room} {s : State} {m : MethodId} {args : Array Value} {below : List Frame} {meth : Method} {c : Code} {nL : Nat} {Q : State → Prop} {z0 zF : ZS}
variable {cc : ByteArray} {own : String} {full : List Ez} {d : Nat} {Rt : Option Value → ZS → Prop} {ini : Bool}
theorem gg1 {pc pc' : Nat} {ls ls' st st' : List Value} {z : ZS} (hk : GG κ p l e R s m args below meth c nL Q z0 zF pc' ls' st' z) (h : ∀ (H : Heap) (locs : List Loc) (lsA : Array Slot) (cells slots : Nat), Hp κ z H → va_S (AA κ) s.heap H locs → LH κ nL lsA ls → (∀ lsA', LH κ nL lsA' ls' → W p l e R s m args below meth c H locs cells slots Q (F0 m pc' lsA' (st'.map (tr κ)))) → W p l e R s m args below meth c H locs cells slots Q (F0 m pc lsA (st.map (tr κ)))) : GG κ p l e R s m args below meth c nL Q z0 zF pc ls st z :=
  ⟨hk.1, fun H locs lsA a1 hH hS hL => h H locs lsA _ _ hH hS hL (fun lsA' hL' => hk.2 H locs lsA' a1 hH hS hL')⟩
theorem LH.at {lsA : Array Slot} {ls : List Value} (h : LH κ nL lsA ls) {i : Nat} {v : Value} (hi : lk ls i = v) (hv : v ≠ .null) : lsA[i]? = some (.val (tr κ v)) := h.2.2.2 i v hi hv
/-- a store into a local -/
theorem gg_sto {pc pc' a : Nat} {ls st st0 : List Value} {z : ZS} {v : Value} {kk : Zt → Prop} {rest : Nat} (hkk : ∀ i ls st z, kk (i, ls, st, z) → GG κ p l e R s m args below meth c nL Q z0 zF (pcA full i) ls st z) (hn : pcA full rest = pc') (hi : a < nL) (H : stp (Rn d) Rt kk (x_sto ls a v rest st z))
    (h : ∀ (H : Heap) (locs : List Loc) (lsA : Array Slot) (cells slots : Nat), LH κ nL lsA ls → (∀ ls' : Array Slot, lv_has ls' nL ((a, tr κ v) :: (prs κ ls nL).filter (fun q => !(q.1 == a) && !(q.1 + 1 == a && q.2.category == 2))) → W p l e R s m args below meth c H locs cells slots Q (F0 m pc' ls' (st.map (tr κ)))) → W p l e R s m args below meth c H locs cells slots Q (F0 m pc lsA (st0.map (tr κ)))) : GG κ p l e R s m args below meth c nL Q z0 zF pc ls st0 z := by
  unfold x_sto at H
  split at H
  · rename_i hc
    have hk := hkk _ _ _ _ H
    rw [hn] at hk
    exact gg1 hk (fun H locs lsA _ _ hH hS hL k => h H locs lsA _ _ hL (fun ls' hl => k ls' (hL.of_has hi hc hl)))
  · exact H.elim
def HX (κ : KP) (p : Program) (l : Launch) (e : Env) (R : Room) (s : State) (m : MethodId) (args : Array Value) (below : List Frame) (meth : Method) (c : Code) (nL : Nat) (Q : State → Prop) (z0 zF : ZS) (cc : ByteArray) (own : String) (full : List Ez) (d : Nat) (Rt : Option Value → ZS → Prop) (ini : Bool) (pI pA pV : Prop) : Prop :=
  p.tables.exec = Jvm.exec ∧ c.code = cc ∧ c.maxLocals = nL ∧ s.vm.findClass own = some m.cls ∧ (∀ w ∈ gw, w.before args s = true) ∧ Gl κ s ∧ zn zF - zn z0 ≤ R.cells ∧ zw zF - zw z0 ≤ R.slots ∧ d + 1 ≤ R.frames ∧ 38 * d + 38 ≤ R.locals ∧
  (∀ (mi : Nat) (av : List Value) (z : ZS) (r : Option Value) (z' : ZS), mi < 174 → Rn d mi av z r z' → Ctr κ l d mi av z r z') ∧ (ini = true → meth.name = "<init>") ∧ (∀ v z, Rt v z → zle z zF) ∧
  (pI → ∀ (x : Int32) (z : ZS) (H : Heap) (locs : List Loc) (lsA : Array Slot) (pc : Nat), Rt (some (.int x)) z → zle z0 z → Hp κ z H → va_S (AA κ) s.heap H locs → decode cc pc = .ok (.ireturn, 1) → W p l e R s m args below meth c H locs (zn z - zn z0) (zw z - zw z0) Q (F0 m pc lsA [.int x])) ∧
  (pA → ∀ (x : Nat) (z : ZS) (H : Heap) (locs : List Loc) (lsA : Array Slot) (pc : Nat), Rt (some (.ref x)) z → zle z0 z → Hp κ z H → va_S (AA κ) s.heap H locs → decode cc pc = .ok (.areturn, 1) → W p l e R s m args below meth c H locs (zn z - zn z0) (zw z - zw z0) Q (F0 m pc lsA [tr κ (.ref x)])) ∧
  (pV → ∀ (z : ZS) (H : Heap) (locs : List Loc) (lsA : Array Slot) (pc : Nat), Rt none z → zle z0 z → Hp κ z H → va_S (AA κ) s.heap H locs → decode cc pc = .ok (.return_, 1) → W p l e R s m args below meth c H locs (zn z - zn z0) (zw z - zw z0) Q (F0 m pc lsA []))
end Sound
