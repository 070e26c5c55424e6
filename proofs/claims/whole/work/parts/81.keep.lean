/-! No method writes the script. Own work. -/
def t5 (z z' : ZS) : Prop := (5 < zn z ∧ tg z 5 = 3) → (5 < zn z' ∧ tg z' 5 = 3) ∧ ln z' 5 = ln z 5 ∧ zI z' 5 = zI z 5
theorem t5.rf (z : ZS) : t5 z z := fun h => ⟨h, rfl, rfl⟩
theorem t5.tr {a b c : ZS} (h : t5 a b) (g : t5 b c) : t5 a c := fun q => by
  obtain ⟨h1, h2, h3⟩ := h q
  obtain ⟨g1, g2, g3⟩ := g h1
  exact ⟨g1, g2.trans h2, g3.trans h3⟩
theorem t5_sI {z : ZS} {a k t : Nat} {x : Int32} (h : tg z a = t) (ht : t ≠ 3) : t5 z (sI z a k x) := fun q => ⟨q, rfl, by
  funext j
  show (if 5 = a ∧ j = k then x else zI z 5 j) = zI z 5 j
  rw [if_neg]
  rintro ⟨e, _⟩
  subst e
  exact ht (h.symm.trans q.2)⟩
theorem t5_sP (z : ZS) (a k x : Nat) : t5 z (sP z a k x) := fun q => ⟨q, rfl, rfl⟩
theorem t5_nw (z : ZS) (t n w : Nat) : t5 z (nw z t n w) := fun q => by
  have o := nw_o z t n w (a := 5) (by omega)
  exact ⟨⟨Nat.lt_succ_of_lt q.1, o.1.trans q.2⟩, o.2.1, o.2.2.1⟩
def a5 (z : ZS) (a : Za) : Prop := match a with
  | .inl s => t5 z s.2.2.2
  | .inr (.inl (c, s)) => c → t5 z s.2.2.2
  | .inr (.inr (.inl (l, s))) => (∀ q ∈ l, t5 z q.2.2.2.2) ∧ t5 z s.2.2.2
  | .inr (.inr (.inr (.inl (_, _, s)))) => t5 z s.2.2.2
  | .inr (.inr (.inr (.inr (.inl (_, z1))))) => t5 z z1
  | .inr (.inr (.inr (.inr (.inr _)))) => True
theorem a5_tab (full : List Ez) (pc : Nat) (x : Int32) (ls st : List Value) (z : ZS) : ∀ (os : List Int) (lo : Int), ∀ q ∈ x_tab full pc x ls st z os lo, t5 z q.2.2.2.2
  | [], lo, q, h => by cases h
  | o :: os, lo, q, h => by
    rcases List.mem_cons.mp h with rfl | h
    · exact t5.rf z
    · exact a5_tab full pc x ls st z os (lo + 1) q h
theorem a5_look (full : List Ez) (pc : Nat) (x : Int32) (ls st : List Value) (z : ZS) : ∀ (os : List (Int × Int)), ∀ q ∈ x_look full pc x ls st z os, t5 z q.2.2.2.2
  | [], q, h => by cases h
  | o :: os, q, h => by
    rcases List.mem_cons.mp h with rfl | h
    · exact t5.rf z
    · exact a5_look full pc x ls st z os q h
theorem a5_br {z : ZS} {c : Prop} {s1 s2 : Zt} (h1 : s1.2.2.2 = z) (h2 : s2.2.2.2 = z) : a5 z (a_br c s1 s2) := ⟨fun q hq => by
  rw [List.mem_singleton.mp hq]
  show t5 z s1.2.2.2
  rw [h1]; exact t5.rf z, by rw [h2]; exact t5.rf z⟩
theorem a5_sto (ls : List Value) (k : Nat) (v : Value) (rest : Nat) (st : List Value) (z : ZS) : a5 z (x_sto ls k v rest st z) := by
  unfold x_sto
  split
  · exact t5.rf z
  · trivial
theorem a5_cmp (c : Jvm.ClassFile.Cond) (x y : Int32) {t n : Zt} {z : ZS} (h1 : t.2.2.2 = z) (h2 : n.2.2.2 = z) : a5 z (x_cmp c x y t n) := by
  cases c <;> first | exact a5_br h1 h2 | exact a5_br h2 h1
theorem a5_get (t b : Nat) (c : Value) (rest : Nat) (ls st : List Value) (z : ZS) (x : Nat) : a5 z (x_get t b c rest ls st z x) := by
  unfold x_get
  split
  · split
    · exact fun _ => t5.rf z
    · trivial
  · exact fun _ => t5.rf z
  · exact fun _ => t5.rf z
theorem a5_put (t b : Nat) (rest : Nat) (ls st : List Value) (z : ZS) (ht : t ≠ 3) : a5 z (x_put t b rest ls st z) := by
  unfold x_put
  split
  · exact fun h => t5_sI h ht
  · exact fun _ => t5_sP z _ _ _
  · exact fun h => t5_sI h.1 ht
  · trivial
theorem a5_if {z : ZS} {b : Bool} {a1 a2 : Za} (h1 : a5 z a1) (h2 : a5 z a2) : a5 z (bif b then a1 else a2) := by cases b <;> assumption
def p3 (e : Ez) : Bool := match e.2.2.1 with
  | .putfield _ => !(Nat.beq e.2.2.2.1 3)
  | _ => true
theorem p3_ne {pc cut k a b w nxt : Nat} {cv : Value} (h : p3 (pc, cut, .putfield k, a, b, cv, w, nxt) = true) : a ≠ 3 := fun q => by
  subst q
  exact Bool.false_ne_true h
theorem nx_a5 (full : List Ez) (e : Ez) (rest : Nat) (ls st : List Value) (z : ZS) (he : p3 e = true) : a5 z (nx full e rest ls st z) := by
  obtain ⟨pc, cut, I, a, b, cv, w, nxt⟩ := e
  cases I <;> dsimp only [nx] <;> first
    | trivial
    | exact t5.rf z
    | exact a5_put _ _ _ _ _ _ (p3_ne he)
    | exact t5_nw z _ _ _
    | (split <;> first | trivial | exact t5.rf z | exact fun _ => t5.rf z | exact a5_sto _ _ _ _ _ _ | exact a5_cmp _ _ _ rfl rfl | exact a5_br rfl rfl | exact a5_get _ _ _ _ _ _ _ _ | exact fun h => t5_sI h.1 (by decide) | exact fun _ => t5_sP z _ _ _ | exact fun _ => t5_nw z _ _ _ | exact ⟨a5_tab _ _ _ _ _ _ _ _, t5.rf z⟩ | exact ⟨a5_look _ _ _ _ _ _ _, t5.rf z⟩ | exact a5_if (t5.rf z) trivial)
    | skip
  · split
    · split
      · refine ⟨fun q hq => ?_, t5.rf z⟩
        rcases List.mem_cons.mp hq with rfl | hq
        · exact t5.rf z
        · rw [List.mem_singleton.mp hq]; exact t5.rf z
      · refine ⟨fun q hq => ?_, t5.rf z⟩
        rcases List.mem_cons.mp hq with rfl | hq
        · exact t5.rf z
        · rw [List.mem_singleton.mp hq]; exact t5.rf z
    · trivial
  · refine a5_if ?_ ?_
    · split
      · exact a5_if (fun _ => t5.rf z) trivial
      · trivial
    · split
      · exact a5_if (t5.rf z) trivial
      · trivial
theorem brs_5 {k : Zt → Prop} {z zF : ZS} (hk : ∀ s, k s → t5 s.2.2.2 zF) : ∀ (l : List (Prop × Zt)) (s : Zt), (∀ q ∈ l, t5 z q.2.2.2.2) → t5 z s.2.2.2 → brs k l s → t5 z zF
  | [], s, _, h2, H => h2.tr (hk s H)
  | q :: l, s, h1, h2, H => by
    by_cases hq : q.1
    · exact (h1 q List.mem_cons_self).tr (hk _ (H.1 hq))
    · exact brs_5 hk l s (fun q h => h1 q (List.mem_cons_of_mem _ h)) h2 (H.2 hq)
theorem stp_5 {C : Nat → List Value → ZS → Option Value → ZS → Prop} {Rt : Option Value → ZS → Prop} {k : Zt → Prop} {z zF : ZS} (hk : ∀ s, k s → t5 s.2.2.2 zF) (hC : ∀ mi av z r z', C mi av z r z' → t5 z z') (hR : ∀ v z1, Rt v z1 → t5 z1 zF) (a : Za) (ha : a5 z a) (H : stp C Rt k a) : t5 z zF := by
  rcases a with s | ⟨c, s⟩ | ⟨l, s⟩ | ⟨mi, av, s⟩ | ⟨v, z⟩ | u
  · exact t5.tr ha (hk s H)
  · exact t5.tr (ha H.1) (hk s H.2)
  · exact brs_5 hk l s ha.1 ha.2 H
  · obtain ⟨r, z', h1, h2⟩ := H
    exact t5.tr ha ((hC _ _ _ _ _ h1).tr (hk _ h2))
  · exact t5.tr ha (hR _ _ H)
  · exact H.elim
theorem gt_mem5 : ∀ (l : List Ez) (i : Nat) (e : Ez), gt l i = some e → e ∈ l
  | [], _, _, h => by cases h
  | x :: l, 0, e, h => by cases h; exact List.mem_cons_self
  | x :: l, i + 1, e, h => List.mem_cons_of_mem _ (gt_mem5 l i e h)
theorem wq_5 {C : Nat → List Value → ZS → Option Value → ZS → Prop} {full : List Ez} {Rt : Option Value → ZS → Prop} {zF : ZS} (hf : ∀ e ∈ full, p3 e = true) (hC : ∀ mi av z r z', C mi av z r z' → t5 z z') (hR : ∀ v z1, Rt v z1 → t5 z1 zF) : ∀ (n : Nat) (s : Zt), wq C full Rt (fun _ _ _ z => t5 z zF) n s → t5 s.2.2.2 zF
  | 0, (i, ls, st, z), H => by
    unfold wq at H
    split at H
    · exact H
    · exact H.elim
  | n + 1, (i, ls, st, z), H => by
    unfold wq at H
    split at H
    · rename_i e he
      cases hc : Nat.beq e.2.1 1 with
      | true => rw [hc] at H; exact H
      | false =>
        rw [hc] at H
        exact stp_5 (fun s h => wq_5 hf hC hR n s h) hC hR _ (nx_a5 _ _ _ _ _ _ (hf e (gt_mem5 _ _ _ he))) H
    · exact H.elim
theorem p3_all : ∀ mi, mi < 175 → (tb mi).all p3 = true := by decide +kernel
theorem tb_big : ∀ mi, ¬ mi < 175 → tb mi = [] := fun mi h => by
  obtain ⟨k, rfl⟩ : ∃ k, mi = k + 175 := ⟨mi - 175, by omega⟩
  rfl
theorem p3_tb (mi : Nat) : ∀ e ∈ tb mi, p3 e = true := fun e he => by
  by_cases h : mi < 175
  · exact List.all_eq_true.mp (p3_all mi h) e he
  · rw [tb_big mi h] at he
    cases he
theorem rn_5 : ∀ (d mi : Nat) (av : List Value) (z : ZS) (r : Option Value) (z' : ZS), Rn d mi av z r z' → t5 z z'
  | 0, mi, av, z, r, z', H => H.elim
  | d + 1, mi, av, z, r, z', H => by
    refine H.2.2.2 (fun _ _ _ z1 => t5 z1 z') (fun i ls st z1 hw => ?_)
    unfold wp at hw
    split at hw
    · rename_i e he
      exact stp_5 (fun s h => wq_5 (p3_tb mi) (rn_5 d) (fun v z1 h => by rw [h.2]; exact t5.rf _) 400 s h) (rn_5 d) (fun v z1 h => by rw [h.2]; exact t5.rf _) _ (nx_a5 _ _ _ _ _ _ (p3_tb mi e (gt_mem5 _ _ _ he))) hw
    · exact hw.elim
