/-! A player's list: a card is put in, a card is taken out. Own work. -/
theorem insO_cg {D D' : Nat → Int32} (k : Nat) (hk : D' k = D k) : ∀ l : List Nat, (∀ y, y ∈ l → D' y = D y) → insO D' k l = insO D k l
  | [], _ => by unfold insO; rfl
  | y :: t, h => by
    unfold insO
    rw [hk, h y List.mem_cons_self, insO_cg k hk t (fun x hx => h x (List.mem_cons_of_mem _ hx))]
theorem odl_cg {D D' : Nat → Int32} : ∀ n, (∀ j, j < n → D' j = D j) → odl D' n = odl D n
  | 0, _ => by unfold odl; rfl
  | n + 1, h => by
    unfold odl
    rw [odl_cg n (fun j hj => h j (by omega)), insO_cg n (h n (by omega)) _ (fun y hy => h y (by have := (odl_mem D y n).mp hy; omega))]
theorem insO_hd (D : Nat → Int32) (k : Nat) : ∀ l : List Nat, (∀ x, x ∈ l → D k < D x) → insO D k l = k :: l
  | [], _ => by unfold insO; rfl
  | y :: t, h => by unfold insO; rw [if_pos (h y List.mem_cons_self)]
theorem insO_fn (D : Nat → Int32) (k : Nat) (q : Nat → Bool) (hq : q k = false) : ∀ l : List Nat, (insO D k l).filter q = l.filter q
  | [] => by unfold insO; rw [List.filter_cons, hq]; rfl
  | y :: t => by
    unfold insO
    by_cases e : D k < D y
    · rw [if_pos e, List.filter_cons, hq]; rfl
    · rw [if_neg e, List.filter_cons, List.filter_cons, insO_fn D k q hq t]
theorem insO_f (D : Nat → Int32) (k : Nat) (q : Nat → Bool) (hq : q k = true) : ∀ l : List Nat, l.Pairwise (fun x y => D x ≤ D y) → (insO D k l).filter q = insO D k (l.filter q)
  | [], _ => by unfold insO; rw [List.filter_cons, hq]; rfl
  | y :: t, h => by
    obtain ⟨h1, h2⟩ := List.pairwise_cons.mp h
    have ih := insO_f D k q hq t h2
    by_cases e : D k < D y
    · have hd := insO_hd D k (y :: t) (fun x hx => by
        rcases List.mem_cons.mp hx with w | w
        · rw [w]; exact e
        · exact Int32.lt_of_lt_of_le e (h1 x w))
      rw [hd, insO_hd D k ((y :: t).filter q) (fun x hx => by
        rcases List.mem_cons.mp (List.mem_filter.mp hx).1 with w | w
        · rw [w]; exact e
        · exact Int32.lt_of_lt_of_le e (h1 x w)), List.filter_cons, hq]
      rfl
    · have e1 : insO D k (y :: t) = y :: insO D k t := by rw [insO, if_neg e]
      rw [e1, List.filter_cons, List.filter_cons, ih]
      cases hy : q y with
      | true => show y :: insO D k (t.filter q) = insO D k (y :: t.filter q); rw [insO.eq_2, if_neg e]
      | false => rfl
theorem insO_split (D : Nat → Int32) (k : Nat) : ∀ l : List Nat, ∃ s r, l = s ++ r ∧ insO D k l = s ++ k :: r ∧ (∀ y, y ∈ s → ¬ D k < D y) ∧ (∀ y t, r = y :: t → D k < D y)
  | [] => ⟨[], [], rfl, by unfold insO; rfl, fun y hy => absurd hy List.not_mem_nil, fun y t h => by cases h⟩
  | y :: t => by
    by_cases e : D k < D y
    · exact ⟨[], y :: t, rfl, by rw [insO, if_pos e]; rfl, fun y hy => absurd hy List.not_mem_nil, fun y' t' h => by cases h; exact e⟩
    · obtain ⟨s, r, h1, h2, h3, h4⟩ := insO_split D k t
      exact ⟨y :: s, r, by rw [h1]; rfl, by rw [insO, if_neg e, h2]; rfl, fun x hx => by
        rcases List.mem_cons.mp hx with w | w
        · rw [w]; exact e
        · exact h3 x w, h4⟩
theorem lpF_pw (A : Nat → Nat → Int32) (n p : Nat) : (lpF A n p).Pairwise (fun x y => A 10 x ≤ A 10 y) := List.Pairwise.sublist List.filter_sublist (List.Pairwise.imp (fun w => w.1) (odl_pw (A 10) n))
/-- the lists with one card more -/
theorem lp_add {A A1 : Nat → Nat → Int32} {n : Nat} (h : ∀ j, j < n → A1 9 j = A 9 j ∧ A1 10 j = A 10 j) (p : Nat) : (A1 9 n = nI p → lpF A1 (n + 1) p = insO (A1 10) n (lpF A n p)) ∧ (¬ A1 9 n = nI p → lpF A1 (n + 1) p = lpF A n p) := by
  have e0 : odl (A1 10) n = odl (A 10) n := odl_cg n (fun j hj => (h j hj).2)
  have ef : (odl (A1 10) n).filter (qp A1 (nI p)) = lpF A n p := by
    rw [e0]
    unfold lpF
    refine List.filter_congr (fun x hx => ?_)
    unfold qp
    rw [(h x ((odl_mem _ x n).mp hx)).1]
  have pw : (odl (A1 10) n).Pairwise (fun x y => A1 10 x ≤ A1 10 y) := List.Pairwise.imp (fun w => w.1) (odl_pw (A1 10) n)
  refine ⟨fun e => ?_, fun e => ?_⟩
  · show (insO (A1 10) n (odl (A1 10) n)).filter (qp A1 (nI p)) = _
    rw [insO_f (A1 10) n _ (decide_eq_true e) _ pw, ef]
  · show (insO (A1 10) n (odl (A1 10) n)).filter (qp A1 (nI p)) = _
    rw [insO_fn (A1 10) n _ (decide_eq_false e), ef]
theorem LK_i1 {z z' : ZS} {cid : Nat → Nat} {x k : Nat} {r : List Nat} (hx : zP z' (cid x) 11 = cid k) (hk : zP z' (cid k) 11 = zP z (cid x) 11) (hr : ∀ y, y ∈ r → zP z' (cid y) 11 = zP z (cid y) 11) : ∀ (s : List Nat) (q : Nat), (∀ y, y ∈ s → zP z' (cid y) 11 = zP z (cid y) 11) → LK z cid (s ++ x :: r) q → LK z' cid (s ++ x :: k :: r) q
  | [], q, _, h => ⟨h.1, hx, by rw [hk]; exact LK_F r _ hr h.2⟩
  | y :: s, q, hs, h => ⟨h.1, by rw [hs y List.mem_cons_self]; exact LK_i1 hx hk hr s _ (fun w hw => hs w (List.mem_cons_of_mem _ hw)) h.2⟩
theorem LK_r1 {z z' : ZS} {cid : Nat → Nat} {x k : Nat} {r : List Nat} (hx : zP z' (cid x) 11 = zP z (cid k) 11) (hr : ∀ y, y ∈ r → zP z' (cid y) 11 = zP z (cid y) 11) : ∀ (s : List Nat) (q : Nat), (∀ y, y ∈ s → zP z' (cid y) 11 = zP z (cid y) 11) → LK z cid (s ++ x :: k :: r) q → LK z' cid (s ++ x :: r) q
  | [], q, _, h => ⟨h.1, by rw [hx]; exact LK_F r _ hr h.2.2⟩
  | y :: s, q, hs, h => ⟨h.1, by rw [hs y List.mem_cons_self]; exact LK_r1 hx hr s _ (fun w hw => hs w (List.mem_cons_of_mem _ hw)) h.2⟩
def lid (cid : Nat → Nat) (s : List Nat) : Nat := match s.getLast? with
  | none => 0
  | some x => cid x
theorem lid_n (cid : Nat → Nat) : lid cid [] = 0 := rfl
theorem lid_c (cid : Nat → Nat) (s : List Nat) (x : Nat) : lid cid (s ++ [x]) = cid x := by
  unfold lid; rw [List.getLast?_concat]
/-- the heap behind the insertion -/
def inz (z : ZS) (pl a : Nat) (l2 : Nat) : ZS := if l2 = 0 then sP (sP (sI z pl 2 1) a 11 (zP z pl 0)) pl 0 a else sP (sP (sI z pl 2 1) a 11 (zP z l2 11)) l2 11 a
theorem P_insert (d : Nat) (z : ZS) (cid : Nat → Nat) (D : Nat → Int32) (pl a k : Nat) (s r : List Nat) (hp : tg z pl = 13) (ha : tg z a = 11) (hpa : a ≠ pl) (hd : zI z a 4 = D k) (hL : LK z cid (s ++ r) (zP z pl 0)) (hl : ∀ y, y ∈ s ++ r → tg z (cid y) = 11 ∧ cid y ≠ 0 ∧ cid y ≠ a ∧ cid y ≠ pl ∧ zI z (cid y) 4 = D y) (hs : ∀ y, y ∈ s → ¬ D k < D y) (hr : ∀ y t, r = y :: t → D k < D y) : Rn (d + 1) i_P_insert [.ref pl, .ref a] z none (inz z pl a (lid cid s)) := by
  refine rn_i (full := cd_38) hp (ok_n rfl) rfl (fun K hK => hK 0 _ _ _ ⟨⟨hp, Or.inr rfl⟩, ⟨hp, ?_⟩⟩)
  have i4 : ∀ b, b ≠ pl → zI (sI z pl 2 1) b 4 = zI z b 4 := fun b hb => sI_n (fun q => hb q.1)
  have fin : ∀ l3 : Nat, (l3 = 0 ∨ (tg z l3 = 11 ∧ l3 ≠ 0 ∧ l3 ≠ pl ∧ D k < zI z l3 4)) → (lid cid s = 0 ∨ tg z (lid cid s) = 11) → K 12 [.ref pl, .ref a, .ref (lid cid s), .ref l3] [] (sI z pl 2 1) := by
    intro l3 h3 h2
    have inn : lid cid s = 0 → inz z pl a (lid cid s) = sP (sP (sI z pl 2 1) a 11 (zP z pl 0)) pl 0 a := fun w => if_pos w
    have inc : ¬ lid cid s = 0 → inz z pl a (lid cid s) = sP (sP (sI z pl 2 1) a 11 (zP z (lid cid s) 11)) (lid cid s) 11 a := fun w => if_neg w
    generalize lid cid s = l2 at *
    refine hK 8 _ _ _ ⟨fun c1 => ⟨fun c2 => ⟨hp, ⟨ha, ⟨hp, ⟨rfl, (inn c2).symm⟩⟩⟩⟩, fun c2 => ⟨h2.resolve_left c2, ⟨ha, ⟨h2.resolve_left c2, ⟨rfl, (inc c2).symm⟩⟩⟩⟩⟩, fun c1 => ?_⟩
    obtain ⟨t3, n3, p3, d3⟩ := h3.resolve_left c1
    refine ⟨t3, ⟨ha, ⟨fun c13 => ⟨fun c14 => ⟨hp, ⟨ha, ⟨hp, ⟨rfl, (inn c14).symm⟩⟩⟩⟩, fun c14 => ⟨h2.resolve_left c14, ⟨ha, ⟨h2.resolve_left c14, ⟨rfl, (inc c14).symm⟩⟩⟩⟩⟩, fun c13 => absurd ?_ c13⟩⟩⟩
    show zI (sI z pl 2 1) a 4 < zI (sI z pl 2 1) l3 4
    rw [i4 a hpa, i4 l3 p3, hd]; exact d3
  have go : ∀ (s2 s1 : List Nat) (l3 : Nat), s = s1 ++ s2 → LK z cid (s2 ++ r) l3 → K 12 [.ref pl, .ref a, .ref (lid cid s1), .ref l3] [] (sI z pl 2 1) := by
    intro s2
    induction s2 with
    | nil =>
      intro s1 l3 e h
      rw [List.append_nil] at e
      subst e
      refine fin l3 ?_ ?_
      · cases r with
        | nil => exact Or.inl h
        | cons y t =>
          obtain ⟨q1, q2, q3, q4, q5⟩ := hl y (List.mem_append_right _ List.mem_cons_self)
          have h1 : l3 = cid y := h.1
          rw [h1]
          exact Or.inr ⟨q1, q2, q4, by rw [q5]; exact hr y t rfl⟩
      · rcases List.eq_nil_or_concat s with w | ⟨s', x, w⟩
        · rw [w]; exact Or.inl rfl
        · rw [w, List.concat_eq_append, lid_c]
          exact Or.inr (hl x (by rw [w, List.concat_eq_append]; simp)).1
    | cons y t ih =>
      intro s1 l3 e h
      obtain ⟨q1, q2, q3, q4, q5⟩ := hl y (by rw [e]; simp)
      have h1 : l3 = cid y := h.1
      subst h1
      have g := ih (s1 ++ [y]) (zP z (cid y) 11) (by rw [e]; simp) h.2
      rw [lid_c] at g
      refine hK 8 _ _ _ ⟨fun c1 => absurd c1 q2, fun c1 => ⟨q1, ⟨ha, ⟨fun c13 => absurd ?_ (hs y (by rw [e]; simp)), fun c13 => ⟨q1, g⟩⟩⟩⟩⟩
      have c13 : zI (sI z pl 2 1) a 4 < zI (sI z pl 2 1) (cid y) 4 := c13
      rw [i4 a hpa, i4 (cid y) q4, hd, q5] at c13
      exact c13
  exact go s [] (zP z pl 0) rfl hL
theorem LK_inz {z : ZS} {cid : Nat → Nat} {pl k : Nat} {s r : List Nat} (hL : LK z cid (s ++ r) (zP z pl 0)) (hl : ∀ y, y ∈ s ++ r → cid y ≠ 0 ∧ cid y ≠ cid k ∧ cid y ≠ pl) (hk : cid k ≠ pl) (hn : (s ++ r).Nodup) (hi : ∀ x y, x ∈ s ++ r → y ∈ s ++ r → cid x = cid y → x = y) : LK (inz z pl (cid k) (lid cid s)) cid (s ++ k :: r) (zP (inz z pl (cid k) (lid cid s)) pl 0) := by
  rcases List.eq_nil_or_concat s with w | ⟨s', x, w⟩
  · subst w
    rw [lid_n]
    unfold inz
    rw [if_pos rfl]
    refine ⟨sP_e, ?_⟩
    rw [sP_n (fun q => hk q.1), sP_e]
    exact LK_F r _ (fun y hy => by
      obtain ⟨q1, q2, q3⟩ := hl y hy
      exact (sP_n (fun q => q3 q.1)).trans (sP_n (fun q => q2 q.1))) hL
  · rw [List.concat_eq_append] at w
    subst w
    rw [lid_c]
    rw [List.append_assoc] at hL hl hn hi ⊢
    have hL : LK z cid (s' ++ x :: r) (zP z pl 0) := hL
    have mx : x ∈ s' ++ ([x] ++ r) := by simp
    obtain ⟨q1, q2, q3⟩ := hl x mx
    unfold inz
    rw [if_neg q1]
    have oth : ∀ y, y ∈ s' ++ ([x] ++ r) → y ≠ x → zP (sP (sP (sI z pl 2 1) (cid k) 11 (zP z (cid x) 11)) (cid x) 11 (cid k)) (cid y) 11 = zP z (cid y) 11 := fun y hy ne => by
      obtain ⟨g1, g2, g3⟩ := hl y hy
      exact (sP_n (fun q => ne (hi y x hy mx q.1))).trans (sP_n (fun q => g2 q.1))
    have nd := List.nodup_append.mp hn
    have xr : ∀ y, y ∈ r → y ≠ x := fun y hy e => by
      have := List.nodup_append.mp nd.2.1
      exact this.2.2 x (by simp) y hy e.symm
    have xs : ∀ y, y ∈ s' → y ≠ x := fun y hy e => nd.2.2 y hy x (by simp) e
    rw [sP_n (fun q => by omega), sP_n (fun q => by omega)]
    exact LK_i1 sP_e ((sP_n (fun q => q2 q.1.symm)).trans sP_e) (fun y hy => oth y (by simp [hy]) (xr y hy)) s' _ (fun y hy => oth y (by simp [hy]) (xs y hy)) hL
