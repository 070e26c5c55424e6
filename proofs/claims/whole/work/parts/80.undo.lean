/-! A card is taken out; calls of both: undo. Own work. -/
/-- the heap behind the removal -/
def rmz (z : ZS) (pl a l2 : Nat) : ZS := if l2 = 0 then sP (sI z pl 2 1) pl 0 (zP z a 11) else sP (sI z pl 2 1) l2 11 (zP z a 11)
theorem P_remove (d : Nat) (z : ZS) (cid : Nat → Nat) (pl k : Nat) (s r : List Nat) (hp : tg z pl = 13) (hL : LK z cid (s ++ k :: r) (zP z pl 0)) (hl : ∀ y, y ∈ s ++ k :: r → tg z (cid y) = 11 ∧ 6 ≤ cid y) (hn : (s ++ k :: r).Nodup) (hi : ∀ x y, x ∈ s ++ k :: r → y ∈ s ++ k :: r → cid x = cid y → x = y) : Rn (d + 1) i_P_remove [.ref pl, .ref (cid k)] z none (rmz z pl (cid k) (lid cid s)) := by
  have mk : k ∈ s ++ k :: r := by simp
  have nd := List.nodup_append.mp hn
  have ks : ∀ y, y ∈ s → cid y ≠ cid k := fun y hy e => nd.2.2 y hy k (by simp) (hi y k (by simp [hy]) mk e)
  have kr : ∀ y, y ∈ r → cid y ≠ cid k := fun y hy e => by
    have e2 := hi y k (by simp [hy]) mk e
    rw [e2] at hy
    exact (List.nodup_cons.mp nd.2.1).1 hy
  have sr : ∀ x y, x ∈ s → y ∈ r → cid y ≠ cid x := fun x y hx hy e => nd.2.2 x hx y (by simp [hy]) (hi y x (by simp [hy]) (by simp [hx]) e).symm
  have ta := hl k mk
  refine rn_i (full := cd_39) hp (ok_n rfl) rfl (fun K hK => ?_)
  have endB : ∀ z2 : ZS, (∀ a, tg z2 a = tg z a) → z2 = rmz z pl (cid k) (lid cid s) → ∀ (r2 : List Nat) (l3 : Nat), (∀ y, y ∈ r2 → y ∈ r) → LK z2 cid r2 l3 → K 27 [.ref pl, .ref (cid k), .ref l3] [] z2 := by
    intro z2 ht he r2
    induction r2 with
    | nil =>
      intro l3 _ h
      have h : l3 = 0 := h
      subst h
      exact hK 15 _ _ _ ⟨fun _ => ⟨rfl, he⟩, fun c => absurd rfl c⟩
    | cons y t ih =>
      intro l3 hm h
      have h1 : l3 = cid y := h.1
      subst h1
      have hy := hl y (by simp [hm y List.mem_cons_self])
      have nz : cid y ≠ 0 := by omega
      have tt : tg z2 (cid y) = 11 := (ht _).trans hy.1
      have nxt : (zP z2 (cid y) 11 = 0 ∨ 6 ≤ zP z2 (cid y) 11) ∧ ¬ zP z2 (cid y) 11 = cid k := by
        cases t with
        | nil =>
          have h2 : zP z2 (cid y) 11 = 0 := h.2
          rw [h2]
          exact ⟨Or.inl rfl, by omega⟩
        | cons y2 t2 =>
          have h2 : zP z2 (cid y) 11 = cid y2 := h.2.1
          have m2 := hm y2 (by simp)
          rw [h2]
          exact ⟨Or.inr (hl y2 (by simp [m2])).2, kr y2 m2⟩
      have g := ih (zP z2 (cid y) 11) (fun w hw => hm w (List.mem_cons_of_mem _ hw)) h.2
      exact hK 15 _ _ _ ⟨fun c => absurd c nz, fun c => ⟨tt, ⟨fun c4 => absurd c4 nxt.2, fun c4 => ⟨fun q => absurd ⟨nxt.1, Or.inr ta.2⟩ q, fun _ => ⟨tt, g⟩⟩⟩⟩⟩
  have goA : ∀ (s2 s1 : List Nat) (y l3 : Nat), s = s1 ++ y :: s2 → LK z cid (y :: (s2 ++ k :: r)) l3 → K 27 [.ref pl, .ref (cid k), .ref l3] [] (sI z pl 2 1) := by
    intro s2
    induction s2 with
    | nil =>
      intro s1 y l3 e h
      have h1 : l3 = cid y := h.1
      subst h1
      have ys : y ∈ s := by rw [e]; simp
      have hy := hl y (by simp [ys])
      have nz : cid y ≠ 0 := by omega
      have h2 : zP z (cid y) 11 = cid k := h.2.1
      refine hK 15 _ _ _ ⟨fun c => absurd c nz, fun c => ⟨hy.1, ⟨fun c4 => ⟨ta.1, ⟨hy.1, ⟨hy.1, ?_⟩⟩⟩, fun c4 => absurd h2 c4⟩⟩⟩
      show K 27 [.ref pl, .ref (cid k), .ref (zP (sP (sI z pl 2 1) (cid y) 11 (zP z (cid k) 11)) (cid y) 11)] [] (sP (sI z pl 2 1) (cid y) 11 (zP z (cid k) 11))
      rw [sP_e]
      refine endB (sP (sI z pl 2 1) (cid y) 11 (zP z (cid k) 11)) (fun _ => rfl) ?_ r _ (fun _ h => h) (LK_F (z := z) r _ (fun w hw => ?_) h.2.2)
      · unfold rmz
        rw [e, lid_c, if_neg nz]
      · exact sP_n (fun q => sr y w ys hw q.1)
    | cons y2 t ih =>
      intro s1 y l3 e h
      have h1 : l3 = cid y := h.1
      subst h1
      have ys : y ∈ s := by rw [e]; simp
      have y2s : y2 ∈ s := by rw [e]; simp
      have hy := hl y (by simp [ys])
      have nz : cid y ≠ 0 := by omega
      have h2 : zP z (cid y) 11 = cid y2 := h.2.1
      have g := ih (s1 ++ [y]) y2 (zP z (cid y) 11) (by rw [e]; simp) h.2
      have n2 : ¬ zP z (cid y) 11 = cid k := by rw [h2]; exact ks y2 y2s
      have b2 : 6 ≤ zP z (cid y) 11 := by rw [h2]; exact (hl y2 (by simp [y2s])).2
      exact hK 15 _ _ _ ⟨fun c => absurd c nz, fun c => ⟨hy.1, ⟨fun c4 => absurd c4 n2, fun c4 => ⟨fun q => absurd ⟨Or.inr b2, Or.inr ta.2⟩ q, fun _ => ⟨hy.1, g⟩⟩⟩⟩⟩
  cases hs : s with
  | nil =>
    rw [hs] at hL
    have h1 : zP z pl 0 = cid k := hL.1
    refine hK 0 _ _ _ ⟨⟨hp, Or.inr rfl⟩, ⟨hp, ⟨fun c3 => ⟨ta.1, ⟨hp, ⟨rfl, ?_⟩⟩⟩, fun c3 => absurd h1 c3⟩⟩⟩
    rw [hs]
    rfl
  | cons y t =>
    rw [hs] at hL
    have ys : y ∈ s := by rw [hs]; simp
    have h1 : zP z pl 0 = cid y := hL.1
    have n2 : ¬ zP z pl 0 = cid k := by rw [h1]; exact ks y ys
    have b2 : 6 ≤ zP z pl 0 := by rw [h1]; exact (hl y (by simp [ys])).2
    exact hK 0 _ _ _ ⟨⟨hp, Or.inr rfl⟩, ⟨hp, ⟨fun c3 => absurd c3 n2, fun c3 => ⟨fun q => absurd ⟨Or.inr b2, Or.inr ta.2⟩ q, fun _ => ⟨hp, goA t [] y (zP z pl 0) hs hL⟩⟩⟩⟩⟩
theorem LK_rmz {z : ZS} {cid : Nat → Nat} {pl k : Nat} {s r : List Nat} (hL : LK z cid (s ++ k :: r) (zP z pl 0)) (hl : ∀ y, y ∈ s ++ k :: r → cid y ≠ 0 ∧ cid y ≠ pl) (hn : (s ++ k :: r).Nodup) (hi : ∀ x y, x ∈ s ++ k :: r → y ∈ s ++ k :: r → cid x = cid y → x = y) : LK (rmz z pl (cid k) (lid cid s)) cid (s ++ r) (zP (rmz z pl (cid k) (lid cid s)) pl 0) := by
  rcases List.eq_nil_or_concat s with w | ⟨s', x, w⟩
  · subst w
    rw [lid_n]
    unfold rmz
    rw [if_pos rfl, sP_e]
    exact LK_F r _ (fun y hy => by
      have q := hl y (by simp [hy])
      exact sP_n (fun u => q.2 u.1)) hL.2
  · rw [List.concat_eq_append] at w
    subst w
    rw [lid_c]
    rw [List.append_assoc] at hL hl hn hi ⊢
    have hL : LK z cid (s' ++ x :: k :: r) (zP z pl 0) := hL
    have mx : x ∈ s' ++ ([x] ++ k :: r) := by simp
    obtain ⟨q1, q2⟩ := hl x mx
    unfold rmz
    rw [if_neg q1]
    have oth : ∀ y, y ∈ s' ++ ([x] ++ k :: r) → y ≠ x → zP (sP (sI z pl 2 1) (cid x) 11 (zP z (cid k) 11)) (cid y) 11 = zP z (cid y) 11 := fun y hy ne => sP_n (fun q => ne (hi y x hy mx q.1))
    have nd := List.nodup_append.mp hn
    have xr : ∀ y, y ∈ r → y ≠ x := fun y hy e => by
      have := List.nodup_append.mp nd.2.1
      exact this.2.2 x (by simp) y (by simp [hy]) e.symm
    have xs : ∀ y, y ∈ s' → y ≠ x := fun y hy e => nd.2.2 y hy x (by simp) e
    rw [sP_n (fun q => by omega)]
    exact LK_r1 sP_e (fun y hy => oth y (by simp [hy]) (xr y hy)) s' _ (fun y hy => oth y (by simp [hy]) (xs y hy)) hL
theorem rmz_Fr (y : ZS) (pl x l2 : Nat) : Fr (fun a j => a = pl ∧ j = 2) (fun a j => (a = pl ∧ j = 0) ∨ (¬ l2 = 0 ∧ a = l2 ∧ j = 11)) y (rmz y pl x l2) := by
  unfold rmz
  by_cases e : l2 = 0
  · rw [if_pos e]
    exact ⟨Nat.le_refl _, fun _ _ => ⟨rfl, rfl⟩, fun a j _ w => sI_n w, fun a j _ w => sP_n (fun q => w (Or.inl q))⟩
  · rw [if_neg e]
    exact ⟨Nat.le_refl _, fun _ _ => ⟨rfl, rfl⟩, fun a j _ w => sI_n w, fun a j _ w => sP_n (fun q => w (Or.inr ⟨e, q⟩))⟩
theorem rmz_z (y : ZS) (pl x l2 : Nat) : (rmz y pl x l2).1 = y.1 ∧ (rmz y pl x l2).2.1 = y.2.1 ∧ (∀ a, tg (rmz y pl x l2) a = tg y a) ∧ (∀ a, ln (rmz y pl x l2) a = ln y a) ∧ zI (rmz y pl x l2) pl 2 = 1 ∧ ∀ a j, zI (rmz y pl x l2) a j = zI (sI y pl 2 1) a j := by
  unfold rmz
  by_cases e : l2 = 0
  · rw [if_pos e]; exact ⟨rfl, rfl, fun _ => rfl, fun _ => rfl, sI_e, fun _ _ => rfl⟩
  · rw [if_neg e]; exact ⟨rfl, rfl, fun _ => rfl, fun _ => rfl, sI_e, fun _ _ => rfl⟩
section Ops20
variable {z : ZS} {n R : Nat}
theorem op_undo (hS : Sim z n R) : Op2 i_X_undo i_M_undo [] z := by
  have hC := hS.2
  have hT := hC.1
  have t6 := hT.2.1
  have t9 := hT.2.2.2.2.1
  obtain ⟨h60, hV, h6⟩ := hC.2.2.2.2.2.1
  cases n with
  | zero =>
    have rc : Rn 11 i_X_cardOf [.ref 6, .int (zI z 6 3 - 1)] z (some (.ref 0)) z := X_cardOf_no 10 hT 0 h6 h60 _ (by rw [h6]; decide)
    exact fnd0 hS 1 (rn_i (full := cd_89) t6.1 (ok_n rfl) rfl (fun K hK' => hK' 0 _ _ _ ⟨t6.1, ⟨_, _, rc, ⟨fun c3 => ⟨_, _, X_rN 9 hT, rfl, rfl⟩, fun c3 => absurd rfl c3⟩⟩⟩)) (fun zz hW hw => M_undo_bad 10 zz (VZ zz) (AZ zz) hW.1 (by rw [hW.2.1]; rfl))
  | succ m =>
    have hB := hC.2.2.2.2.2.2.1
    have hm : m < m + 1 := by omega
    obtain ⟨b1, b2, b3, b4, b5, b6, b7, b8, b9, b10, ⟨p, hp, e9, e2⟩, b12⟩ := hB.1 m hm
    have nz : ¬ zP z 9 m = 0 := by omega
    have h75 := hT.1
    have rc : Rn 11 i_X_cardOf [.ref 6, .int (zI z 6 3 - 1)] z (some (.ref (zP z 9 m))) z := by
      rw [h6, nI_pred]; exact X_cardOf_ok 10 hT (m + 1) m h6 h60 hm
    have tp := (hT.2.2.2.1.2.2 p hp).2
    have c10 := hC.2.2.2.2.2.2.2.2.2
    obtain ⟨a1, a2, a3⟩ := c10 p hp
    have elp := (lp_add (A := TA z) (A1 := TA z) (n := m) (fun _ _ => ⟨rfl, rfl⟩) p).1 e9
    obtain ⟨s, r, l1, hins, l3, l4⟩ := insO_split (TA z 10) m (lpF (TA z) m p)
    rw [hins] at elp
    have kn : ∀ k, k ∈ s ++ m :: r → k < m + 1 ∧ k ∈ lpF (TA z) (m + 1) p := fun k hk => by rw [← elp] at hk; exact ⟨((lpF_mem _ (m + 1) p k).mp hk).1, hk⟩
    have nd : (s ++ m :: r).Nodup := by rw [← elp]; exact lpF_nd _ _ _
    have hij : ∀ a b, a ∈ s ++ m :: r → b ∈ s ++ m :: r → zP z 9 a = zP z 9 b → a = b := fun a b ha hb q => by
      refine Classical.byContradiction (fun ne => ?_)
      have := CB_ne hB (kn a ha).1 (kn b hb).1 ne
      omega
    have hl75 : ∀ k, k < m + 1 → 75 ≤ zP z 9 k ∧ zP z 9 k + 2 ≤ zn z := fun k hk => by
      have q2 := (hB.1 k hk).2.1
      have q1 := (hB.1 k hk).1
      split at q2 <;> omega
    rw [elp] at a1
    have rr : Rn 11 i_P_remove [.ref (zP z (zP z 9 m) 2), .ref (zP z 9 m)] z none (rmz z (34 + p) (zP z 9 m) (lid (zP z 9) s)) := by
      rw [e2]
      exact P_remove 10 z (zP z 9) (34 + p) m s r tp a1 (fun y hy => ⟨(hB.1 y (kn y hy).1).2.2.1, by have := hl75 y (kn y hy).1; omega⟩) nd hij
    have lkz := LK_rmz (k := m) a1 (fun y hy => by have := hl75 y (kn y hy).1; omega) nd hij
    have hFi := rmz_Fr z (34 + p) (zP z 9 m) (lid (zP z 9) s)
    obtain ⟨wn, ww, wt, wl, ws, wI⟩ := rmz_z z (34 + p) (zP z 9 m) (lid (zP z 9) s)
    have hl2 : ¬ lid (zP z 9) s = 0 → ∃ k, k ∈ s ∧ lid (zP z 9) s = zP z 9 k := fun q => by
      rcases List.eq_nil_or_concat s with u | ⟨s', v, u⟩
      · rw [u] at q; exact absurd (lid_n _) q
      · rw [List.concat_eq_append] at u
        exact ⟨v, by rw [u]; simp, by rw [u, lid_c]⟩
    generalize lid (zP z 9) s = l2 at *
    generalize rmz z (34 + p) (zP z 9 m) l2 = w at *
    have w63 : zI w 6 3 = nI (m + 1) := by rw [wI, sI_n (by omega)]; exact h6
    have tw6 : tg w 6 = 16 := (wt 6).trans t6.1
    have pw62 : zP w 6 2 = 9 := (hFi.2.2.2 6 2 (by omega) (fun q => by
      rcases q with q | ⟨q0, q, _⟩
      · omega
      · obtain ⟨k, hk', e⟩ := hl2 q0
        have := hl75 k (kn k (by simp [hk'])).1
        omega)).trans t6.2.2.2.1
    have es : sP (sI w 6 3 (zI w 6 3 - 1)) 9 (zI (sI w 6 3 (zI w 6 3 - 1)) 6 3).toNatClampNeg 0 = sP (sI w 6 3 (nI m)) 9 m 0 := by
      rw [sI_e, w63, nI_pred, nI_clamp (by omega)]
    have vp : vp_in (zI (sI w 6 3 (zI w 6 3 - 1)) 6 3) (ln w 9) := by
      rw [sI_e, w63, nI_pred, wl, t9.2]; exact vp_in_nI (by omega) (by decide)
    have er : zI (sI w 6 3 (zI w 6 3 - 1)) 6 3 = nI m := by rw [sI_e, w63, nI_pred]
    have rx : Rn 12 i_X_undo [.ref 6] z (some (.int (nI m))) (sP (sI w 6 3 (nI m)) 9 m 0) := by
      rw [← es, ← er]
      exact rn_i (full := cd_89) t6.1 (ok_n rfl) rfl (fun K hK' => hK' 0 _ _ _ ⟨t6.1, ⟨_, _, rc, ⟨fun c3 => absurd c3 nz, fun c3 => ⟨b3, ⟨_, _, rr, ⟨tw6, ⟨tw6, ⟨⟨tw6, pw62⟩, ⟨tw6, ⟨⟨(wt 9).trans t9.1, vp, Or.inl rfl⟩, ⟨tw6, ⟨rfl, rfl⟩⟩⟩⟩⟩⟩⟩⟩⟩⟩⟩⟩)
    have hF2 : Fr (fun a j => a = 6 ∧ j = 3) (fun a j => a = 9 ∧ j = m) w (sP (sI w 6 3 (nI m)) 9 m 0) := ⟨Nat.le_refl _, fun _ _ => ⟨rfl, rfl⟩, fun a j _ q => sI_n q, fun a j _ q => sP_n q⟩
    have c9k : ∀ k, k ≠ m → zP (sP (sI w 6 3 (nI m)) 9 m 0) 9 k = zP w 9 k := fun k hk => sP_n (fun q => hk q.2)
    have o9 : ∀ a j, a ≠ 9 → zP (sP (sI w 6 3 (nI m)) 9 m 0) a j = zP w a j := fun a j ha => sP_n (fun q => ha q.1)
    have i63 : zI (sP (sI w 6 3 (nI m)) 9 m 0) 6 3 = nI m := by rw [sP_zI, sI_e]
    have iS : zI (sP (sI w 6 3 (nI m)) 9 m 0) (34 + p) 2 = 1 := by rw [sP_zI, sI_n (by omega)]; exact ws
    have zz : (sP (sI w 6 3 (nI m)) 9 m 0).1 = z.1 ∧ (sP (sI w 6 3 (nI m)) 9 m 0).2.1 = z.2.1 := ⟨wn, ww⟩
    have hF := Fr_t hFi hF2
    generalize sP (sI w 6 3 (nI m)) 9 m 0 = z1 at *
    have hW6 : ∀ a j, (((a = 34 + p ∧ j = 0) ∨ (¬ l2 = 0 ∧ a = l2 ∧ j = 11)) ∨ (a = 9 ∧ j = m)) → (a = 34 + p ∧ j = 0) ∨ (a = 9 ∧ j = m) ∨ (j = 11 ∧ ∃ k, k ∈ s ∧ a = zP z 9 k) := fun a j q => by
      rcases q with (q | ⟨q0, q, q'⟩) | q
      · exact Or.inl q
      · obtain ⟨k, hk', e⟩ := hl2 q0
        exact Or.inr (Or.inr ⟨q', k, hk', q.trans e⟩)
      · exact Or.inr (Or.inl q)
    have hWa : ∀ a j, (((a = 34 + p ∧ j = 0) ∨ (¬ l2 = 0 ∧ a = l2 ∧ j = 11)) ∨ (a = 9 ∧ j = m)) → a = 9 ∨ a = 34 + p ∨ 75 ≤ a := fun a j q => by
      rcases hW6 a j q with u | u | ⟨_, k, hk', e⟩
      · omega
      · omega
      · have := hl75 k (kn k (by simp [hk'])).1
        omega
    have cz : ∀ k, k < m → zP z1 9 k = zP z 9 k := fun k hk => (c9k k (by omega)).trans (hFi.2.2.2 9 k (by omega) (fun q => by
      rcases q with q | ⟨q0, q, _⟩
      · omega
      · obtain ⟨k', hk', e⟩ := hl2 q0
        have := hl75 k' (kn k' (by simp [hk'])).1
        omega))
    have hC1 : Cls z1 (TA z) (FZ z) (upd (VZ z) 10 (nI m)) m R := by
      obtain ⟨c1, c2, c3, c4, c5, c6, c7, c8, c9, _⟩ := hC
      obtain ⟨v1, v2, v3, v4, v5⟩ := c8
      refine ⟨L_CT hF (fun a j q q' => by omega) (fun a j q => by have := hWa a j q; omega) c1, L_CS hF h75 (fun a j q q' => by omega) (fun a j q q' => by have := hWa a j q; omega) c2, L_RG (V := VZ z) hF h75 (fun a j q q' => by omega) (fun a j q => by have := hWa a j q; omega) c3, L_RW (V := VZ z) hF h75 (fun a j q q' => by omega) c4, L_AN hF h75 (fun a j q q' => by omega) c5, ⟨by omega, rfl, i63⟩, ⟨fun k hk => ?_, fun a b hab hb => ?_⟩, ⟨v1, fun k hk => v2 k (by omega), fun k hk => v3 k (by omega), v4, fun k hk => v5 k (by omega)⟩, fun k hk => c9 k (by omega), fun p' hp' => ?_⟩
      · rw [cz k hk]
        have hk1 := hl75 k (by omega)
        refine BC_t hF (c7.1 k (by omega)) (fun j _ _ q => by omega) (fun _ j q => by omega) (fun j j1 q => ?_) (fun _ _ _ => rfl) (fun _ _ => rfl) ?_
        · rcases hW6 _ j q with u | u | ⟨u, _⟩
          · omega
          · omega
          · omega
        · rw [hF.2.2.1 _ _ (by omega) (by omega)]
          exact (c7.1 k (by omega)).2.2.2.2.2.2.2.2.2.1
      · rw [cz a (by omega), cz b hb]
        exact c7.2 a b hab (by omega)
      · by_cases e : p' = p
        · subst e
          refine ⟨?_, Or.inr iS, fun q => absurd (iS.symm.trans q) nz1⟩
          have mlt : ∀ k, k ∈ lpF (TA z) m p' → k < m := fun k hk => ((lpF_mem _ m p' k).mp hk).1
          rw [o9 _ _ (by omega), l1]
          refine LK_c _ _ (fun k hk => cz k (mlt k (by rw [l1]; exact hk))) (LK_F (z := w) (cid := zP z 9) _ _ (fun k hk => o9 _ _ ?_) lkz)
          have := hl75 k (by have := mlt k (by rw [l1]; exact hk); omega)
          omega
        · have el : lpF (TA z) m p' = lpF (TA z) (m + 1) p' := ((lp_add (A := TA z) (A1 := TA z) (n := m) (fun _ _ => ⟨rfl, rfl⟩) p').2 (fun q => by rw [e9] at q; exact e ((nI_eq (by omega) (by omega)).mp q).symm)).symm
          have mlt : ∀ k, k ∈ lpF (TA z) (m + 1) p' → k < m := fun k hk => by rw [← el] at hk; exact ((lpF_mem _ m p' k).mp hk).1
          refine PL_o hF h75 hp' c7 el (fun k hk => cz k (mlt k hk)) ⟨fun _ _ => rfl, fun k _ => ⟨fun _ _ _ => rfl, fun _ _ => rfl⟩⟩ (fun k hk => ?_) (fun q => by omega) (fun j q => ?_) (c10 p' hp')
          · have kk := mlt k hk
            have hk1 := hl75 k (by omega)
            refine ⟨fun j q => by omega, fun n2 j q => by omega, fun j q => ?_⟩
            rcases hW6 _ j q with u | u | ⟨_, k', hk', u⟩
            · omega
            · omega
            · have m' := kn k' (by simp [hk'])
              have ne : k ≠ k' := fun q => lpF_oth hp hp' e hk (by rw [q]; exact m'.2)
              have := CB_ne c7 (show k < m + 1 by omega) m'.1 ne
              omega
          · rcases hW6 _ j q with u | u | ⟨_, k', hk', u⟩
            · omega
            · omega
            · have := hl75 k' (kn k' (by simp [hk'])).1
              omega
    have hKq : Kq z z1 := Kq_Fr h75 hF (fun a j q q' => by omega) (fun a j q q' => by have := hWa a j q; omega)
    have hM1 := Kq_MT hKq hS.1
    have rm := M_undo_ok 10 z1 (VZ z1) (AZ z1) hM1 m (by rw [Kq_VZ hKq]; exact hV) (by omega)
    rw [Kq_VZ hKq] at rm
    refine op_g hM1 (r := nI m) (V' := upd (VZ z) 10 (nI m)) (A' := AZ z1) rx (by rw [Kq_VZ hKq]; exact rm) hC1 ?_ ?_ rfl rfl rfl rfl (by show z1.1 ≤ z.1 + 3; rw [zz.1]; omega) (by show z1.2.1 ≤ z.2.1 + 60; rw [zz.2]; omega)
    · exact trw_w (fun j hj => Kq_AZ hKq j (by omega))
    · exact fzF_e (Kq_AZ hKq 17 (by decide)) (Kq_AZ hKq 7 (by decide)) (Kq_AZ hKq 16 (by decide))
end Ops20
