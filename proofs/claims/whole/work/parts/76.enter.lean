/-! A new card: its cells, and that it is entered. Own work. -/
theorem inz_Fr (y : ZS) (pl x l2 : Nat) : Fr (fun a j => a = pl ∧ j = 2) (fun a j => (a = x ∧ j = 11) ∨ (a = pl ∧ j = 0) ∨ (¬ l2 = 0 ∧ a = l2 ∧ j = 11)) y (inz y pl x l2) := by
  unfold inz
  by_cases e : l2 = 0
  · rw [if_pos e]
    exact ⟨Nat.le_refl _, fun _ _ => ⟨rfl, rfl⟩, fun a j _ w => sI_n w, fun a j _ w => (sP_n (fun q => w (Or.inr (Or.inl q)))).trans (sP_n (fun q => w (Or.inl q)))⟩
  · rw [if_neg e]
    exact ⟨Nat.le_refl _, fun _ _ => ⟨rfl, rfl⟩, fun a j _ w => sI_n w, fun a j _ w => (sP_n (fun q => w (Or.inr (Or.inr ⟨e, q⟩)))).trans (sP_n (fun q => w (Or.inl q)))⟩
theorem inz_z (y : ZS) (pl x l2 : Nat) : (inz y pl x l2).1 = y.1 ∧ (inz y pl x l2).2.1 = y.2.1 ∧ zI (inz y pl x l2) pl 2 = 1 ∧ ∀ a j, zI (inz y pl x l2) a j = zI (sI y pl 2 1) a j := by
  unfold inz
  by_cases e : l2 = 0
  · rw [if_pos e]; exact ⟨rfl, rfl, sI_e, fun _ _ => rfl⟩
  · rw [if_neg e]; exact ⟨rfl, rfl, sI_e, fun _ _ => rfl⟩
theorem X_enter (d : Nat) (y : ZS) (hT : CT y) (n x p : Nat) (hn : zI y 6 3 = nI n) (h60 : n < 60) (hx : tg y x = 11) (hx6 : 75 ≤ x) (h2 : zP y x 2 = 34 + p) (h0 : zI y x 0 = nI n) {z1 : ZS} (hz : zI z1 x 0 = nI n) (ht : tg z1 x = 11) (ri : Rn (d + 1) i_P_insert [.ref (34 + p), .ref x] (sI (sP y 9 n x) 6 3 (nI (n + 1))) none z1) : Rn (d + 2) i_X_enter [.ref 6, .ref x] y (some (.int (nI n))) z1 := by
  have t6 := hT.2.1
  have t9 := hT.2.2.2.2.1
  have cn : (zI y 6 3).toNatClampNeg = n := by rw [hn]; exact nI_clamp (by omega)
  have e2 : zP (sI (sP y 9 n x) 6 3 (nI (n + 1))) x 2 = 34 + p := (sP_n (by omega)).trans h2
  rw [← e2] at ri
  refine rn_i (full := cd_101) t6.1 (ok_n rfl) rfl (fun K hK => hK 0 _ _ _ ⟨t6.1, ⟨fun c2 => absurd ?_ (nI_ge (a := n) (b := 60) h60 (by decide)), fun c2 => ⟨⟨t6.1, t6.2.2.2.1⟩, ⟨t6.1, ⟨⟨t9.1, ?_⟩, ⟨t6.1, ⟨t6.1, ⟨hx, ?_⟩⟩⟩⟩⟩⟩⟩⟩)
  · have c2 : 60 ≤ zI y 6 3 := c2
    rw [hn] at c2; exact c2
  · refine ⟨?_, Or.inr hx⟩
    show vp_in (zI y 6 3) (ln y 9)
    rw [hn, t9.2]; exact vp_in_nI h60 (by decide)
  · have es : sI (sP y 9 (zI y 6 3).toNatClampNeg x) 6 3 (zI y 6 3 + 1) = sI (sP y 9 n x) 6 3 (nI (n + 1)) := by rw [cn, hn, nI_succ]
    rw [← es] at ri
    refine ⟨_, _, ri, ⟨ht, ⟨?_, rfl⟩⟩⟩
    show some (Value.int (zI z1 x 0)) = _
    rw [hz]
theorem enter_ok (d : Nat) {z y : ZS} {A A1 : Nat → Nat → Int32} {F F1 V V1 : Nat → Int32} {n R p : Nat} (hC : Cls z A F V n R) (h60 : n < 60) (hp : p < 12) (hF : Fr (fun a j => a = 17 ∧ j = 1) (fun _ _ => False) z y) (hB : BCx y A1 n (zn z)) (e9 : A1 9 n = nI p) (e2 : zP y (zn z) 2 = 34 + p) (h7 : ∀ q, q < 7 → A1 q = A q) (hk : ∀ k, k < n → A1k A A1 k) (hRW : RW y F1 V1) (hAN : ∀ j, j < 6 → F1 (3 * (j + 1)) = F (3 * (j + 1))) (v4 : V1 4 = V 4) (v10 : V1 10 = nI (n + 1)) (hV : VD A1 (n + 1) R) (hD : DAY A1 (n + 1)) : ∃ z1, Rn (d + 2) i_X_enter [.ref 6, .ref (zn z)] y (some (.int (nI n))) z1 ∧ Cls z1 A1 F1 V1 (n + 1) R ∧ z1.1 = y.1 ∧ z1.2.1 = y.2.1 ∧ Fr (fun a j => (a = 6 ∧ j = 3) ∨ (a = 34 + p ∧ j = 2)) (fun a j => a = 9 ∨ (34 ≤ a ∧ a < 46) ∨ 75 ≤ a) y z1 := by
  obtain ⟨c1, c2, c3, c4, c5, c6, c7, c8, c9, c10⟩ := hC
  have h75 := c1.1
  have hTy : CT y := L_CT hF (fun a j w q => by omega) (fun a j w => w.elim) c1
  have ty := hTy.2.2.2.1.2.2 p hp
  have hx := hB.2.2.1
  have ny : zn z < zn y := by have := hB.2.1; split at this <;> omega
  have lt : ∀ k, k < n → zP z 9 k + 2 ≤ zn z ∧ 75 ≤ zP z 9 k ∧ (¬ A 8 k = 2 → zP z 9 k + 3 ≤ zn z) := fun k hk => by
    have b2 := (c7.1 k hk).2.1
    have := (c7.1 k hk).1
    by_cases e : A 8 k = 2
    · rw [if_pos e] at b2; exact ⟨b2, this, fun w => absurd e w⟩
    · rw [if_neg e] at b2; exact ⟨by omega, this, fun _ => b2⟩
  have nY : zI y 6 3 = nI n := (hF.2.2.1 6 3 (by omega) (by omega)).trans c6.2.2
  obtain ⟨a1, a2, a3⟩ := c10 p hp
  obtain ⟨s, r, l1, hins, l3, l4⟩ := insO_split (A1 10) n (lpF A n p)
  have kn : ∀ k, k ∈ s ++ r → k < n ∧ k ∈ lpF A n p := fun k hk => by rw [← l1] at hk; exact ⟨((lpF_mem A n p k).mp hk).1, hk⟩
  have h9 : ∀ j, j < n → A1 9 j = A 9 j ∧ A1 10 j = A 10 j := fun j hj => ⟨(hk j hj).1 9 (by omega) (by omega), (hk j hj).1 10 (by omega) (by omega)⟩
  have elp := (lp_add h9 p).1 e9
  -- the heap with the card in the array
  have hFw : Fr (fun a j => a = 6 ∧ j = 3) (fun a j => a = 9 ∧ j = n) y (sI (sP y 9 n (zn z)) 6 3 (nI (n + 1))) := ⟨Nat.le_refl _, fun _ _ => ⟨rfl, rfl⟩, fun a j _ w => sI_n w, fun a j _ w => sP_n w⟩
  have cw : ∀ k, zP (sI (sP y 9 n (zn z)) 6 3 (nI (n + 1))) 9 k = if k = n then zn z else zP z 9 k := fun k => by
    show (if 9 = 9 ∧ k = n then zn z else zP y 9 k) = _
    by_cases e : k = n
    · rw [if_pos ⟨rfl, e⟩, if_pos e]
    · rw [if_neg (fun w => e w.2), if_neg e]; exact hF.2.2.2 9 k (by omega) (fun w => w)
  have n3 : zI (sI (sP y 9 n (zn z)) 6 3 (nI (n + 1))) 6 3 = nI (n + 1) := sI_e
  have hFzw := Fr_t hF hFw
  have zw1 : (sI (sP y 9 n (zn z)) 6 3 (nI (n + 1))).1 = y.1 ∧ (sI (sP y 9 n (zn z)) 6 3 (nI (n + 1))).2.1 = y.2.1 := ⟨rfl, rfl⟩
  have tw : ∀ a, tg (sI (sP y 9 n (zn z)) 6 3 (nI (n + 1))) a = tg y a := fun a => rfl
  have iw : ∀ a j, a ≠ 6 → zI (sI (sP y 9 n (zn z)) 6 3 (nI (n + 1))) a j = zI y a j := fun a j ha => sI_n (fun q => ha q.1)
  have pw : ∀ a j, a ≠ 9 → zP (sI (sP y 9 n (zn z)) 6 3 (nI (n + 1))) a j = zP y a j := fun a j ha => sP_n (fun q => ha q.1)
  have xe := fun (z1 : ZS) => X_enter d y hTy n (zn z) p nY h60 hx h75 e2 hB.2.2.2.1 (z1 := z1)
  generalize sI (sP y 9 n (zn z)) 6 3 (nI (n + 1)) = w at *
  have c9n : ∀ k, k < n → zP w 9 k = zP z 9 k := fun k hk => by rw [cw, if_neg (by omega)]
  have c9x : zP w 9 n = zn z := by rw [cw, if_pos rfl]
  have tz : ∀ a, a < zn z → tg y a = tg z a := fun a ha => (hF.2.1 a ha).1
  have lkw : LK w (zP w 9) (s ++ r) (zP w (34 + p) 0) := by
    rw [pw _ _ (by omega), hF.2.2.2 _ _ (by omega) (fun q => q), ← l1]
    refine LK_c _ _ (fun k hk => c9n k ((lpF_mem A n p k).mp hk).1) (LK_F _ _ (fun k hk => ?_) a1)
    have := lt k ((lpF_mem A n p k).mp hk).1
    rw [pw _ _ (by omega), hF.2.2.2 _ _ (by omega) (fun q => q)]
  have rin := P_insert d w (zP w 9) (A1 10) (34 + p) (zn z) n s r (by rw [tw]; exact ty.2) (by rw [tw]; exact hx) (by omega) (by rw [iw _ _ (by omega)]; exact hB.2.2.2.2.2.2.1) lkw (fun k hk => ?_) l3 l4
  · have lkz := LK_inz (k := n) lkw (fun k hk => by have := lt k (kn k hk).1; rw [c9n k (kn k hk).1, c9x]; omega) (by rw [c9x]; omega) (by rw [← l1]; exact lpF_nd A n p) (fun a b ha hb q => by
      rw [c9n a (kn a ha).1, c9n b (kn b hb).1] at q
      refine Classical.byContradiction (fun ne => ?_)
      have := CB_ne c7 (kn a ha).1 (kn b hb).1 ne
      omega)
    rw [c9x] at lkz
    have hFi := inz_Fr w (34 + p) (zn z) (lid (zP w 9) s)
    obtain ⟨z1n, z1w, z1s, z1I⟩ := inz_z w (34 + p) (zn z) (lid (zP w 9) s)
    have hl2 : ¬ lid (zP w 9) s = 0 → ∃ k, k ∈ s ++ r ∧ lid (zP w 9) s = zP z 9 k := fun q => by
      rcases List.eq_nil_or_concat s with u | ⟨s', v, u⟩
      · rw [u] at q; exact absurd (lid_n _) q
      · rw [List.concat_eq_append] at u
        have mv : v ∈ s ++ r := by rw [u]; simp
        exact ⟨v, mv, by rw [u, lid_c]; exact c9n v (kn v mv).1⟩
    generalize lid (zP w 9) s = l2 at *
    have z1x : zI (inz w (34 + p) (zn z) l2) (zn z) 0 = nI n := by rw [z1I, sI_n (by omega), iw _ _ (by omega)]; exact hB.2.2.2.1
    have z1t : tg (inz w (34 + p) (zn z) l2) (zn z) = 11 := by
      rw [(hFi.2.1 (zn z) (by show zn z < w.1; rw [zw1.1]; exact ny)).1, tw]; exact hx
    have re := xe _ z1x z1t rin
    have e9c : zP (inz w (34 + p) (zn z) l2) 9 = zP w 9 := funext (fun j => hFi.2.2.2 9 j (by show 9 < w.1; rw [zw1.1]; show 9 < zn y; omega) (fun q => by
      rcases q with q | q | ⟨q0, q, _⟩
      · omega
      · omega
      · obtain ⟨k, hk', e⟩ := hl2 q0
        have := lt k (kn k hk').1
        omega))
    have hFyz := Fr_t hFw hFi
    have hFz := Fr_t hF hFyz
    have hWl : ∀ a j, a < zn z → ((fun _ _ => False : Nat → Nat → Prop) a j ∨ ((a = 9 ∧ j = n) ∨ ((a = zn z ∧ j = 11) ∨ (a = 34 + p ∧ j = 0) ∨ (¬ l2 = 0 ∧ a = l2 ∧ j = 11)))) → a = 9 ∨ (a = 34 + p ∧ j = 0) ∨ (j = 11 ∧ ∃ k, k ∈ s ++ r ∧ a = zP z 9 k) := fun a j ha q => by
      rcases q with q | q | q | q | ⟨q0, q, q'⟩
      · exact q.elim
      · exact Or.inl q.1
      · omega
      · exact Or.inr (Or.inl q)
      · obtain ⟨k, hk', e⟩ := hl2 q0
        exact Or.inr (Or.inr ⟨q', k, hk', by omega⟩)
    have hW6 : ∀ a j, ((fun _ _ => False : Nat → Nat → Prop) a j ∨ ((a = 9 ∧ j = n) ∨ ((a = zn z ∧ j = 11) ∨ (a = 34 + p ∧ j = 0) ∨ (¬ l2 = 0 ∧ a = l2 ∧ j = 11)))) → a = 9 ∨ a = 34 + p ∨ 75 ≤ a := fun a j q => by
      rcases q with q | q | q | q | ⟨q0, q, q'⟩
      · exact q.elim
      · omega
      · omega
      · omega
      · obtain ⟨k, hk', e⟩ := hl2 q0
        have := lt k (kn k hk').1
        omega
    have h75z : 75 ≤ zn y := by omega
    refine ⟨inz w (34 + p) (zn z) l2, re, ⟨L_CT hFz (fun a j q q' => by omega) (fun a j q => by have := hW6 a j q; omega) c1, CS_A h7 (L_CS hFz h75 (fun a j q q' => by omega) (fun a j q q' => by have := hW6 a j q; omega) c2), ?_, ?_, ?_, ⟨by omega, v10, ?_⟩, ?_, hV, hD, fun p' hp' => ?_⟩, z1n.trans zw1.1, z1w.trans zw1.2, Fr_w hFyz (fun a j q => q.imp id id) (fun a j q => by have := hW6 a j (Or.inr q); omega)⟩
    · have g := RG_A h7 (L_RG (V := V) (R := R) hFz h75 (fun a j q q' => by omega) (fun a j q => by have := hW6 a j q; omega) c3)
      exact ⟨by rw [v4]; exact g.1, g.2⟩
    · exact L_RW hFyz h75z (fun a j q q' => by omega) hRW
    · intro j hj
      rw [hAN j hj, hFz.2.2.1 21 j (by omega) (by omega)]; exact c5 j hj
    · rw [z1I, sI_n (by omega)]; exact n3
    · rw [e9c]
      refine ⟨fun k hk' => ?_, fun a b hab hb => ?_⟩
      · by_cases e : k = n
        · rw [e, c9x]
          refine BC_t hFyz hB (fun j _ _ q => by omega) (fun _ j q => by omega) (fun j j1 q => ?_) (fun _ _ _ => rfl) (fun _ _ => rfl) ?_
          · rcases q with q | q | q | ⟨q0, q, q'⟩ <;> omega
          · rw [z1I, sI_n (by omega), iw _ _ (by omega)]; exact hB.2.2.2.2.2.2.2.2.2.1
        · have hk'' : k < n := by omega
          have := lt k hk''
          rw [c9n k hk'']
          refine BC_t hFz (c7.1 k hk'') (fun j _ _ q => by omega) (fun _ j q => by omega) (fun j j1 q => ?_) (fun q q1 q2 => (hk k hk'').1 q q1 (by omega)) (hk k hk'').2 ?_
          · have := hWl _ j (by omega) q
            omega
          · rw [hFz.2.2.1 _ _ (by omega) (by omega), (hk k hk'').1 14 (by omega) (by omega)]
            exact (c7.1 k hk'').2.2.2.2.2.2.2.2.2.1
      · have ha' : a < n := by omega
        rw [c9n a ha', (hk a ha').1 8 (by omega) (by omega)]
        by_cases e : b = n
        · rw [e, c9x]
          exact (c7.1 a ha').2.1
        · rw [c9n b (by omega)]
          exact c7.2 a b hab (by omega)
    · rw [e9c]
      by_cases e : p' = p
      · subst e
        refine ⟨?_, Or.inr z1s, fun q => absurd (z1s.symm.trans q) nz1⟩
        rw [elp, hins]
        exact lkz
      · have el : lpF A1 (n + 1) p' = lpF A n p' := (lp_add h9 p').2 (fun q => by rw [e9] at q; exact e ((nI_eq (by omega) (by omega)).mp q).symm)
        refine PL_o hFz h75 hp' c7 el (fun k hk' => c9n k ((lpF_mem A n p' k).mp hk').1) ⟨h7, fun k hk' => hk k ((lpF_mem A n p' k).mp hk').1⟩ (fun k hk' => ?_) (fun q => by omega) (fun j q => ?_) (c10 p' hp')
        · have kk := ((lpF_mem A n p' k).mp hk').1
          have := lt k kk
          refine ⟨fun j q => by omega, fun n2 j q => by omega, fun j q => ?_⟩
          rcases hWl _ j (by omega) q with u | u | ⟨_, m, hm, u⟩
          · omega
          · omega
          · have nm : k ≠ m := fun w => lpF_oth hp hp' e hk' (by rw [w]; exact (kn m hm).2)
            have := CB_ne c7 kk (kn m hm).1 nm
            omega
        · rcases hWl _ j (by omega) q with u | u | ⟨_, m, hm, u⟩
          · omega
          · omega
          · have := lt m (kn m hm).1
            omega
  · have := lt k (kn k hk).1
    have b := c7.1 k (kn k hk).1
    rw [c9n k (kn k hk).1, tw, iw _ _ (by omega), tz _ (by omega), hF.2.2.1 _ _ (by omega) (by omega)]
    exact ⟨b.2.2.1, by omega, by omega, by omega, by rw [b.2.2.2.2.2.2.1, (h9 k (kn k hk).1).2]⟩
