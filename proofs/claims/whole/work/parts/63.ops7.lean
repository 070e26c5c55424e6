/-! Calls of both: tell found pickUp holes. Own work. -/
theorem op_g {mx mm : Nat} {av : List Value} {z z1 : ZS} {n' R' : Nat} {r : Int32} {A1 A' : Nat → Nat → Int32} {F1 V1 V' : Nat → Int32} (hM1 : MT z1) (rx : Rn 12 mx (.ref 6 :: av) z (some (.int r)) z1) (rm : Rn 12 mm (.ref 46 :: av) (mz z1 (VZ z1) (AZ z1)) (some (.int r)) (mz z1 V' A')) (hC : Cls z1 A1 F1 V1 n' R') (eA : trw A' = A1) (eF : fzF A' = F1) (e4 : V' 4 = V1 4) (e8 : V' 8 = V1 8) (e10 : V' 10 = V1 10) (e19 : V' 19 = V1 19) (hn : zn z1 ≤ zn z + 3) (hw : zw z1 ≤ zw z + 60) : Op2 mx mm av z := by
  rw [mz_id] at rm
  exact ⟨r, z1, mz z1 V' A', n', R', rx, rm, closeG hM1 hC eA eF e4 e8 e10 e19, hn, hw⟩
theorem fz_16 (A : Nat → Nat → Int32) (t : Nat) (v : Int32) : fzF (u2 A 16 t v) = upd (fzF A) (3 * t + 2) v := by
  funext i
  show (if i % 3 = 0 then A 17 (i / 3) else if i % 3 = 1 then A 7 (i / 3) else (if 16 = 16 ∧ i / 3 = t then v else A 16 (i / 3))) = if i = 3 * t + 2 then v else fzF A i
  unfold fzF
  by_cases e : i % 3 = 0
  · rw [if_pos e, if_neg (by omega), if_pos e]
  · rw [if_neg e]
    by_cases e1 : i % 3 = 1
    · rw [if_pos e1, if_neg (by omega), if_neg e, if_pos e1]
    · rw [if_neg e1]
      by_cases e2 : i = 3 * t + 2
      · rw [if_pos ⟨rfl, by omega⟩, if_pos e2]
      · rw [if_neg (by omega), if_neg e2, if_neg e, if_neg e1]
theorem fz_7 (A : Nat → Nat → Int32) (t : Nat) (v : Int32) : fzF (u2 A 7 t v) = upd (fzF A) (3 * t + 1) v := by
  funext i
  show (if i % 3 = 0 then A 17 (i / 3) else if i % 3 = 1 then (if 7 = 7 ∧ i / 3 = t then v else A 7 (i / 3)) else A 16 (i / 3)) = if i = 3 * t + 1 then v else fzF A i
  unfold fzF
  by_cases e : i % 3 = 0
  · rw [if_pos e, if_neg (by omega), if_pos e]
  · rw [if_neg e]
    by_cases e1 : i % 3 = 1
    · rw [if_pos e1]
      by_cases e2 : i = 3 * t + 1
      · rw [if_pos ⟨rfl, by omega⟩, if_pos e2]
      · rw [if_neg (by omega), if_neg e2, if_neg e, if_pos e1]
    · rw [if_neg e1, if_neg (by omega), if_neg e, if_neg e1]
theorem tr_7 (A : Nat → Nat → Int32) (q t : Nat) (hq : q = 7 ∨ q = 16) (v : Int32) : trw (u2 A q t v) = trw A := trw_w (fun j hj => by
  funext i
  show (if j = q ∧ i = t then v else A j i) = A j i
  rw [if_neg (by omega)])
/-- the rows change -/
theorem Cls_rw {z z1 : ZS} {A : Nat → Nat → Int32} {F F1 V V1 : Nat → Int32} {n R : Nat} {U : Nat → Nat → Prop} (hF : Fr U (fun _ _ => False) z z1) (hU : ∀ a j, U a j → 17 ≤ a ∧ a < 21) (hC : Cls z A F V n R) (hR : RW z1 F1 V1) (hA : ∀ j, j < 6 → F1 (3 * (j + 1)) = F (3 * (j + 1))) (e4 : V1 4 = V 4) (e10 : V1 10 = V 10) : Cls z1 A F1 V1 n R := by
  obtain ⟨c1, c2, c3, c4, c5, c6, c7, c8, c9, c10⟩ := hC
  have h75 := c1.1
  have hS := CB_S c7
  have e9 : zP z1 9 = zP z 9 := funext (fun j => hF.2.2.2 9 j (by omega) (fun w => w))
  have ui : ∀ a j, a < 75 → ¬ (17 ≤ a ∧ a < 21) → zI z1 a j = zI z a j := fun a j a1 a2 => hF.2.2.1 a j (by omega) (fun w => a2 (hU a j w))
  refine ⟨L_CT hF (fun a j w q => by have := hU a j w; omega) (fun a j w => w.elim) c1, L_CS hF h75 (fun a j w q => by have := hU a j w; omega) (fun a j w => w.elim) c2, ?_, hR, fun j hj => ?_, ⟨c6.1, by rw [e10]; exact c6.2.1, by rw [ui 6 3 (by omega) (by omega)]; exact c6.2.2⟩, ?_, c8, c9, fun p hp => ?_⟩
  · have g := L_RG hF h75 (fun a j w q => by have := hU a j w; omega) (fun a j w => w.elim) c3
    exact ⟨by rw [e4]; exact g.1, g.2⟩
  · rw [hA j hj, ui 21 j (by omega) (by omega)]; exact c5 j hj
  · rw [e9]
    exact L_CB hF (fun k hk => by
      have := hS.1 k hk
      exact ⟨fun j _ _ _ _ w => by have := hU _ j w; omega, fun _ j w => by have := hU _ j w; omega, fun _ _ _ _ w => w⟩) c7
  · rw [e9]
    obtain ⟨a1, a2, a3⟩ := c10 p hp
    have lt : ∀ k, k ∈ lpF A n p → zP z 9 k < zn z := fun k hk => by
      have b2 := (c7.1 k ((lpF_mem A n p k).mp hk).1).2.1
      by_cases e : A 8 k = 2
      · rw [if_pos e] at b2; omega
      · rw [if_neg e] at b2; omega
    refine ⟨?_, by rw [ui _ _ (by omega) (by omega)]; exact a2, fun w => ?_⟩
    · rw [hF.2.2.2 _ _ (by omega) (fun w => w)]
      exact LK_F _ _ (fun k hk => hF.2.2.2 _ _ (lt k hk) (fun w => w)) a1
    · rw [ui _ _ (by omega) (by omega)] at w
      refine L_IV hF h75 hp c7 (fun k hk => ((lpF_mem A n p k).mp (List.mem_reverse.mp hk)).1) (fun k hk => ?_) (fun w => w) (a3 w)
      have := hS.1 k ((lpF_mem A n p k).mp (List.mem_reverse.mp hk)).1
      exact ⟨fun j w => by have := hU _ j w; omega, fun _ j w => by have := hU _ j w; omega, fun w => w, fun w => w⟩
theorem W_append (d : Nat) (z : ZS) (x y len t : Nat) (v : Int32) (hx : tg z x = 15) (h0 : zP z x 0 = y) (hy : tg z y = 1) (hl : ln z y = len) (hs : zI z x 1 = nI t) (ht : t < len) (h60 : len ≤ 60) (hxy : y ≠ x) : Rn (d + 1) i_W_append [.ref x, .int v] z none (sI (sI z y t v) x 1 (nI (t + 1))) := by
  subst h0
  have ct : (nI t).toNatClampNeg = t := nI_clamp (by omega)
  refine rn_i (full := cd_56) hx (ok_n rfl) rfl (fun K hK => hK 0 _ _ _ ⟨hx, ⟨fun c2 => absurd ?_ (nI_pos (n := t) (by omega)), fun c2 => ⟨hx, ⟨hx, ⟨isA1 hy, ⟨fun c7 => absurd ?_ (nI_ge (a := t) (b := len) ht (by omega)), fun c7 => ⟨hx, ⟨hx, ⟨⟨hy, ?_⟩, ⟨hx, ⟨hx, ⟨rfl, ?_⟩⟩⟩⟩⟩⟩⟩⟩⟩⟩⟩⟩)
  · have c2 : zI z x 1 < 0 := c2
    rw [hs] at c2; exact c2
  · have c7 : nI (ln z (zP z x 0)) ≤ zI z x 1 := c7
    rw [hl, hs] at c7; exact c7
  · show vp_in (zI z x 1) (ln z (zP z x 0))
    rw [hs, hl]; exact vp_in_nI ht (by omega)
  · show sI (sI z (zP z x 0) (zI z x 1).toNatClampNeg v) x 1 (zI (sI z (zP z x 0) (zI z x 1).toNatClampNeg v) x 1 + 1) = _
    rw [sI_n (fun w => hxy w.1.symm), hs, ct, nI_succ]
theorem fnd1 {mx mm : Nat} {av : List Value} {z : ZS} {n R : Nat} (hS : Sim z n R) (i : Nat) {r : Int32} (rx : Rn 12 mx (.ref 6 :: av) z (some (.int r)) (rfz z i)) (rm : ∀ z1, Kp z z1 → MW z1 (VZ z1) (AZ z1) n R → Rn 12 mm (.ref 46 :: av) (mz z1 (VZ z1) (AZ z1)) (some (.int r)) (mz z1 (VZ z1) (cnt (AZ z1) (i + 1)))) : Op2 mx mm av z := by
  obtain ⟨h1, h2⟩ := Cls_ref hS.2 i
  exact op_f' (j := i + 1) hS.1 h2 h1 rx (rm _ h2 (sim_mw hS h2))
section Ops7
variable {z : ZS} {n R : Nat}
theorem op_tell (hS : Sim z n R) (v : Int32) : Op2 i_X_tell i_M_tell [.int v] z := by
  have hC := hS.2
  have hT := hC.1
  have t6 := hT.2.1
  have t19 := hT.2.2.2.2.2.2.1
  obtain ⟨r7, t, ht, e19, s19, h20⟩ := hC.2.2.2.1
  by_cases hlt : t < 20
  · have ra := W_append 10 z 19 20 20 t v t19.1 t19.2.1 t19.2.2.1 t19.2.2.2 s19 hlt (by omega) (by omega)
    have hFr : Fr (fun a _ => a = 19 ∨ a = 20) (fun _ _ => False) z (sI (sI z 20 t v) 19 1 (nI (t + 1))) := ⟨Nat.le_refl _, fun _ _ => ⟨rfl, rfl⟩, fun a j _ w => (sI_n (fun q => w (Or.inl q.1))).trans (sI_n (fun q => w (Or.inr q.1))), fun _ _ _ _ => rfl⟩
    have hKp : Kp z (sI (sI z 20 t v) 19 1 (nI (t + 1))) := ⟨rfl, rfl, rfl, rfl, fun a j a1 a2 => ⟨(sI_n (by omega)).trans (sI_n (by omega)), rfl⟩⟩
    have o : ∀ q, q % 3 ≠ 2 → upd (FZ z) (3 * t + 2) v q = FZ z q := fun q hq => by unfold upd; rw [if_neg (by omega)]
    have hC1 : Cls (sI (sI z 20 t v) 19 1 (nI (t + 1))) (TA z) (upd (FZ z) (3 * t + 2) v) (upd (VZ z) 19 (nI (t + 1))) n R := by
      refine Cls_rw hFr (fun a j w => by omega) hC ⟨?_, t + 1, by omega, rfl, sI_e, fun j hj => ?_⟩ (fun j hj => o _ (by omega)) rfl rfl
      · obtain ⟨w, w1, w2, w3, w4⟩ := r7
        exact ⟨w, w1, w2, ((sI_n (by omega)).trans (sI_n (by omega))).trans w3, fun j hj => by rw [(sI_n (by omega)).trans (sI_n (by omega)), o _ (by omega)]; exact w4 j hj⟩
      · rw [sI_n (by omega)]
        show (if 20 = 20 ∧ j = t then v else zI z 20 j) = if 3 * j + 2 = 3 * t + 2 then v else FZ z (3 * j + 2)
        by_cases e : j = t
        · rw [if_pos ⟨rfl, e⟩, if_pos (by omega)]
        · rw [if_neg (fun w => e w.2), if_neg (by omega)]; exact h20 j (by omega)
    refine op_g (Kp_MT hKp hS.1) (r := nI (t + 1)) (V' := upd (VZ z) 19 (nI (t + 1))) (rn_i (full := cd_86) t6.1 (ok_n rfl) rfl (fun K hK' => hK' 0 _ _ _ ⟨⟨t6.1, t6.2.2.2.2.2.2.2.1⟩, ⟨t19.1, ⟨fun c3 => ⟨⟨t6.1, t6.2.2.2.2.2.2.2.1⟩, ⟨_, _, ra, ⟨⟨t6.1, t6.2.2.2.2.2.2.2.1⟩, ⟨t19.1, ⟨?_, rfl⟩⟩⟩⟩⟩, fun c3 => absurd ?_ c3⟩⟩⟩)) ?_ hC1 (A' := u2 (AZ (sI (sI z 20 t v) 19 1 (nI (t + 1)))) 16 t v) ?_ ?_ rfl rfl rfl rfl (Nat.le_add_right _ _) (Nat.le_add_right _ _)
    · show some (Value.int (zI (sI (sI z 20 t v) 19 1 (nI (t + 1))) 19 1)) = _
      rw [sI_e]
    · show zI z 19 1 < 20
      rw [s19]; exact nI_lt (b := 20) hlt (by decide)
    · have r := M_tell_ok 10 (sI (sI z 20 t v) 19 1 (nI (t + 1))) (VZ (sI (sI z 20 t v) 19 1 (nI (t + 1)))) (AZ (sI (sI z 20 t v) 19 1 (nI (t + 1)))) (Kp_MT hKp hS.1) v t (by rw [Kp_VZ hKp]; exact e19) hlt
      rw [Kp_VZ hKp] at r ⊢
      exact r
    · rw [tr_7 _ 16 t (Or.inr rfl)]
      exact Kp_TA hKp
    · rw [fz_16]
      exact congrArg (fun f => upd f (3 * t + 2) v) (Kp_FZ hKp)
  · have e : t = 20 := by omega
    subst e
    exact fnd1 hS 4 (rn_i (full := cd_86) t6.1 (ok_n rfl) rfl (fun K hK' => hK' 0 _ _ _ ⟨⟨t6.1, t6.2.2.2.2.2.2.2.1⟩, ⟨t19.1, ⟨fun c3 => absurd (show zI z 19 1 < 20 from c3) (by rw [s19]; decide), fun c3 => ⟨_, _, X_rF 9 hT, rfl, rfl⟩⟩⟩⟩)) (fun zz hK hW => M_tell_bad 10 zz (VZ zz) (AZ zz) hW.1 v (by rw [Kp_VZ hK]; exact e19))
theorem fnd_i {f : Int32} (h : -100006 ≤ f ∧ f ≤ -100001) : ∃ i, i < 6 ∧ -100001 - f = nI i ∧ -100000 - f = nI (i + 1) := by
  obtain ⟨h1, h2⟩ := h
  rw [i32_le, show (-100006 : Int32).toInt = -100006 by decide] at h1
  rw [i32_le, show (-100001 : Int32).toInt = -100001 by decide] at h2
  refine ⟨(-100001 - f.toInt).toNat, by omega, ?_, ?_⟩
  · rw [i32_eq, nI_toInt (by omega), ti_sub] <;> rw [show (-100001 : Int32).toInt = -100001 by decide] <;> omega
  · rw [i32_eq, nI_toInt (by omega), ti_sub] <;> rw [show (-100000 : Int32).toInt = -100000 by decide] <;> omega
theorem op_found (hS : Sim z n R) (f : Int32) : Op2 i_X_found i_M_found [.int f] z := by
  have hC := hS.2
  have hT := hC.1
  have t6 := hT.2.1
  by_cases hf : -100006 ≤ f ∧ f ≤ -100001
  · obtain ⟨i, hi, e1, e2⟩ := fnd_i hf
    have t21 := hT.2.2.2.2.2.2.2.1
    refine op_q' hS.1 (Kp_r z) hC (r := AZ z 17 (i + 1)) (rn_i (full := cd_90) t6.1 (ok_n rfl) rfl (fun K hK' => hK' 0 _ _ _ ⟨_, _, X_isWithin 10 z f _ _, ⟨fun c2 => absurd hf (b1_t c2), fun c2 => ⟨⟨t6.1, t6.2.2.2.2.2.2.2.2⟩, ⟨⟨t21.1, ?_⟩, ⟨?_, rfl⟩⟩⟩⟩⟩)) ?_
    · show vp_in (-100001 - f) (ln z 21)
      rw [e1, t21.2]; exact vp_in_nI hi (by decide)
    · show some (Value.int (zI z 21 (-100001 - f).toNatClampNeg)) = _
      rw [e1, nI_clamp (by omega), hC.2.2.2.2.1 i hi]
      unfold FZ fzF
      rw [if_pos (by omega), show 3 * (i + 1) / 3 = i + 1 by omega]
    · exact M_found_ok 10 z (VZ z) (AZ z) hS.1 f hf (i + 1) (by omega) e2
  · exact fnd0 hS 0 (rn_i (full := cd_90) t6.1 (ok_n rfl) rfl (fun K hK' => hK' 0 _ _ _ ⟨_, _, X_isWithin 10 z f _ _, ⟨fun c2 => ⟨_, _, X_rB 9 hT, rfl, rfl⟩, fun c2 => absurd (b1_f c2) hf⟩⟩)) (fun zz hW hw => M_found_bad 10 zz (VZ zz) (AZ zz) hW.1 f hf)
theorem op_pickUp (hS : Sim z n R) (i : Int32) : Op2 i_X_pickUp i_M_pickUp [.int i] z := by
  have hC := hS.2
  have hT := hC.1
  have t6 := hT.2.1
  have t17 := hT.2.2.2.2.2.1
  obtain ⟨⟨w, w1, w2, w3, w4⟩, r16⟩ := hC.2.2.2.1
  by_cases hi : 0 ≤ i ∧ i ≤ nI w - 1
  · obtain ⟨k, hk, e⟩ := card_in (by omega) hi
    subst e
    have hFr : Fr (fun a _ => a = 18) (fun _ _ => False) z (sI z 18 k (-1)) := ⟨Nat.le_refl _, fun _ _ => ⟨rfl, rfl⟩, fun a j _ w => sI_n (fun q => w q.1), fun _ _ _ _ => rfl⟩
    have hKp : Kp z (sI z 18 k (-1)) := ⟨rfl, rfl, rfl, rfl, fun a j a1 a2 => ⟨sI_n (by omega), rfl⟩⟩
    have o : ∀ q, q % 3 ≠ 1 → upd (FZ z) (3 * k + 1) (-1) q = FZ z q := fun q hq => by unfold upd; rw [if_neg (by omega)]
    have hC1 : Cls (sI z 18 k (-1)) (TA z) (upd (FZ z) (3 * k + 1) (-1)) (VZ z) n R := by
      refine Cls_rw hFr (fun a j w => by have w : a = 18 := w; omega) hC ⟨⟨w, w1, w2, (sI_n (by omega)).trans w3, fun j hj => ?_⟩, ?_⟩ (fun j hj => o _ (by omega)) rfl rfl
      · show (if 18 = 18 ∧ j = k then (-1 : Int32) else zI z 18 j) = (if 3 * j + 1 = 3 * k + 1 then -1 else FZ z (3 * j + 1)) ∧ -1 ≤ (if 3 * j + 1 = 3 * k + 1 then (-1 : Int32) else FZ z (3 * j + 1)).toInt ∧ (if 3 * j + 1 = 3 * k + 1 then (-1 : Int32) else FZ z (3 * j + 1)).toInt ≤ 15
        by_cases e : j = k
        · rw [if_pos ⟨rfl, e⟩, if_pos (by omega)]; decide
        · rw [if_neg (fun w => e w.2), if_neg (by omega)]; exact w4 j hj
      · obtain ⟨t, u1, u2, u3, u4⟩ := r16
        exact ⟨t, u1, u2, (sI_n (by omega)).trans u3, fun j hj => by rw [sI_n (by omega), o _ (by omega)]; exact u4 j hj⟩
    have tv : zP z 17 0 = 18 := t17.2.1
    refine op_g (Kp_MT hKp hS.1) (r := 1) (V' := VZ z) (rn_i (full := cd_64) t6.1 (ok_n rfl) rfl (fun K hK' => hK' 0 _ _ _ ⟨fun c1 => absurd c1 (nI_pos (by omega)), fun c1 => ⟨⟨t6.1, t6.2.2.2.2.2.2.1⟩, ⟨t17.1, ⟨fun c6 => ⟨⟨t6.1, t6.2.2.2.2.2.2.1⟩, ⟨t17.1, ⟨⟨?_, ?_⟩, ⟨rfl, ?_⟩⟩⟩⟩, fun c6 => absurd ?_ c6⟩⟩⟩⟩)) ?_ hC1 (A' := u2 (AZ (sI z 18 k (-1))) 7 k (-1)) ?_ ?_ rfl rfl rfl rfl (Nat.le_add_right _ _) (Nat.le_add_right _ _)
    · show tg z (zP z 17 0) = 1
      rw [tv]; exact t17.2.2.1
    · show vp_in (nI k) (ln z (zP z 17 0))
      rw [tv, t17.2.2.2]; exact vp_in_nI (by omega) (by decide)
    · show sI z (zP z 17 0) (nI k).toNatClampNeg (-1) = _
      rw [tv, nI_clamp (by omega)]
    · show nI k < zI z 17 1
      rw [w3]; exact nI_lt hk (by omega)
    · have r := M_pickUp_ok 10 (sI z 18 k (-1)) (VZ (sI z 18 k (-1))) (AZ (sI z 18 k (-1))) (Kp_MT hKp hS.1) k w (by rw [Kp_VZ hKp]; exact w2) hk w1
      rw [Kp_VZ hKp] at r ⊢
      exact r
    · rw [tr_7 _ 7 k (Or.inl rfl)]
      exact Kp_TA hKp
    · rw [fz_7]
      exact congrArg (fun f => upd f (3 * k + 1) (-1)) (Kp_FZ hKp)
  · refine fnd1 hS 0 (rn_i (full := cd_64) t6.1 (ok_n rfl) rfl (fun K hK' => hK' 0 _ _ _ ⟨fun c1 => ⟨_, _, X_rB 9 hT, rfl, rfl⟩, fun c1 => ⟨⟨t6.1, t6.2.2.2.2.2.2.1⟩, ⟨t17.1, ⟨fun c6 => absurd ⟨Int32.not_lt.mp c1, ?_⟩ hi, fun c6 => ⟨_, _, X_rB 9 hT, rfl, rfl⟩⟩⟩⟩⟩)) (fun zz hK hW => M_pickUp_bad 10 zz (VZ zz) (AZ zz) hW.1 i (by rw [Kp_VZ hK, w2]; exact hi))
    have c6 : i < zI z 17 1 := c6
    rw [w3] at c6
    have c1 := Int32.not_lt.mp c1
    obtain ⟨k, hk, e⟩ := lt_of_le1 (by omega) ⟨c1, c6⟩
    rw [e]
    cases w with
    | zero => omega
    | succ w => rw [nI_pred]; exact nI_le (by omega) (by omega)
/-- the low four bits are the same under both shifts -/
theorem sh_bv (x : BitVec 64) (s : Nat) (hs : s ≤ 60) : x.sshiftRight s &&& 15#64 = (x >>> s) &&& 15#64 := by
  apply BitVec.eq_of_getLsbD_eq
  intro i hi
  rw [BitVec.getLsbD_and, BitVec.getLsbD_and]
  by_cases h4 : i < 4
  · rw [BitVec.getLsbD_sshiftRight, BitVec.getLsbD_ushiftRight, if_pos (by omega), decide_eq_false (by omega)]
    simp
  · have : (15#64).getLsbD i = false := by
      rw [BitVec.getLsbD_ofNat, Nat.testBit_lt_two_pow (Nat.lt_of_lt_of_le (by decide : 15 < 2 ^ 4) (Nat.pow_le_pow_right (by decide) (by omega)))]
      simp
    rw [this, Bool.and_false, Bool.and_false]
end Ops7
