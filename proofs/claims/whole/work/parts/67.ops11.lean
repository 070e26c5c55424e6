/-! Calls of both: check. Own work. -/
/-- settling leaves what was told -/
theorem Cls_settle20 (d : Nat) {z : ZS} {A : Nat → Nat → Int32} {F V : Nat → Int32} {n R : Nat} (h : Cls z A F V n R) (p : Nat) (hp : p < 12) : ∃ z', Rn (d + 6) i_P_settle [.ref (34 + p), .ref 10, .ref 14] z none z' ∧ Cls z' A F V n R ∧ zI z' (34 + p) 2 = 0 ∧ Kp z z' ∧ zP z' 9 = zP z 9 ∧ (∀ p', p' < 12 → zI z (34 + p') 2 = 0 → zI z' (34 + p') 2 = 0) ∧ ∀ j, zI z' 20 j = zI z 20 j := by
  by_cases h0 : zI z (34 + p) 2 = 0
  · exact ⟨z, P_settle0 d z (h.1.2.2.2.1.2.2 p hp).2 h0, h, h0, Kp_r z, rfl, fun _ _ w => w, fun _ => rfl⟩
  · obtain ⟨z', rn, hF, hIV⟩ := P_settle1 d (Cls_SC h p hp) h0
    obtain ⟨c1, c2, c3, c4, c5, c6, c7, c8, c9, c10⟩ := h
    have hS := CB_S c7
    have hl : ∀ k, k ∈ lpF A n p → k < n := fun k hk => ((lpF_mem A n p k).mp hk).1
    obtain ⟨f1, f2, f3, f4, f5, f6⟩ := hF
    have u5 : ∀ a j, ¬ (WI p (zP z 9) (lpF A n p) A a j ∨ (a = 34 + p ∧ j = 2)) → zI z' a j = zI z a j := fun a j w => (f5 a j (fun q => w (Or.inl q))).trans (sI_n (fun q => w (Or.inr q)))
    have u6 : ∀ a j, ¬ WP p (zP z 9) (lpF A n p) a j → zP z' a j = zP z a j := f6
    have hFr : Fr (fun a j => WI p (zP z 9) (lpF A n p) A a j ∨ (a = 34 + p ∧ j = 2)) (WP p (zP z 9) (lpF A n p)) z z' := Kp_Fr f1 f3 f4 u5 u6
    have lo : ∀ a j, a < 75 → (WI p (zP z 9) (lpF A n p) A a j ∨ (a = 34 + p ∧ j = 2)) → (a = 14 ∧ j = 2) ∨ a = 15 ∨ a = 16 ∨ (a = 34 + p ∧ j = 2) := fun a j ha w => by
      rcases w with (w | w | w | ⟨k, hk, e, _⟩ | ⟨k, hk, _, e⟩) | w
      · exact Or.inl w
      · exact Or.inr (Or.inl w)
      · exact Or.inr (Or.inr (Or.inl w))
      · have := hS.1 k (hl k hk); omega
      · have := hS.1 k (hl k hk); omega
      · exact Or.inr (Or.inr (Or.inr w))
    have loW : ∀ a j, a < 75 → WP p (zP z 9) (lpF A n p) a j → a = 34 + p ∧ j = 1 := fun a j ha w => by
      rcases w with w | ⟨k, hk, e, _⟩
      · exact w
      · have := hS.1 k (hl k hk); omega
    have e9 : zP z' 9 = zP z 9 := funext (fun j => u6 9 j (fun w => by have := loW 9 j (by omega) w; omega))
    have h75 := c1.1
    have st : zI z' (34 + p) 2 = 0 := (f5 _ _ (fun w => by
      rcases w with w | w | w | ⟨k, hk, e, _⟩ | ⟨k, hk, _, e⟩
      · omega
      · omega
      · omega
      · have := hS.1 k (hl k hk); omega
      · have := hS.1 k (hl k hk); omega)).trans sI_e
    refine ⟨z', rn, ?_, st, ⟨f1, f2, f3, f4, fun a j a1 a2 => ⟨u5 a j (fun w => by have := lo a j a2 w; omega), u6 a j (fun w => by have := loW a j a2 w; omega)⟩⟩, e9, fun p' hp' w => ?_, fun j => u5 20 j (fun w => by have := lo 20 j (by omega) w; omega)⟩
    · have kc : KC (fun a j => WI p (zP z 9) (lpF A n p) A a j ∨ (a = 34 + p ∧ j = 2)) (WP p (zP z 9) (lpF A n p)) (zP z 9) A n := fun k hk => by
        have := hS.1 k hk
        refine ⟨fun j a b c d w => w.elim (w_card hS hl hp hk (Or.inl ⟨a, b, c, d⟩)) (fun q => by omega), fun ha j w => w.elim (w_shots hS hl hp hk ha) (fun q => by omega), fun j a b c w => v_card hS hl hp hk (Or.inl ⟨b, c⟩) w⟩
      refine ⟨L_CT hFr (fun a j w q => by have := lo a j (by omega) w; omega) (fun a j w => ?_) c1, L_CS hFr h75 (fun a j w q => by have := lo a j (by omega) w; omega) (fun a j w q => by have := loW a j (by omega) w; omega) c2, L_RG hFr h75 (fun a j w q => by have := lo a j (by omega) w; omega) (fun a j w q => by have := loW a j (by omega) w; omega) c3, L_RW hFr h75 (fun a j w q => by have := lo a j (by omega) w; omega) c4, L_AN hFr h75 (fun a j w q => by have := lo a j (by omega) w; omega) c5, ⟨c6.1, c6.2.1, ?_⟩, ?_, c8, c9, ?_⟩
      · have : ∀ q, q < 20 → a ≠ q := fun q hq e => by have := loW a j (by omega) w; omega
        exact ⟨this 6 (by omega), this 7 (by omega), this 8 (by omega), this 14 (by omega), this 17 (by omega), this 19 (by omega)⟩
      · rw [u5 6 3 (fun w => by have := lo 6 3 (by omega) w; omega)]; exact c6.2.2
      · rw [e9]; exact L_CB hFr kc c7
      · intro p' hp'
        rw [e9]
        obtain ⟨a1, a2, a3⟩ := c10 p' hp'
        have lk : LK z' (zP z 9) (lpF A n p') (zP z' (34 + p') 0) := by
          rw [u6 (34 + p') 0 (fun w => by have := loW (34 + p') 0 (by omega) w; omega)]
          exact LK_F _ _ (fun k hk => u6 _ _ (v_card hS hl hp ((lpF_mem A n p' k).mp hk).1 (Or.inl ⟨by decide, by decide⟩))) a1
        by_cases e : p' = p
        · subst e
          exact ⟨lk, Or.inl st, fun _ => hIV⟩
        · have es : zI z' (34 + p') 2 = zI z (34 + p') 2 := u5 _ _ (fun w => by have := lo (34 + p') 2 (by omega) w; omega)
          refine ⟨lk, by rw [es]; exact a2, fun w => ?_⟩
          rw [es] at w
          refine L_IV hFr h75 hp' c7 (fun k hk => ((lpF_mem A n p' k).mp (List.mem_reverse.mp hk)).1) (fun k hk => ?_) (fun w => by have := loW (34 + p') 1 (by omega) w; omega) (a3 w)
          have hk := List.mem_reverse.mp hk
          have kn := ((lpF_mem A n p' k).mp hk).1
          have nk := lpF_oth hp hp' e hk
          have := hS.1 k kn
          exact ⟨fun j w => w.elim (w_card hS hl hp kn (Or.inr nk)) (fun q => by omega), fun ha j w => w.elim (w_share hS hl hp kn ha nk) (fun q => by omega), v_card hS hl hp kn (Or.inr nk), v_card hS hl hp kn (Or.inr nk)⟩
    · by_cases e : p' = p
      · rw [e]; exact st
      · rw [u5 _ _ (fun w => by have := lo (34 + p') 2 (by omega) w; omega)]; exact w
section Ops11
variable {z : ZS} {n R : Nat}
theorem op_check (hS : Sim z n R) (pp day : Int32) : Op2 i_X_check i_M_check [.int pp, .int day] z := by
  have hC := hS.2
  have hT := hC.1
  have t6 := hT.2.1
  have t19 := hT.2.2.2.2.2.2.1
  obtain ⟨h60, hV, h6⟩ := hC.2.2.2.2.2.1
  obtain ⟨r7, t, ht, e19, s19, h20⟩ := hC.2.2.2.1
  have hFr : Fr (fun a _ => a = 19) (fun _ _ => False) z (sI z 19 1 0) := ⟨Nat.le_refl _, fun _ _ => ⟨rfl, rfl⟩, fun a j _ w => sI_n (fun q => w q.1), fun _ _ _ _ => rfl⟩
  have hKp : Kp z (sI z 19 1 0) := ⟨rfl, rfl, rfl, rfl, fun a j a1 a2 => ⟨sI_n (by omega), rfl⟩⟩
  have hC0 : Cls (sI z 19 1 0) (TA z) (FZ z) (upd (VZ z) 19 0) n R := by
    refine Cls_rw hFr (fun a j w => by have w : a = 19 := w; omega) hC ⟨?_, 0, by omega, rfl, sI_e, fun j hj => absurd hj (by omega)⟩ (fun j hj => rfl) rfl rfl
    obtain ⟨w, w1, w2, w3, w4⟩ := r7
    exact ⟨w, w1, w2, (sI_n (by omega)).trans w3, fun j hj => by rw [sI_n (by omega)]; exact w4 j hj⟩
  have hT0 := hC0.1
  have bad : ¬ ((0 ≤ pp ∧ pp ≤ 11) ∧ 0 ≤ day ∧ day ≤ 9999) → Rn 12 i_X_check [.ref 6, .int pp, .int day] z (some (.int (-100001))) (rfz (sI z 19 1 0) 0) → Op2 i_X_check i_M_check [.int pp, .int day] z := by
    intro hb rx
    obtain ⟨h1, h2⟩ := Cls_ref hC0 0
    have hK := Kp_t hKp h2
    refine op_g (Kp_MT hK hS.1) rx (V' := upd (VZ z) 19 0) (A' := cnt (AZ (rfz (sI z 19 1 0) 0)) 1) ?_ h1 ?_ ?_ rfl rfl rfl rfl (Nat.le_add_right _ _) (Nat.le_add_right _ _)
    · have r := M_check_bad 1 (rfz (sI z 19 1 0) 0) (VZ (rfz (sI z 19 1 0) 0)) (AZ (rfz (sI z 19 1 0) 0)) (Kp_MT hK hS.1) pp day hb
      rw [Kp_VZ hK] at r ⊢
      exact r
    · rw [← Kp_TA hK]
      exact trw_w (fun j hj => funext (fun i => by
        show (if j = 17 ∧ i = 1 then _ else AZ (rfz (sI z 19 1 0) 0) j i) = _
        rw [if_neg (by omega)]))
    · rw [← Kp_FZ hK]
      funext i
      show (if i % 3 = 0 then (if 17 = 17 ∧ i / 3 = 1 then AZ (rfz (sI z 19 1 0) 0) 17 1 + 1 else AZ (rfz (sI z 19 1 0) 0) 17 (i / 3)) else if i % 3 = 1 then AZ (rfz (sI z 19 1 0) 0) 7 (i / 3) else AZ (rfz (sI z 19 1 0) 0) 16 (i / 3)) = if i = 3 * (0 + 1) then fzF (AZ (rfz (sI z 19 1 0) 0)) (3 * (0 + 1)) + 1 else fzF (AZ (rfz (sI z 19 1 0) 0)) i
      by_cases e : i = 3
      · subst e; rfl
      · rw [if_neg (show ¬ i = 3 * (0 + 1) from e)]
        unfold fzF
        by_cases e0 : i % 3 = 0
        · rw [if_pos e0, if_pos e0, if_neg (by omega)]
        · rw [if_neg e0, if_neg e0]
  by_cases hk : 0 ≤ pp ∧ pp ≤ 11
  · obtain ⟨p, hp, e⟩ := pl_in hk
    subst e
    by_cases hd : 0 ≤ day ∧ day ≤ 9999
    · obtain ⟨z1, rs, hC1, st, hK1, ec, ks, e20⟩ := Cls_settle20 5 hC0 p hp
      have hI := (hC1.2.2.2.2.2.2.2.2.2 p hp).2.2 st
      obtain ⟨y, M, N, rb, rg, hN, hC2⟩ := gath 9 hp hC1 hI day
      obtain ⟨o1, o2, o3⟩ := tpF_ok (TA z) n p h60
      have em := c_mkN R hC.2.2.2.2.2.2.2.2.1 p day
      have en := c_num R hC.2.2.2.2.2.2.2.2.1 p day
      have ei := c_mkI R hC.2.2.2.2.2.2.2.2.1 p day
      rw [← em] at rg hN hC2 ei
      have hN : ∀ j, j < mkN (fB (TA z) n R) (TA z) (oF (TA z 10) n) n (nI p) day → N j = nI (mkI (fB (TA z) n R) (TA z) (oF (TA z 10) n) n (nI p) day j) := fun j hj => by rw [hN j hj, ei j hj]
      have st2 : zI (bz z1 (nI (mkN (fB (TA z) n R) (TA z) (oF (TA z 10) n) n (nI p) day)) M N) (34 + p) 2 = 0 := by
        rw [(bz_Fr z1 _ M N).2.2.1 (34 + p) 2 (by have := hC1.1.1; omega) (by omega)]; exact st
      have hI2 := (hC2.2.2.2.2.2.2.2.2.2 p hp).2.2 st2
      have rn := P_num 8 (Cls_SC hC2 p hp) (tpF (TA z) n p) o1 o2 o3 hI2 day
      rw [← en] at rn
      have hK2 := Kp_t (Kp_t hKp hK1) (bz_Kp z1 (nI (mkN (fB (TA z) n R) (TA z) (oF (TA z 10) n) n (nI p) day)) M N)
      have tk : mkN (fB (TA z) n R) (TA z) (oF (TA z 10) n) n (nI p) day ≤ 8 := mkN_le (fB (TA z) n R) (TA z) (oF (TA z 10) n) n (nI p) day
      have s20 : ∀ j, zI (bz z1 (nI (mkN (fB (TA z) n R) (TA z) (oF (TA z 10) n) n (nI p) day)) M N) 20 j = zI z 20 j := fun j => by
        rw [(bz_Fr z1 _ M N).2.2.1 20 j (by have := hC1.1.1; omega) (by omega), e20 j, sI_n (by omega)]
      have s14 : zI (bz z1 (nI (mkN (fB (TA z) n R) (TA z) (oF (TA z 10) n) n (nI p) day)) M N) 14 2 = nI (mkN (fB (TA z) n R) (TA z) (oF (TA z 10) n) n (nI p) day) := rfl
      have s16 : ∀ j, zI (bz z1 (nI (mkN (fB (TA z) n R) (TA z) (oF (TA z 10) n) n (nI p) day)) M N) 16 j = N j := fun j => rfl
      obtain ⟨V', A', rm, g1, g2⟩ := M_check_ok 1 (bz z1 (nI (mkN (fB (TA z) n R) (TA z) (oF (TA z 10) n) n (nI p) day)) M N) (VZ (bz z1 (nI (mkN (fB (TA z) n R) (TA z) (oF (TA z 10) n) n (nI p) day)) M N)) (AZ (bz z1 (nI (mkN (fB (TA z) n R) (TA z) (oF (TA z 10) n) n (nI p) day)) M N)) n R (sim_mw hS hK2) (nI p) day t (by rw [Kp_VZ hK2]; exact e19) ht ⟨hk, hd⟩
      have hw := sim_w hK2
      have ed : dueF (fB (TA z) n R) (AZ (bz z1 (nI (mkN (fB (TA z) n R) (TA z) (oF (TA z 10) n) n (nI p) day)) M N)) (oF (TA z 10) n) n (nI p) day = dueF (fB (TA z) n R) (TA z) (oF (TA z 10) n) n (nI p) day := funext (fun i => by unfold dueF; rw [mkN_w hw, mkI_w hw, numB_w hw])
      rw [fB_w hw, mkN_w hw, hw 10 (by decide), ed] at rm
      have e16 : ∀ j, j < t → AZ (bz z1 (nI (mkN (fB (TA z) n R) (TA z) (oF (TA z 10) n) n (nI p) day)) M N) 16 j = zI z 20 j := fun j hj => by
        rw [Kp_AZ hK2 16 (by decide), h20 j hj]; exact (fz_2 (AZ z) j).symm
      have dl : ∀ i, i < mkN (fB (TA z) n R) (TA z) (oF (TA z 10) n) n (nI p) day → dueF (fB (TA z) n R) (TA z) (oF (TA z 10) n) n (nI p) day i = N i := fun i hi => by unfold dueF; rw [if_pos hi, hN i hi]
      have dn : dueF (fB (TA z) n R) (TA z) (oF (TA z 10) n) n (nI p) day (mkN (fB (TA z) n R) (TA z) (oF (TA z 10) n) n (nI p) day) = numB (fB (TA z) n R) (TA z) (oF (TA z 10) n) n (nI p) day := by unfold dueF; rw [if_neg (Nat.lt_irrefl _)]
      refine op_g (Kp_MT hK2 hS.1) ?_ rm hC2 ?_ ?_ ((g1 4 (by decide) (by decide) (by decide)).trans ?_) ((g1 8 (by decide) (by decide) (by decide)).trans ?_) ((g1 10 (by decide) (by decide) (by decide)).trans ?_) (g1 19 (by decide) (by decide) (by decide)) (by show (bz z1 _ M N).1 ≤ _; rw [hK2.1]; exact Nat.le_add_right _ _) (by show (bz z1 _ M N).2.1 ≤ _; rw [hK2.2.1]; exact Nat.le_add_right _ _)
      · generalize AZ (bz z1 (nI (mkN (fB (TA z) n R) (TA z) (oF (TA z 10) n) n (nI p) day)) M N) 16 = told at e16 ⊢
        generalize dueF (fB (TA z) n R) (TA z) (oF (TA z 10) n) n (nI p) day = due at dl dn ⊢
        generalize numB (fB (TA z) n R) (TA z) (oF (TA z 10) n) n (nI p) day = num at dn rn ⊢
        have tz6 := hC2.1.2.1
        have tz19 := hC2.1.2.2.2.2.2.2.1
        have tB := hC2.1.2.2.2.2.2.2.2.2.2.2.1
        generalize mkN (fB (TA z) n R) (TA z) (oF (TA z 10) n) n (nI p) day = m at *
        have t60 := hT0.2.1
        have t61 := hC1.1.2.1
        refine rn_i (full := cd_87) t6.1 (ok_n rfl) rfl (fun K hK' => hK' 0 _ _ _ ⟨⟨t6.1, t6.2.2.2.2.2.2.2.1⟩, ⟨t19.1, ⟨⟨t6.1, t6.2.2.2.2.2.2.2.1⟩, ⟨t19.1, ⟨_, _, X_playerOf_ok 10 hT0 p hp, ⟨fun c6 => absurd c6 (by show ¬ 34 + p = 0; omega), fun c6 => ⟨_, _, X_isDay 9 _ day, ⟨fun c10 => absurd hd (b1_t c10), fun c10 => ⟨⟨t60.1, t60.2.2.2.2.1⟩, ⟨⟨t60.1, t60.2.2.2.2.2.1⟩, ⟨_, _, rs, ⟨⟨t61.1, t61.2.2.2.2.2.1⟩, ⟨_, _, rb, ⟨_, _, rg, ?_⟩⟩⟩⟩⟩⟩⟩⟩⟩⟩⟩⟩⟩⟩)
        show K 71 [.ref 6, .int (nI p), .int day, .int (zI z 19 1), .ref (34 + p), .int (nI 0), .null] [] (bz z1 (nI m) M N)
        rw [s19]
        generalize bz z1 (nI m) M N = zz at *
        generalize hXX : ckF due told t m (m + 1) 0 = X at hK'
        refine loop_up (P := fun i => ∀ v : Value, ckF due told t m (m + 1 - i) i = X → K 71 [.ref 6, .int (nI p), .int day, .int (nI t), .ref (34 + p), .int (nI i), v] [] zz) (m + 1) (fun i hi ih v hc => ?_) 0 (by omega) .null hXX
        by_cases him : i < m + 1
        · have ih := ih him
          rw [nI_succ i] at ih
          rw [show m + 1 - i = (m + 1 - (i + 1)) + 1 by omega] at hc
          unfold ckF at hc
          have ci : (nI i).toNatClampNeg = i := nI_clamp (by omega)
          have c1' : ¬ zI zz 14 2 < nI i := by rw [s14]; exact nI_nlt (by omega) (by omega)
          have im : ¬ zI zz 14 2 ≤ nI i → i < m := fun h => by rw [s14] at h; exact nI_leN (by omega) (by omega) h
          have mi : zI zz 14 2 ≤ nI i → i = m := fun h => by
            rw [s14] at h
            have := (nI_leI (by omega) (by omega)).mp h
            omega
          have tv : tg zz (zP zz 19 0) = 1 := by rw [tz19.2.1]; exact tz19.2.2.1
          have v16 : i < m → vp_in (nI i) (ln zz 16) := fun h => by rw [tB.2.2.2.2.2]; exact vp_in_nI (by omega) (by decide)
          have v20 : ¬ nI t ≤ nI i → vp_in (nI i) (ln zz (zP zz 19 0)) := fun h => by rw [tz19.2.1, tz19.2.2.2]; exact vp_in_nI (by have := nI_leN (by omega) (by omega) h; omega) (by decide)
          refine hK' 35 _ _ _ ⟨⟨tz6.1, tz6.2.2.2.2.2.1⟩, ⟨tB.1, ⟨fun c3 => absurd c3 c1', fun c3 => ⟨⟨tz6.1, tz6.2.2.2.2.2.1⟩, ⟨tB.1, ⟨fun c11 => ⟨_, _, rn, ⟨fun c13 => ?_, fun c13 => ⟨⟨tz6.1, tz6.2.2.2.2.2.2.2.1⟩, ⟨tz19.1, ⟨⟨tv, v20 c13⟩, ⟨fun c18 => ?_, fun c18 => ?_⟩⟩⟩⟩⟩⟩, fun c11 => ⟨⟨tz6.1, tz6.2.2.2.2.2.1⟩, ⟨⟨tB.1, tB.2.2.1⟩, ⟨⟨tB.2.2.2.2.1, v16 (im c11)⟩, ⟨fun c24 => ?_, fun c24 => ⟨⟨tz6.1, tz6.2.2.2.2.2.2.2.1⟩, ⟨tz19.1, ⟨⟨tv, v20 c24⟩, ⟨fun c29 => ?_, fun c29 => ?_⟩⟩⟩⟩⟩⟩⟩⟩⟩⟩⟩⟩⟩⟩
          · have c13 : t ≤ i := (nI_leI (by omega) (by omega)).mp c13
            rw [if_pos c13] at hc
            subst hc; exact ⟨rfl, rfl⟩
          · have c13 := nI_leN (by omega) (by omega) c13
            have c18 : zI zz (zP zz 19 0) (nI i).toNatClampNeg = num := c18
            rw [tz19.2.1, ci, s20, ← e16 i (by omega), ← dn, ← mi c11] at c18
            rw [if_neg (by omega), if_pos c18] at hc
            exact ih _ hc
          · have c13 := nI_leN (by omega) (by omega) c13
            have c18 : ¬ zI zz (zP zz 19 0) (nI i).toNatClampNeg = num := c18
            rw [tz19.2.1, ci, s20, ← e16 i (by omega), ← dn, ← mi c11] at c18
            rw [if_neg (by omega), if_neg c18] at hc
            subst hc; exact ⟨rfl, rfl⟩
          · have c24 : t ≤ i := (nI_leI (by omega) (by omega)).mp c24
            rw [if_pos c24] at hc
            subst hc; exact ⟨rfl, rfl⟩
          · have c24 := nI_leN (by omega) (by omega) c24
            have c29 : zI zz (zP zz 19 0) (nI i).toNatClampNeg = zI zz 16 (nI i).toNatClampNeg := c29
            rw [tz19.2.1, ci, s20, ← e16 i (by omega), s16, ← dl i (im c11)] at c29
            rw [if_neg (by omega), if_pos c29] at hc
            exact ih _ hc
          · have c24 := nI_leN (by omega) (by omega) c24
            have c29 : ¬ zI zz (zP zz 19 0) (nI i).toNatClampNeg = zI zz 16 (nI i).toNatClampNeg := c29
            rw [tz19.2.1, ci, s20, ← e16 i (by omega), s16, ← dl i (im c11)] at c29
            rw [if_neg (by omega), if_neg c29] at hc
            subst hc; exact ⟨rfl, rfl⟩
        · have e : i = m + 1 := by omega
          subst e
          rw [show m + 1 - (m + 1) = 0 by omega] at hc
          unfold ckF at hc
          have es : zI zz 14 2 + 1 = nI (m + 1) := by rw [s14, nI_succ]
          refine hK' 35 _ _ _ ⟨⟨tz6.1, tz6.2.2.2.2.2.1⟩, ⟨tB.1, ⟨fun c3 => ⟨⟨tz6.1, tz6.2.2.2.2.2.1⟩, ⟨tB.1, ⟨fun c6 => ?_, fun c6 => ?_⟩⟩⟩, fun c3 => absurd ?_ c3⟩⟩⟩
          · have c6 : nI t ≤ zI zz 14 2 + 1 := c6
            rw [es] at c6
            rw [if_pos ((nI_leI (by omega) (by omega)).mp c6)] at hc
            subst hc; exact ⟨rfl, rfl⟩
          · have c6 : ¬ nI t ≤ zI zz 14 2 + 1 := c6
            rw [es] at c6
            rw [if_neg (by have := nI_leN (by omega) (by omega) c6; omega)] at hc
            subst hc; exact ⟨rfl, rfl⟩
          · show zI zz 14 2 < nI (m + 1)
            rw [s14]; exact nI_lt (by omega) (by omega)
      · rw [← Kp_TA hK2]
        exact trw_w (fun j hj => g2 j (by omega))
      · rw [← Kp_FZ hK2]
        exact fzF_e (g2 17 (by decide)) (g2 7 (by decide)) (g2 16 (by decide))
      all_goals
        rw [Kp_VZ hK2]
    · exact bad (fun w => hd w.2) (rn_i (full := cd_87) t6.1 (ok_n rfl) rfl (fun K hK' => hK' 0 _ _ _ ⟨⟨t6.1, t6.2.2.2.2.2.2.2.1⟩, ⟨t19.1, ⟨⟨t6.1, t6.2.2.2.2.2.2.2.1⟩, ⟨t19.1, ⟨_, _, X_playerOf_ok 10 hT0 p hp, ⟨fun c6 => absurd c6 (by show ¬ 34 + p = 0; omega), fun c6 => ⟨_, _, X_isDay 9 _ day, ⟨fun c10 => ⟨_, _, X_rB 9 hT0, rfl, rfl⟩, fun c10 => absurd (b1_f c10) hd⟩⟩⟩⟩⟩⟩⟩⟩))
  · exact bad (fun w => hk w.1) (rn_i (full := cd_87) t6.1 (ok_n rfl) rfl (fun K hK' => hK' 0 _ _ _ ⟨⟨t6.1, t6.2.2.2.2.2.2.2.1⟩, ⟨t19.1, ⟨⟨t6.1, t6.2.2.2.2.2.2.2.1⟩, ⟨t19.1, ⟨_, _, X_playerOf_no 10 hT0 pp hk, ⟨fun c6 => ⟨_, _, X_rB 9 hT0, rfl, rfl⟩, fun c6 => absurd rfl c6⟩⟩⟩⟩⟩⟩))
end Ops11
