/-! Calls of both: number raw last makes given strokes as. Own work. -/
/-- a player settled -/
theorem pl_s (d : Nat) {z : ZS} {n R : Nat} (hS : Sim z n R) (p : Nat) (hp : p < 12) : ∃ z1, Rn (d + 6) i_P_settle [.ref (34 + p), .ref 10, .ref 14] z none z1 ∧ Cls z1 (TA z) (FZ z) (VZ z) n R ∧ Kp z z1 ∧ zP z1 9 = zP z 9 ∧ IV z1 (zP z1 9) (TA z) R p (tpF (TA z) n p) ∧ zI z1 (34 + p) 2 = 0 := by
  obtain ⟨z1, rs, hC1, st, hK, ec, ks⟩ := Cls_settle d hS.2 p hp
  exact ⟨z1, rs, hC1, hK, ec, (hC1.2.2.2.2.2.2.2.2.2 p hp).2.2 st, st⟩
theorem tpF_ok (A : Nat → Nat → Int32) (n p : Nat) (h60 : n ≤ 60) : (∀ k, k ∈ tpF A n p → k < n) ∧ (tpF A n p).length ≤ 60 ∧ dn (A 10) (tpF A n p) := ⟨fun k hk => ((lpF_mem A n p k).mp (List.mem_reverse.mp hk)).1, by have := lpF_len A n p; unfold tpF; rw [List.length_reverse]; omega, lpF_dn A n p⟩
theorem pl_in {x : Int32} (h : 0 ≤ x ∧ x ≤ 11) : ∃ p, p < 12 ∧ x = nI p := by
  obtain ⟨j, hj, e⟩ := rng_nI (x := x) (N := 11) (by decide) h
  exact ⟨j, by omega, e⟩
theorem co_in {x : Int32} (h : 0 ≤ x ∧ x ≤ 3) : ∃ c, c < 4 ∧ x = nI c := by
  obtain ⟨j, hj, e⟩ := rng_nI (x := x) (N := 3) (by decide) h
  exact ⟨j, by omega, e⟩
theorem ho_in {x : Int32} (h : 0 ≤ x ∧ x ≤ 17) : ∃ c, c < 18 ∧ x = nI c := by
  obtain ⟨j, hj, e⟩ := rng_nI (x := x) (N := 17) (by decide) h
  exact ⟨j, by omega, e⟩
section Ops2
variable {z : ZS} {n R : Nat}
theorem op_number (hS : Sim z n R) (pp day : Int32) : Op2 i_X_number i_M_number [.int pp, .int day] z := by
  have hC := hS.2
  have hT := hC.1
  have t6 := hT.2.1
  obtain ⟨h60, hV, h6⟩ := hC.2.2.2.2.2.1
  by_cases hk : 0 ≤ pp ∧ pp ≤ 11
  · obtain ⟨p, hp, e⟩ := pl_in hk
    subst e
    by_cases hd : 0 ≤ day ∧ day ≤ 9999
    · obtain ⟨z1, rs, hC1, hK, ec, hI, st⟩ := pl_s 5 hS p hp
      obtain ⟨o1, o2, o3⟩ := tpF_ok (TA z) n p h60
      have rn := P_num 8 (Cls_SC hC1 p hp) (tpF (TA z) n p) o1 o2 o3 hI day
      exact ans hS hK hC1 (rn_i (full := cd_76) t6.1 (ok_n rfl) rfl (fun K hK' => hK' 0 _ _ _ ⟨_, _, X_playerOf_ok 10 hT p hp, ⟨fun c2 => absurd c2 (by show ¬ 34 + p = 0; omega), fun c2 => ⟨_, _, X_isDay 9 z day, ⟨fun c6 => absurd hd (b1_t c6), fun c6 => ⟨⟨t6.1, t6.2.2.2.2.1⟩, ⟨⟨t6.1, t6.2.2.2.2.2.1⟩, ⟨_, _, rs, ⟨_, _, rn, rfl, rfl⟩⟩⟩⟩⟩⟩⟩⟩)) (fun zz hW hw => by
        have r := M_number_ok 1 zz (VZ zz) (AZ zz) n R hW (nI p) day ⟨hk, hd⟩
        rw [fB_w hw, numB_w hw, hw 10 (by decide), c_num R hC.2.2.2.2.2.2.2.2.1 p] at r
        exact r)
    · exact fnd0 hS 0 (rn_i (full := cd_76) t6.1 (ok_n rfl) rfl (fun K hK' => hK' 0 _ _ _ ⟨_, _, X_playerOf_ok 10 hT p hp, ⟨fun c2 => absurd c2 (by show ¬ 34 + p = 0; omega), fun c2 => ⟨_, _, X_isDay 9 z day, ⟨fun c6 => ⟨_, _, X_rB 9 hT, rfl, rfl⟩, fun c6 => absurd (b1_f c6) hd⟩⟩⟩⟩)) (fun zz hW hw => M_number_bad 1 zz (VZ zz) (AZ zz) hW.1 _ day (fun w => hd w.2))
  · exact fnd0 hS 0 (rn_i (full := cd_76) t6.1 (ok_n rfl) rfl (fun K hK' => hK' 0 _ _ _ ⟨_, _, X_playerOf_no 10 hT pp hk, ⟨fun c2 => ⟨_, _, X_rB 9 hT, rfl, rfl⟩, fun c2 => absurd rfl c2⟩⟩)) (fun zz hW hw => M_number_bad 1 zz (VZ zz) (AZ zz) hW.1 pp day (fun w => hk w.1))
theorem op_given (hS : Sim z n R) (pp cc day : Int32) : Op2 i_X_given i_M_given [.int pp, .int cc, .int day] z := by
  have hC := hS.2
  have hT := hC.1
  have t6 := hT.2.1
  obtain ⟨h60, hV, h6⟩ := hC.2.2.2.2.2.1
  by_cases hk : 0 ≤ pp ∧ pp ≤ 11
  · obtain ⟨p, hp, e⟩ := pl_in hk
    subst e
    by_cases hc : 0 ≤ cc ∧ cc ≤ 3
    · obtain ⟨c, hc4, e⟩ := co_in hc
      subst e
      by_cases hd : 0 ≤ day ∧ day ≤ 9999
      · obtain ⟨z1, rs, hC1, hK, ec, hI, st⟩ := pl_s 5 hS p hp
        obtain ⟨o1, o2, o3⟩ := tpF_ok (TA z) n p h60
        have rn := P_num 8 (Cls_SC hC1 p hp) (tpF (TA z) n p) o1 o2 o3 hI day
        have rg := C_givenFor 8 z1 (22 + 3 * c) _ _ _ _ (CS_CO hC1.2.1 c hc4) (nuP (pb (TA z) R (tpF (TA z) n p)) (TA z) (tpF (TA z) n p) day)
        have eg : gvS (nuP (pb (TA z) R (tpF (TA z) n p)) (TA z) (tpF (TA z) n p) day) (TA z 0 c) (TA z 1 c) (fun h => TA z 2 (18 * c + h)) = gvT (nuP (pb (TA z) R (tpF (TA z) n p)) (TA z) (tpF (TA z) n p) day) (TA z) c := by unfold gvS gvT; rw [ps_pars]
        rw [eg] at rg
        exact ans hS hK hC1 (rn_i (full := cd_80) t6.1 (ok_n rfl) rfl (fun K hK' => hK' 0 _ _ _ ⟨_, _, X_playerOf_ok 10 hT p hp, ⟨_, _, X_courseOf_ok 10 hT c hc4, ⟨fun c3 => absurd c3 (by show ¬ 34 + p = 0; omega), fun c3 => ⟨fun c6 => absurd c6 (by show ¬ 22 + 3 * c = 0; omega), fun c6 => ⟨_, _, X_isDay 9 z day, ⟨fun c10 => absurd hd (b1_t c10), fun c10 => ⟨⟨t6.1, t6.2.2.2.2.1⟩, ⟨⟨t6.1, t6.2.2.2.2.2.1⟩, ⟨_, _, rs, ⟨_, _, rn, ⟨_, _, rg, rfl, rfl⟩⟩⟩⟩⟩⟩⟩⟩⟩⟩⟩)) (fun zz hW hw => by
          have r := M_given_ok 1 zz (VZ zz) (AZ zz) n R hW (nI p) day c hc4 ⟨hk, hd⟩
          rw [fB_w hw, numB_w hw, hw 10 (by decide), c_num R hC.2.2.2.2.2.2.2.2.1 p] at r
          have e2 : ∀ N, gvT N (AZ zz) c = gvT N (TA z) c := fun N => by unfold gvT; rw [parsF_eq (hw 2 (by decide)), hw 0 (by decide), hw 1 (by decide)]
          rw [e2] at r
          exact r)
      · exact fnd0 hS 0 (rn_i (full := cd_80) t6.1 (ok_n rfl) rfl (fun K hK' => hK' 0 _ _ _ ⟨_, _, X_playerOf_ok 10 hT p hp, ⟨_, _, X_courseOf_ok 10 hT c hc4, ⟨fun c3 => absurd c3 (by show ¬ 34 + p = 0; omega), fun c3 => ⟨fun c6 => absurd c6 (by show ¬ 22 + 3 * c = 0; omega), fun c6 => ⟨_, _, X_isDay 9 z day, ⟨fun c10 => ⟨_, _, X_rB 9 hT, rfl, rfl⟩, fun c10 => absurd (b1_f c10) hd⟩⟩⟩⟩⟩⟩)) (fun zz hW hw => M_given_bad 1 zz (VZ zz) (AZ zz) hW.1 _ _ day (fun w => hd w.1.2))
    · exact fnd0 hS 0 (rn_i (full := cd_80) t6.1 (ok_n rfl) rfl (fun K hK' => hK' 0 _ _ _ ⟨_, _, X_playerOf_ok 10 hT p hp, ⟨_, _, X_courseOf_no 10 hT cc hc, ⟨fun c3 => absurd c3 (by show ¬ 34 + p = 0; omega), fun c3 => ⟨fun c6 => ⟨_, _, X_rB 9 hT, rfl, rfl⟩, fun c6 => absurd rfl c6⟩⟩⟩⟩)) (fun zz hW hw => M_given_bad 1 zz (VZ zz) (AZ zz) hW.1 _ _ day (fun w => hc w.2))
  · have rc : ∃ y, Rn 11 i_X_courseOf [.ref 6, .int cc] z (some (.ref y)) z := by
      by_cases hc : 0 ≤ cc ∧ cc ≤ 3
      · obtain ⟨c, hc4, e⟩ := co_in hc
        subst e
        exact ⟨_, X_courseOf_ok 10 hT c hc4⟩
      · exact ⟨_, X_courseOf_no 10 hT cc hc⟩
    obtain ⟨y, rc⟩ := rc
    exact fnd0 hS 0 (rn_i (full := cd_80) t6.1 (ok_n rfl) rfl (fun K hK' => hK' 0 _ _ _ ⟨_, _, X_playerOf_no 10 hT pp hk, ⟨_, _, rc, ⟨fun c3 => ⟨_, _, X_rB 9 hT, rfl, rfl⟩, fun c3 => absurd rfl c3⟩⟩⟩)) (fun zz hW hw => M_given_bad 1 zz (VZ zz) (AZ zz) hW.1 pp _ day (fun w => hk w.1.1))
theorem op_raw (hS : Sim z n R) (pp day l : Int32) : Op2 i_X_raw i_M_raw [.int pp, .int day, .int l] z := by
  have hC := hS.2
  have hT := hC.1
  have t6 := hT.2.1
  obtain ⟨h60, hV, h6⟩ := hC.2.2.2.2.2.1
  by_cases hk : 0 ≤ pp ∧ pp ≤ 11
  · obtain ⟨p, hp, e⟩ := pl_in hk
    subst e
    by_cases hd : 0 ≤ day ∧ day ≤ 9999
    · obtain ⟨z1, rs, hC1, hK, ec, hI, st⟩ := pl_s 5 hS p hp
      obtain ⟨o1, o2, o3⟩ := tpF_ok (TA z) n p h60
      have sc := Cls_SC hC1 p hp
      obtain ⟨ch1, ch2⟩ := IV_CH hC1.2.2.2.2.2.2.1 o1 hI
      have nos := sc.2.2.2.2.2.2.2.2.2.2.2.2.2.2.1 (tpF (TA z) n p) o1 o2
      obtain ⟨i0, hi0⟩ := stp0_ex (TA z 10) day (mkd (pb (TA z) R (tpF (TA z) n p)) (tpF (TA z) n p))
      have hlen : (mkd (pb (TA z) R (tpF (TA z) n p)) (tpF (TA z) n p)).length ≤ (tpF (TA z) n p).length := List.length_filter_le _ _
      have tp13 : tg z1 (34 + p) = 13 := sc.2.2.2.2.2.2.2.1
      have eg : (mkd (pb (TA z) R (tpF (TA z) n p)) (tpF (TA z) n p)).drop i0 = gP (pb (TA z) R (tpF (TA z) n p)) (TA z) (tpF (TA z) n p) day := (flt_drop (TA z 10) day _ (flt_dn o3 _) i0 hi0).symm
      have ns1 : ∀ v, rawO (pb (TA z) R (tpF (TA z) n p)) (gP (pb (TA z) R (tpF (TA z) n p)) (TA z) (tpF (TA z) n p) day) = some v → ¬ v = -100002 := by
        intro v hv
        rw [← eg] at hv
        unfold rawO at hv
        split at hv
        · cases hv
        · rename_i ht
          cases hv
          refine nos.2.2 i0 ?_
          rcases Nat.lt_or_ge i0 (mkd (pb (TA z) R (tpF (TA z) n p)) (tpF (TA z) n p)).length with w | w
          · exact w
          · rw [List.drop_of_length_le w] at ht; exact absurd rfl ht
      have ns2 : ∀ v, lwL (pb (TA z) R (tpF (TA z) n p)) (TA z 10) day (gP (pb (TA z) R (tpF (TA z) n p)) (TA z) (tpF (TA z) n p) day) none (-1) = some v → ¬ v = -100002 := by
        rw [← eg]
        exact lwL_ns _ _ day _ none (-1) (fun i hi => by rw [List.drop_drop]; exact nos.2.2 _ (by rw [List.length_drop] at hi; omega)) (fun v h => by cases h)
      by_cases hl : l = 0
      · subst hl
        have rr := P_rawFor 9 z1 (zP z1 9) _ (TA z 10) _ ch1 ch2 (34 + p) tp13 hI.2.1 day i0 hi0
        rw [eg] at rr
        cases hm : rawO (pb (TA z) R (tpF (TA z) n p)) (gP (pb (TA z) R (tpF (TA z) n p)) (TA z) (tpF (TA z) n p) day) with
        | none =>
          rw [hm] at rr
          exact fnd_s hS hK hC1 1 (rn_i (full := cd_77) t6.1 (ok_n rfl) rfl (fun K hK' => hK' 0 _ _ _ ⟨_, _, X_playerOf_ok 10 hT p hp, ⟨fun c2 => absurd c2 (by show ¬ 34 + p = 0; omega), fun c2 => ⟨_, _, X_isDay 9 z day, ⟨fun c6 => absurd hd (b1_t c6), fun c6 => ⟨⟨t6.1, t6.2.2.2.2.1⟩, ⟨⟨t6.1, t6.2.2.2.2.2.1⟩, ⟨_, _, rs, ⟨fun c12 => ⟨_, _, rr, ⟨_, _, X_orNone_n 8 hC1.1, rfl, rfl⟩⟩, fun c12 => absurd rfl c12⟩⟩⟩⟩⟩⟩⟩⟩)) (fun zz hW hw => by
            have r := M_raw_raw 1 zz (VZ zz) (AZ zz) n R hW (nI p) day ⟨hk, hd⟩
            rw [fB_w hw, gM_w hw, hw 10 (by decide), c_raw R hC.2.2.2.2.2.2.2.2.1 p, hm] at r
            exact r)
        | some v =>
          rw [hm] at rr
          exact ans hS hK hC1 (rn_i (full := cd_77) t6.1 (ok_n rfl) rfl (fun K hK' => hK' 0 _ _ _ ⟨_, _, X_playerOf_ok 10 hT p hp, ⟨fun c2 => absurd c2 (by show ¬ 34 + p = 0; omega), fun c2 => ⟨_, _, X_isDay 9 z day, ⟨fun c6 => absurd hd (b1_t c6), fun c6 => ⟨⟨t6.1, t6.2.2.2.2.1⟩, ⟨⟨t6.1, t6.2.2.2.2.2.1⟩, ⟨_, _, rs, ⟨fun c12 => ⟨_, _, rr, ⟨_, _, X_orNone_v 8 hC1.1 v (ns1 v hm), rfl, rfl⟩⟩, fun c12 => absurd rfl c12⟩⟩⟩⟩⟩⟩⟩⟩)) (fun zz hW hw => by
            have r := M_raw_raw 1 zz (VZ zz) (AZ zz) n R hW (nI p) day ⟨hk, hd⟩
            rw [fB_w hw, gM_w hw, hw 10 (by decide), c_raw R hC.2.2.2.2.2.2.2.2.1 p, hm] at r
            exact r)
      · have rr := P_lowFor 9 z1 (zP z1 9) _ (TA z 10) _ ch1 ch2 nos.2.2 (by omega) (34 + p) tp13 hI.2.1 day i0 hi0
        rw [eg] at rr
        cases hm : lwL (pb (TA z) R (tpF (TA z) n p)) (TA z 10) day (gP (pb (TA z) R (tpF (TA z) n p)) (TA z) (tpF (TA z) n p) day) none (-1) with
        | none =>
          rw [hm] at rr
          exact fnd_s hS hK hC1 1 (rn_i (full := cd_77) t6.1 (ok_n rfl) rfl (fun K hK' => hK' 0 _ _ _ ⟨_, _, X_playerOf_ok 10 hT p hp, ⟨fun c2 => absurd c2 (by show ¬ 34 + p = 0; omega), fun c2 => ⟨_, _, X_isDay 9 z day, ⟨fun c6 => absurd hd (b1_t c6), fun c6 => ⟨⟨t6.1, t6.2.2.2.2.1⟩, ⟨⟨t6.1, t6.2.2.2.2.2.1⟩, ⟨_, _, rs, ⟨fun c12 => absurd c12 hl, fun c12 => ⟨_, _, rr, ⟨_, _, X_orNone_n 8 hC1.1, rfl, rfl⟩⟩⟩⟩⟩⟩⟩⟩⟩⟩)) (fun zz hW hw => by
            have r := M_raw_low 1 zz (VZ zz) (AZ zz) n R hW (nI p) day l hl ⟨hk, hd⟩
            rw [fB_w hw, lowF_w hw, hw 10 (by decide), c_low R hC.2.2.2.2.2.2.2.2.1 p, hm] at r
            exact r)
        | some v =>
          rw [hm] at rr
          exact ans hS hK hC1 (rn_i (full := cd_77) t6.1 (ok_n rfl) rfl (fun K hK' => hK' 0 _ _ _ ⟨_, _, X_playerOf_ok 10 hT p hp, ⟨fun c2 => absurd c2 (by show ¬ 34 + p = 0; omega), fun c2 => ⟨_, _, X_isDay 9 z day, ⟨fun c6 => absurd hd (b1_t c6), fun c6 => ⟨⟨t6.1, t6.2.2.2.2.1⟩, ⟨⟨t6.1, t6.2.2.2.2.2.1⟩, ⟨_, _, rs, ⟨fun c12 => absurd c12 hl, fun c12 => ⟨_, _, rr, ⟨_, _, X_orNone_v 8 hC1.1 v (ns2 v hm), rfl, rfl⟩⟩⟩⟩⟩⟩⟩⟩⟩⟩)) (fun zz hW hw => by
            have r := M_raw_low 1 zz (VZ zz) (AZ zz) n R hW (nI p) day l hl ⟨hk, hd⟩
            rw [fB_w hw, lowF_w hw, hw 10 (by decide), c_low R hC.2.2.2.2.2.2.2.2.1 p, hm] at r
            exact r)
    · exact fnd0 hS 0 (rn_i (full := cd_77) t6.1 (ok_n rfl) rfl (fun K hK' => hK' 0 _ _ _ ⟨_, _, X_playerOf_ok 10 hT p hp, ⟨fun c2 => absurd c2 (by show ¬ 34 + p = 0; omega), fun c2 => ⟨_, _, X_isDay 9 z day, ⟨fun c6 => ⟨_, _, X_rB 9 hT, rfl, rfl⟩, fun c6 => absurd (b1_f c6) hd⟩⟩⟩⟩)) (fun zz hW hw => M_raw_bad 1 zz (VZ zz) (AZ zz) hW.1 _ day l (fun w => hd w.2))
  · exact fnd0 hS 0 (rn_i (full := cd_77) t6.1 (ok_n rfl) rfl (fun K hK' => hK' 0 _ _ _ ⟨_, _, X_playerOf_no 10 hT pp hk, ⟨fun c2 => ⟨_, _, X_rB 9 hT, rfl, rfl⟩, fun c2 => absurd rfl c2⟩⟩)) (fun zz hW hw => M_raw_bad 1 zz (VZ zz) (AZ zz) hW.1 pp day l (fun w => hk w.1))
theorem op_last (hS : Sim z n R) (pp day : Int32) : Op2 i_X_last i_M_last [.int pp, .int day] z := by
  have hC := hS.2
  have hT := hC.1
  have t6 := hT.2.1
  obtain ⟨h60, hV, h6⟩ := hC.2.2.2.2.2.1
  by_cases hk : 0 ≤ pp ∧ pp ≤ 11
  · obtain ⟨p, hp, e⟩ := pl_in hk
    subst e
    by_cases hd : 0 ≤ day ∧ day ≤ 9999
    · obtain ⟨z1, rs, hC1, hK, ec, hI, st⟩ := pl_s 5 hS p hp
      obtain ⟨o1, o2, o3⟩ := tpF_ok (TA z) n p h60
      have sc := Cls_SC hC1 p hp
      obtain ⟨ch1, ch2⟩ := IV_CH hC1.2.2.2.2.2.2.1 o1 hI
      obtain ⟨i0, hi0⟩ := stp0_ex (TA z 10) day (mkd (pb (TA z) R (tpF (TA z) n p)) (tpF (TA z) n p))
      have hlen : (mkd (pb (TA z) R (tpF (TA z) n p)) (tpF (TA z) n p)).length ≤ (tpF (TA z) n p).length := List.length_filter_le _ _
      have tp13 : tg z1 (34 + p) = 13 := sc.2.2.2.2.2.2.2.1
      have eg : (mkd (pb (TA z) R (tpF (TA z) n p)) (tpF (TA z) n p)).drop i0 = gP (pb (TA z) R (tpF (TA z) n p)) (TA z) (tpF (TA z) n p) day := (flt_drop (TA z 10) day _ (flt_dn o3 _) i0 hi0).symm
      have rb := P_markedBefore 10 z1 (zP z1 9) _ (TA z 10) _ ch1 (34 + p) tp13 hI.2.1 day i0 hi0
      have el : (gP (pb (TA z) R (tpF (TA z) n p)) (TA z) (tpF (TA z) n p) day).length = (mkd (pb (TA z) R (tpF (TA z) n p)) (tpF (TA z) n p)).length - i0 := by rw [← eg, List.length_drop]
      have mm : ∀ zz : ZS, MW zz (VZ zz) (AZ zz) n R → AgW (TA z) (AZ zz) → ∃ (V' : Nat → Int32) (A' : Nat → Nat → Int32), Rn 12 i_M_last [.ref 46, .int (nI p), .int day] (mz zz (VZ zz) (AZ zz)) (some (.int (nI (min 20 ((mkd (pb (TA z) R (tpF (TA z) n p)) (tpF (TA z) n p)).length - i0))))) (mz zz V' A') ∧ Ag (VZ zz) V' ∧ AgB (AZ zz) A' := fun zz hW hw => by
        have r := M_last_ok 1 zz (VZ zz) (AZ zz) n R hW (nI p) day ⟨hk, hd⟩
        rw [fB_w hw, gM_w hw, hw 10 (by decide), c_gM R hC.2.2.2.2.2.2.2.2.1 p] at r
        unfold m20 at r
        rw [el] at r
        exact r
      by_cases hil : i0 < (mkd (pb (TA z) R (tpF (TA z) n p)) (tpF (TA z) n p)).length
      · obtain ⟨d1, d2, d3, d4, d5, d6, d7⟩ := ch1 i0 hil
        have ei : hdi (zP z1 9) (mkd (pb (TA z) R (tpF (TA z) n p)) (tpF (TA z) n p)) i0 = zP z1 9 ((mkd (pb (TA z) R (tpF (TA z) n p)) (tpF (TA z) n p)).getD i0 0) := by unfold hdi; rw [if_pos hil]
        rw [ei] at rb
        exact ans hS hK hC1 (rn_i (full := cd_78) t6.1 (ok_n rfl) rfl (fun K hK' => hK' 0 _ _ _ ⟨_, _, X_playerOf_ok 10 hT p hp, ⟨fun c2 => absurd c2 (by show ¬ 34 + p = 0; omega), fun c2 => ⟨_, _, X_isDay 9 z day, ⟨fun c6 => absurd hd (b1_t c6), fun c6 => ⟨⟨t6.1, t6.2.2.2.2.1⟩, ⟨⟨t6.1, t6.2.2.2.2.2.1⟩, ⟨_, _, rs, ⟨_, _, rb, ⟨fun c13 => absurd c13 d2, fun c13 => ⟨_, _, D_lastToHere 10 z1 _ _ d1 d7 (by omega), rfl, rfl⟩⟩⟩⟩⟩⟩⟩⟩⟩⟩)) mm
      · have ei : hdi (zP z1 9) (mkd (pb (TA z) R (tpF (TA z) n p)) (tpF (TA z) n p)) i0 = 0 := by unfold hdi; rw [if_neg hil]
        rw [ei] at rb
        rw [show min 20 ((mkd (pb (TA z) R (tpF (TA z) n p)) (tpF (TA z) n p)).length - i0) = 0 by omega] at mm
        exact ans hS hK hC1 (rn_i (full := cd_78) t6.1 (ok_n rfl) rfl (fun K hK' => hK' 0 _ _ _ ⟨_, _, X_playerOf_ok 10 hT p hp, ⟨fun c2 => absurd c2 (by show ¬ 34 + p = 0; omega), fun c2 => ⟨_, _, X_isDay 9 z day, ⟨fun c6 => absurd hd (b1_t c6), fun c6 => ⟨⟨t6.1, t6.2.2.2.2.1⟩, ⟨⟨t6.1, t6.2.2.2.2.2.1⟩, ⟨_, _, rs, ⟨_, _, rb, ⟨fun c13 => ⟨rfl, rfl⟩, fun c13 => absurd rfl c13⟩⟩⟩⟩⟩⟩⟩⟩⟩)) mm
    · exact fnd0 hS 0 (rn_i (full := cd_78) t6.1 (ok_n rfl) rfl (fun K hK' => hK' 0 _ _ _ ⟨_, _, X_playerOf_ok 10 hT p hp, ⟨fun c2 => absurd c2 (by show ¬ 34 + p = 0; omega), fun c2 => ⟨_, _, X_isDay 9 z day, ⟨fun c6 => ⟨_, _, X_rB 9 hT, rfl, rfl⟩, fun c6 => absurd (b1_f c6) hd⟩⟩⟩⟩)) (fun zz hW hw => M_last_bad 1 zz (VZ zz) (AZ zz) hW.1 _ day (fun w => hd w.2))
  · exact fnd0 hS 0 (rn_i (full := cd_78) t6.1 (ok_n rfl) rfl (fun K hK' => hK' 0 _ _ _ ⟨_, _, X_playerOf_no 10 hT pp hk, ⟨fun c2 => ⟨_, _, X_rB 9 hT, rfl, rfl⟩, fun c2 => absurd rfl c2⟩⟩)) (fun zz hW hw => M_last_bad 1 zz (VZ zz) (AZ zz) hW.1 pp day (fun w => hk w.1))
theorem op_strokes (hS : Sim z n R) (cc g h : Int32) : Op2 i_X_strokes i_M_strokes [.int cc, .int g, .int h] z := by
  have hC := hS.2
  have hT := hC.1
  have t6 := hT.2.1
  by_cases hc : 0 ≤ cc ∧ cc ≤ 3
  · obtain ⟨c, hc4, e⟩ := co_in hc
    subst e
    by_cases hh : 0 ≤ h ∧ h ≤ 17
    · obtain ⟨h0, hh0, e⟩ := ho_in hh
      subst e
      exact ans0 hS (rn_i (full := cd_81) t6.1 (ok_n rfl) rfl (fun K hK' => hK' 0 _ _ _ ⟨_, _, X_courseOf_ok 10 hT c hc4, ⟨fun c2 => absurd c2 (by show ¬ 22 + 3 * c = 0; omega), fun c2 => ⟨_, _, X_isHole 10 z _, ⟨fun c6 => absurd hh (b1_t c6), fun c6 => ⟨_, _, C_shareAt 9 z _ _ _ _ _ (CS_CO hC.2.1 c hc4) h0 hh0 g, rfl, rfl⟩⟩⟩⟩⟩)) (fun zz hW hw => by
        have r := M_strokes_ok 9 zz (VZ zz) (AZ zz) hW.1 c h0 hc4 hh0 g
        rw [hw 3 (by decide)] at r
        exact r)
    · exact fnd0 hS 0 (rn_i (full := cd_81) t6.1 (ok_n rfl) rfl (fun K hK' => hK' 0 _ _ _ ⟨_, _, X_courseOf_ok 10 hT c hc4, ⟨fun c2 => absurd c2 (by show ¬ 22 + 3 * c = 0; omega), fun c2 => ⟨_, _, X_isHole 10 z _, ⟨fun c6 => ⟨_, _, X_rB 9 hT, rfl, rfl⟩, fun c6 => absurd (b1_f c6) hh⟩⟩⟩⟩)) (fun zz hW hw => M_strokes_bad 9 zz (VZ zz) (AZ zz) hW.1 _ g h (fun w => hh w.2))
  · exact fnd0 hS 0 (rn_i (full := cd_81) t6.1 (ok_n rfl) rfl (fun K hK' => hK' 0 _ _ _ ⟨_, _, X_courseOf_no 10 hT cc hc, ⟨fun c2 => ⟨_, _, X_rB 9 hT, rfl, rfl⟩, fun c2 => absurd rfl c2⟩⟩)) (fun zz hW hw => M_strokes_bad 9 zz (VZ zz) (AZ zz) hW.1 cc g h (fun w => hc w.1))
end Ops2
