/-! Calls of both: mark half joined number raw last given strokes. Own work. -/
theorem sim_w {z z1 : ZS} (hK : Kp z z1) : AgW (TA z) (AZ z1) := by rw [← Kp_TA hK]; exact ta_w z1
theorem sim_mw {z z1 : ZS} {n R : Nat} (hS : Sim z n R) (hK : Kp z z1) : MW z1 (VZ z1) (AZ z1) n R := by
  obtain ⟨hM, c1, c2, c3, c4, c5, c6, c7, c8, c9, c10⟩ := hS
  have hw := sim_w hK
  refine ⟨Kp_MT hK hM, by rw [Kp_VZ hK]; exact c6.2.1, c6.1, by rw [Kp_VZ hK]; exact c3.1, c3.2.1.2.2.2.2.2.2.2.2.1, fun k hk => WK_w hw ?_, fun c hc => by rw [hw 1 (by decide)]; exact (Cls_sl c8 c hc).2⟩
  obtain ⟨b1, b2, b3, b4, b5, b6, b7, b8, b9, b10, b11, b12⟩ := c7.1 k hk
  exact b12.imp (fun w => w.1) (fun w => ⟨w.1, w.2.1, cN (TA z) k, w.2.2.1, w.2.2.2.1⟩)
/-- a finding, with nothing settled -/
theorem fnd0 {mx mm : Nat} {av : List Value} {z : ZS} {n R : Nat} (hS : Sim z n R) (i : Nat) {r : Int32} (rx : Rn 12 mx (.ref 6 :: av) z (some (.int r)) (rfz z i)) (rm : ∀ z1, MW z1 (VZ z1) (AZ z1) n R → AgW (TA z) (AZ z1) → Rn 12 mm (.ref 46 :: av) (mz z1 (VZ z1) (AZ z1)) (some (.int r)) (mz z1 (VZ z1) (cnt (AZ z1) (i + 1)))) : Op2 mx mm av z := by
  obtain ⟨h1, h2⟩ := Cls_ref hS.2 i
  exact op_f' (j := i + 1) hS.1 h2 h1 rx (rm _ (sim_mw hS h2) (sim_w h2))
/-- a finding behind settling -/
theorem fnd_s {mx mm : Nat} {av : List Value} {z z1 : ZS} {n R : Nat} (hS : Sim z n R) (hK : Kp z z1) (hC : Cls z1 (TA z) (FZ z) (VZ z) n R) (i : Nat) {r : Int32} (rx : Rn 12 mx (.ref 6 :: av) z (some (.int r)) (rfz z1 i)) (rm : ∀ z1, MW z1 (VZ z1) (AZ z1) n R → AgW (TA z) (AZ z1) → ∃ (V' : Nat → Int32) (A' : Nat → Nat → Int32), Rn 12 mm (.ref 46 :: av) (mz z1 (VZ z1) (AZ z1)) (some (.int r)) (mz z1 V' A') ∧ Ag (VZ z1) V' ∧ AgB (cnt (AZ z1) (i + 1)) A') : Op2 mx mm av z := by
  obtain ⟨h1, h2⟩ := Cls_ref hC i
  have h3 := Kp_t hK h2
  exact op_f (j := i + 1) hS.1 h3 h1 rx (rm _ (sim_mw hS h3) (sim_w h3))
theorem ans {mx mm : Nat} {av : List Value} {z z1 : ZS} {n R : Nat} (hS : Sim z n R) (hK : Kp z z1) (hC : Cls z1 (TA z) (FZ z) (VZ z) n R) {r : Int32} (rx : Rn 12 mx (.ref 6 :: av) z (some (.int r)) z1) (rm : ∀ z1, MW z1 (VZ z1) (AZ z1) n R → AgW (TA z) (AZ z1) → ∃ (V' : Nat → Int32) (A' : Nat → Nat → Int32), Rn 12 mm (.ref 46 :: av) (mz z1 (VZ z1) (AZ z1)) (some (.int r)) (mz z1 V' A') ∧ Ag (VZ z1) V' ∧ AgB (AZ z1) A') : Op2 mx mm av z := op_q hS.1 hK hC rx (rm _ (sim_mw hS hK) (sim_w hK))
theorem ans0 {mx mm : Nat} {av : List Value} {z : ZS} {n R : Nat} (hS : Sim z n R) {r : Int32} (rx : Rn 12 mx (.ref 6 :: av) z (some (.int r)) z) (rm : ∀ z1, MW z1 (VZ z1) (AZ z1) n R → AgW (TA z) (AZ z1) → Rn 12 mm (.ref 46 :: av) (mz z1 (VZ z1) (AZ z1)) (some (.int r)) (mz z1 (VZ z1) (AZ z1))) : Op2 mx mm av z := op_q' hS.1 (Kp_r z) hS.2 rx (rm _ (sim_mw hS (Kp_r z)) (sim_w (Kp_r z)))
/-- a card's owner settled: what the class then has of it -/
theorem own_s (d : Nat) {z : ZS} {n R : Nat} (hS : Sim z n R) (k p : Nat) (hk : k < n) (hp : p < 12) (e9 : TA z 9 k = nI p) (e2 : zP z (zP z 9 k) 2 = 34 + p) : ∃ z1, Rn (d + 6) i_P_settle [.ref (zP z (zP z 9 k) 2), .ref 10, .ref 14] z none z1 ∧ Cls z1 (TA z) (FZ z) (VZ z) n R ∧ Kp z z1 ∧ zP z1 9 = zP z 9 ∧ I1 z1 (zP z 9) (TA z) (pb (TA z) R (tpF (TA z) n p)) (gfP (pb (TA z) R (tpF (TA z) n p)) (TA z) (tpF (TA z) n p)) k ∧ zI z1 (34 + p) 2 = 0 ∧ (∀ p', p' < 12 → zI z (34 + p') 2 = 0 → zI z1 (34 + p') 2 = 0) := by
  obtain ⟨z1, rs, hC1, st, hK, ec, ks⟩ := Cls_settle d hS.2 p hp
  rw [← e2] at rs
  have hI := ((hC1.2.2.2.2.2.2.2.2.2 p hp).2.2 st).1 k (List.mem_reverse.mpr ((lpF_mem _ n p k).mpr ⟨hk, e9⟩))
  rw [ec] at hI
  exact ⟨z1, rs, hC1, hK, ec, hI, st, ks⟩
section Ops1
variable {z : ZS} {n R : Nat}
theorem op_mark (hS : Sim z n R) (k : Int32) : Op2 i_X_mark i_M_mark [.int k] z := by
  have hC := hS.2
  have hT := hC.1
  have t6 := hT.2.1
  obtain ⟨h60, hV, h6⟩ := hC.2.2.2.2.2.1
  by_cases hk : 0 ≤ k ∧ k ≤ nI n - 1
  · obtain ⟨k0, hk0, e⟩ := card_in h60 hk
    subst e
    obtain ⟨b1, b2, b3, b4, b5, b6, b7, b8, b9, b10, ⟨p, hp, e9, e2⟩, b12⟩ := hC.2.2.2.2.2.2.1.1 k0 hk0
    by_cases hv : TA z 14 k0 = 0
    · obtain ⟨z1, rs, hC1, hK, ec, ⟨i1, i2, i3, i4⟩, _⟩ := own_s 5 hS k0 p hk0 hp e9 e2
      have t1 : tg z1 (zP z 9 k0) = 11 := by rw [show tg z1 = tg z from hK.2.2.1]; exact b3
      have eb := (c_bk R hC.2.2.2.2.2.2.2.2.1 p k0 e9).1
      have nos := (Cls_SC hC p hp).2.2.2.2.2.2.2.2.2.2.2.2.2.2.1 (tpF (TA z) n p) (fun k hk => ((lpF_mem _ n p k).mp (List.mem_reverse.mp hk)).1) (by have := lpF_len (TA z) n p; unfold tpF; rw [List.length_reverse]; omega)
      cases hm : (pb (TA z) R (tpF (TA z) n p)).1 k0 with
      | none =>
        rw [hm] at i1 eb
        have ro : Rn 11 i_X_orNone [.ref 6, .int (zI z1 (zP z 9 k0) 12)] z1 (some (.int (-100002))) (rfz z1 1) := by rw [i1]; exact X_orNone_n 8 hC1.1
        exact fnd_s hS hK hC1 1 (rn_i (full := cd_73) t6.1 (ok_n rfl) rfl (fun K hK' => hK' 0 _ _ _ ⟨_, _, X_cardOf_ok 10 hT n k0 h6 h60 hk0, ⟨fun c2 => absurd c2 (by show ¬ zP z 9 k0 = 0; omega), fun c2 => ⟨b3, ⟨fun c6 => ⟨b3, ⟨⟨t6.1, t6.2.2.2.2.1⟩, ⟨⟨t6.1, t6.2.2.2.2.2.1⟩, ⟨_, _, rs, ⟨t1, ⟨_, _, ro, rfl, rfl⟩⟩⟩⟩⟩⟩, fun c6 => absurd (b10.trans hv) c6⟩⟩⟩⟩)) (fun zz hW hw => M_mark_none 1 zz (VZ zz) (AZ zz) n R hW k0 hk0 (by rw [hw 14 (by decide)]; exact hv) (by rw [fB_w hw]; exact eb))
      | some v =>
        rw [hm] at i1 eb
        have ro : Rn 11 i_X_orNone [.ref 6, .int (zI z1 (zP z 9 k0) 12)] z1 (some (.int v)) z1 := by rw [i1]; exact X_orNone_v 8 hC1.1 v (nos.1 k0 v hm)
        exact ans hS hK hC1 (rn_i (full := cd_73) t6.1 (ok_n rfl) rfl (fun K hK' => hK' 0 _ _ _ ⟨_, _, X_cardOf_ok 10 hT n k0 h6 h60 hk0, ⟨fun c2 => absurd c2 (by show ¬ zP z 9 k0 = 0; omega), fun c2 => ⟨b3, ⟨fun c6 => ⟨b3, ⟨⟨t6.1, t6.2.2.2.2.1⟩, ⟨⟨t6.1, t6.2.2.2.2.2.1⟩, ⟨_, _, rs, ⟨t1, ⟨_, _, ro, rfl, rfl⟩⟩⟩⟩⟩⟩, fun c6 => absurd (b10.trans hv) c6⟩⟩⟩⟩)) (fun zz hW hw => M_mark_ok 1 zz (VZ zz) (AZ zz) n R hW k0 hk0 (by rw [hw 14 (by decide)]; exact hv) v (by rw [fB_w hw]; exact eb))
    · exact fnd0 hS 5 (rn_i (full := cd_73) t6.1 (ok_n rfl) rfl (fun K hK' => hK' 0 _ _ _ ⟨_, _, X_cardOf_ok 10 hT n k0 h6 h60 hk0, ⟨fun c2 => absurd c2 (by show ¬ zP z 9 k0 = 0; omega), fun c2 => ⟨b3, ⟨fun c6 => absurd (b10.symm.trans c6) hv, fun c6 => ⟨_, _, X_rV 9 hT, rfl, rfl⟩⟩⟩⟩⟩)) (fun zz hW hw => M_mark_void 1 zz (VZ zz) (AZ zz) n R hW k0 hk0 (by rw [hw 14 (by decide)]; exact hv))
  · exact fnd0 hS 0 (rn_i (full := cd_73) t6.1 (ok_n rfl) rfl (fun K hK' => hK' 0 _ _ _ ⟨_, _, X_cardOf_no 10 hT n h6 h60 k hk, ⟨fun c2 => ⟨_, _, X_rB 9 hT, rfl, rfl⟩, fun c2 => absurd rfl c2⟩⟩)) (fun zz hW hw => M_mark_bad 1 zz (VZ zz) (AZ zz) hW.1 k (by rw [hW.2.1]; exact hk))
theorem D_findingAsShort (d : Nat) (z : ZS) (x : Nat) (hx : tg z x = 11) : Rn (d + 1) i_D_findingAsShort [.ref x] z (some (.int (if zI z x 1 = 1 then (if zI z x 10 = 0 then 0 else -100006) else -100003))) z := by
  refine rn_i (full := cd_14) hx (ok_n rfl) rfl (fun K hK => hK 0 _ _ _ ⟨hx, ⟨fun c2 => ⟨hx, ⟨fun c4 => ⟨?_, rfl⟩, fun c4 => ⟨?_, rfl⟩⟩⟩, fun c2 => ⟨?_, rfl⟩⟩⟩)
  · have c2 : zI z x 1 = 1 := c2
    have c4 : zI z x 10 = 0 := c4
    rw [if_pos c2, if_pos c4]
  · have c2 : zI z x 1 = 1 := c2
    have c4 : ¬ zI z x 10 = 0 := c4
    rw [if_pos c2, if_neg c4]
  · have c2 : ¬ zI z x 1 = 1 := c2
    rw [if_neg c2]
theorem op_half (hS : Sim z n R) (k : Int32) : Op2 i_X_half i_M_half [.int k] z := by
  have hC := hS.2
  have hT := hC.1
  have t6 := hT.2.1
  obtain ⟨h60, hV, h6⟩ := hC.2.2.2.2.2.1
  by_cases hk : 0 ≤ k ∧ k ≤ nI n - 1
  · obtain ⟨k0, hk0, e⟩ := card_in h60 hk
    subst e
    obtain ⟨b1, b2, b3, b4, b5, b6, b7, b8, b9, b10, ⟨p, hp, e9, e2⟩, b12⟩ := hC.2.2.2.2.2.2.1.1 k0 hk0
    have fs := D_findingAsShort 10 z (zP z 9 k0) b3
    rw [b5, b10] at fs
    by_cases h1 : TA z 8 k0 = 1
    · rw [if_pos h1] at fs
      by_cases hv : TA z 14 k0 = 0
      · rw [if_pos hv] at fs
        obtain ⟨z1, rs, hC1, hK, ec, ⟨i1, i2, i3, i4⟩, _⟩ := own_s 5 hS k0 p hk0 hp e9 e2
        have t1 : tg z1 (zP z 9 k0) = 11 := by rw [show tg z1 = tg z from hK.2.2.1]; exact b3
        have eb := (c_bk R hC.2.2.2.2.2.2.2.2.1 p k0 e9).2.1
        have nos := (Cls_SC hC p hp).2.2.2.2.2.2.2.2.2.2.2.2.2.2.1 (tpF (TA z) n p) (fun k hk => ((lpF_mem _ n p k).mp (List.mem_reverse.mp hk)).1) (by have := lpF_len (TA z) n p; unfold tpF; rw [List.length_reverse]; omega)
        cases hm : (pb (TA z) R (tpF (TA z) n p)).2.1 k0 with
        | none =>
          rw [hm] at i2 eb
          have ro : Rn 11 i_X_orNone [.ref 6, .int (zI z1 (zP z 9 k0) 13)] z1 (some (.int (-100002))) (rfz z1 1) := by rw [i2]; exact X_orNone_n 8 hC1.1
          exact fnd_s hS hK hC1 1 (rn_i (full := cd_74) t6.1 (ok_n rfl) rfl (fun K hK' => hK' 0 _ _ _ ⟨_, _, X_cardOf_ok 10 hT n k0 h6 h60 hk0, ⟨fun c2 => absurd c2 (by show ¬ zP z 9 k0 = 0; omega), fun c2 => ⟨_, _, fs, ⟨fun c6 => ⟨b3, ⟨⟨t6.1, t6.2.2.2.2.1⟩, ⟨⟨t6.1, t6.2.2.2.2.2.1⟩, ⟨_, _, rs, ⟨t1, ⟨_, _, ro, rfl, rfl⟩⟩⟩⟩⟩⟩, fun c6 => absurd rfl c6⟩⟩⟩⟩)) (fun zz hW hw => M_half_none 1 zz (VZ zz) (AZ zz) n R hW k0 hk0 (by rw [hw 8 (by decide)]; exact h1) (by rw [hw 14 (by decide)]; exact hv) (by rw [fB_w hw]; exact eb))
        | some v =>
          rw [hm] at i2 eb
          have ro : Rn 11 i_X_orNone [.ref 6, .int (zI z1 (zP z 9 k0) 13)] z1 (some (.int v)) z1 := by rw [i2]; exact X_orNone_v 8 hC1.1 v (nos.2.1 k0 v hm)
          exact ans hS hK hC1 (rn_i (full := cd_74) t6.1 (ok_n rfl) rfl (fun K hK' => hK' 0 _ _ _ ⟨_, _, X_cardOf_ok 10 hT n k0 h6 h60 hk0, ⟨fun c2 => absurd c2 (by show ¬ zP z 9 k0 = 0; omega), fun c2 => ⟨_, _, fs, ⟨fun c6 => ⟨b3, ⟨⟨t6.1, t6.2.2.2.2.1⟩, ⟨⟨t6.1, t6.2.2.2.2.2.1⟩, ⟨_, _, rs, ⟨t1, ⟨_, _, ro, rfl, rfl⟩⟩⟩⟩⟩⟩, fun c6 => absurd rfl c6⟩⟩⟩⟩)) (fun zz hW hw => M_half_ok 1 zz (VZ zz) (AZ zz) n R hW k0 hk0 (by rw [hw 8 (by decide)]; exact h1) (by rw [hw 14 (by decide)]; exact hv) v (by rw [fB_w hw]; exact eb))
      · rw [if_neg hv] at fs
        exact fnd0 hS 5 (rn_i (full := cd_74) t6.1 (ok_n rfl) rfl (fun K hK' => hK' 0 _ _ _ ⟨_, _, X_cardOf_ok 10 hT n k0 h6 h60 hk0, ⟨fun c2 => absurd c2 (by show ¬ zP z 9 k0 = 0; omega), fun c2 => ⟨_, _, fs, ⟨fun c6 => absurd c6 nzV, fun c6 => ⟨_, _, X_rV 9 hT, rfl, rfl⟩⟩⟩⟩⟩)) (fun zz hW hw => M_half_void 1 zz (VZ zz) (AZ zz) n R hW k0 hk0 (by rw [hw 8 (by decide)]; exact h1) (by rw [hw 14 (by decide)]; exact hv))
    · rw [if_neg h1] at fs
      exact fnd0 hS 2 (rn_i (full := cd_74) t6.1 (ok_n rfl) rfl (fun K hK' => hK' 0 _ _ _ ⟨_, _, X_cardOf_ok 10 hT n k0 h6 h60 hk0, ⟨fun c2 => absurd c2 (by show ¬ zP z 9 k0 = 0; omega), fun c2 => ⟨_, _, fs, ⟨fun c6 => absurd c6 nzK, fun c6 => ⟨_, _, X_rK 9 hT, rfl, rfl⟩⟩⟩⟩⟩)) (fun zz hW hw => M_half_kind 1 zz (VZ zz) (AZ zz) n R hW k0 hk0 (by rw [hw 8 (by decide)]; exact h1))
  · exact fnd0 hS 0 (rn_i (full := cd_74) t6.1 (ok_n rfl) rfl (fun K hK' => hK' 0 _ _ _ ⟨_, _, X_cardOf_no 10 hT n h6 h60 k hk, ⟨fun c2 => ⟨_, _, X_rB 9 hT, rfl, rfl⟩, fun c2 => absurd rfl c2⟩⟩)) (fun zz hW hw => M_half_bad 1 zz (VZ zz) (AZ zz) hW.1 k (by rw [hW.2.1]; exact hk))
theorem op_joined (hS : Sim z n R) (k : Int32) : Op2 i_X_joined i_M_joined [.int k] z := by
  have hC := hS.2
  have hT := hC.1
  have t6 := hT.2.1
  obtain ⟨h60, hV, h6⟩ := hC.2.2.2.2.2.1
  by_cases hk : 0 ≤ k ∧ k ≤ nI n - 1
  · obtain ⟨k0, hk0, e⟩ := card_in h60 hk
    subst e
    obtain ⟨b1, b2, b3, b4, b5, b6, b7, b8, b9, b10, ⟨p, hp, e9, e2⟩, b12⟩ := hC.2.2.2.2.2.2.1.1 k0 hk0
    have fs := D_findingAsShort 10 z (zP z 9 k0) b3
    rw [b5, b10] at fs
    by_cases h1 : TA z 8 k0 = 1
    · rw [if_pos h1] at fs
      by_cases hv : TA z 14 k0 = 0
      · rw [if_pos hv] at fs
        obtain ⟨z1, rs, hC1, hK, ec, ⟨i1, i2, i3, i4⟩, _⟩ := own_s 5 hS k0 p hk0 hp e9 e2
        have t1 : tg z1 (zP z 9 k0) = 11 := by rw [show tg z1 = tg z from hK.2.2.1]; exact b3
        have eb := (c_bk R hC.2.2.2.2.2.2.2.2.1 p k0 e9).2.2
        cases hm : (pb (TA z) R (tpF (TA z) n p)).2.2 k0 with
        | none =>
          rw [hm] at i3 eb
          exact fnd_s hS hK hC1 1 (rn_i (full := cd_75) t6.1 (ok_n rfl) rfl (fun K hK' => hK' 0 _ _ _ ⟨_, _, X_cardOf_ok 10 hT n k0 h6 h60 hk0, ⟨fun c2 => absurd c2 (by show ¬ zP z 9 k0 = 0; omega), fun c2 => ⟨_, _, fs, ⟨fun c6 => ⟨b3, ⟨⟨t6.1, t6.2.2.2.2.1⟩, ⟨⟨t6.1, t6.2.2.2.2.2.1⟩, ⟨_, _, rs, ⟨t1, ⟨fun c12 => ⟨_, _, X_rN 9 hC1.1, rfl, rfl⟩, fun c12 => absurd i3 c12⟩⟩⟩⟩⟩⟩, fun c6 => absurd rfl c6⟩⟩⟩⟩)) (fun zz hW hw => M_joined_none 1 zz (VZ zz) (AZ zz) n R hW k0 hk0 (by rw [hw 8 (by decide)]; exact h1) (by rw [hw 14 (by decide)]; exact hv) (by rw [fB_w hw]; exact eb))
        | some j =>
          rw [hm] at i3 eb
          have jn : j < n := ((lpF_mem _ n p j).mp (List.mem_reverse.mp (pb_jn _ R _ k0 j hm))).1
          obtain ⟨j1, j2, j3, j4, _⟩ := hC1.2.2.2.2.2.2.1.1 j jn
          rw [ec] at j1 j3 j4
          have i3 : zP z1 (zP z 9 k0) 14 = zP z 9 j := i3
          have t2 : tg z1 (zP z1 (zP z 9 k0) 14) = 11 := by rw [i3]; exact j3
          refine ans hS hK hC1 (r := nI j) (rn_i (full := cd_75) t6.1 (ok_n rfl) rfl (fun K hK' => hK' 0 _ _ _ ⟨_, _, X_cardOf_ok 10 hT n k0 h6 h60 hk0, ⟨fun c2 => absurd c2 (by show ¬ zP z 9 k0 = 0; omega), fun c2 => ⟨_, _, fs, ⟨fun c6 => ⟨b3, ⟨⟨t6.1, t6.2.2.2.2.1⟩, ⟨⟨t6.1, t6.2.2.2.2.2.1⟩, ⟨_, _, rs, ⟨t1, ⟨fun c12 => absurd (i3.symm.trans c12) (by omega), fun c12 => ⟨t1, ⟨t2, ⟨?_, rfl⟩⟩⟩⟩⟩⟩⟩⟩⟩, fun c6 => absurd rfl c6⟩⟩⟩⟩)) (fun zz hW hw => M_joined_ok 1 zz (VZ zz) (AZ zz) n R hW k0 hk0 (by rw [hw 8 (by decide)]; exact h1) (by rw [hw 14 (by decide)]; exact hv) j (by rw [fB_w hw]; exact eb))
          show some (Value.int (zI z1 (zP z1 (zP z 9 k0) 14) 0)) = _
          rw [i3, j4]
      · rw [if_neg hv] at fs
        exact fnd0 hS 5 (rn_i (full := cd_75) t6.1 (ok_n rfl) rfl (fun K hK' => hK' 0 _ _ _ ⟨_, _, X_cardOf_ok 10 hT n k0 h6 h60 hk0, ⟨fun c2 => absurd c2 (by show ¬ zP z 9 k0 = 0; omega), fun c2 => ⟨_, _, fs, ⟨fun c6 => absurd c6 nzV, fun c6 => ⟨_, _, X_rV 9 hT, rfl, rfl⟩⟩⟩⟩⟩)) (fun zz hW hw => M_joined_void 1 zz (VZ zz) (AZ zz) n R hW k0 hk0 (by rw [hw 8 (by decide)]; exact h1) (by rw [hw 14 (by decide)]; exact hv))
    · rw [if_neg h1] at fs
      exact fnd0 hS 2 (rn_i (full := cd_75) t6.1 (ok_n rfl) rfl (fun K hK' => hK' 0 _ _ _ ⟨_, _, X_cardOf_ok 10 hT n k0 h6 h60 hk0, ⟨fun c2 => absurd c2 (by show ¬ zP z 9 k0 = 0; omega), fun c2 => ⟨_, _, fs, ⟨fun c6 => absurd c6 nzK, fun c6 => ⟨_, _, X_rK 9 hT, rfl, rfl⟩⟩⟩⟩⟩)) (fun zz hW hw => M_joined_kind 1 zz (VZ zz) (AZ zz) n R hW k0 hk0 (by rw [hw 8 (by decide)]; exact h1))
  · exact fnd0 hS 0 (rn_i (full := cd_75) t6.1 (ok_n rfl) rfl (fun K hK' => hK' 0 _ _ _ ⟨_, _, X_cardOf_no 10 hT n h6 h60 k hk, ⟨fun c2 => ⟨_, _, X_rB 9 hT, rfl, rfl⟩, fun c2 => absurd rfl c2⟩⟩)) (fun zz hW hw => M_joined_bad 1 zz (VZ zz) (AZ zz) hW.1 k (by rw [hW.2.1]; exact hk))
end Ops1
