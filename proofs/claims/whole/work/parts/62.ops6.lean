/-! Calls of both: match place. Own work. -/
section Ops6
variable {z : ZS} {n R : Nat}
theorem op_match (hS : Sim z n R) (ka kb : Int32) : Op2 i_X_match i_M_match [.int ka, .int kb] z := by
  have hC := hS.2
  have hT := hC.1
  have t6 := hT.2.1
  obtain ⟨h60, hV, h6⟩ := hC.2.2.2.2.2.1
  by_cases hka : 0 ≤ ka ∧ ka ≤ nI n - 1
  · obtain ⟨a, ha, e⟩ := card_in h60 hka
    subst e
    by_cases hkb : 0 ≤ kb ∧ kb ≤ nI n - 1
    · obtain ⟨b, hb, e⟩ := card_in h60 hkb
      subst e
      obtain ⟨b1, b2, b3, b4, b5, b6, b7, b8, b9, b10, ⟨p, hp, e9, e2⟩, b12⟩ := hC.2.2.2.2.2.2.1.1 a ha
      obtain ⟨d1, d2, d3, d4, d5, d6, d7, d8, d9, d10, ⟨p', hp', f9, f2⟩, d12⟩ := hC.2.2.2.2.2.2.1.1 b hb
      have ra := X_cardOf_ok 10 hT n a h6 h60 ha
      have rb := X_cardOf_ok 10 hT n b h6 h60 hb
      have xa : ¬ zP z 9 a = 0 := by omega
      have xb : ¬ zP z 9 b = 0 := by omega
      by_cases hall : TA z 8 a = 0 ∧ TA z 8 b = 0 ∧ TA z 11 a = TA z 11 b
      · obtain ⟨h8a, h8b, h11⟩ := hall
        have naa : ¬ TA z 8 a = 2 := by rw [h8a]; decide
        have nab : ¬ TA z 8 b = 2 := by rw [h8b]; decide
        obtain ⟨_, wCK, w3, w4, w5, _⟩ := b12.resolve_left (fun w => naa w.1)
        obtain ⟨_, vCK, v3, v4, v5, _⟩ := d12.resolve_left (fun w => nab w.1)
        have ec : cN (TA z) a = cN (TA z) b := by unfold cN; rw [h11]
        obtain ⟨z1, rs1, hC1, hK1, ec1, _, st1, _⟩ := own_s 5 hS a p ha hp e9 e2
        obtain ⟨z2, rs2, hC2, st2, hK2, ec2, ks2⟩ := Cls_settle 5 hC1 p' hp'
        have ecz : zP z2 9 = zP z 9 := ec2.trans ec1
        have f2' : zP z1 (zP z 9 b) 2 = 34 + p' := by
          obtain ⟨_, _, _, _, _, _, _, _, _, _, ⟨q, hq, g9, g2⟩, _⟩ := hC1.2.2.2.2.2.2.1.1 b hb
          rw [ec1] at g2
          rw [f9] at g9
          rw [g2, (nI_eq (by omega) (by omega)).mp g9]
        have rs2 : Rn 11 i_P_settle [.ref (zP z1 (zP z 9 b) 2), .ref 10, .ref 14] z1 none z2 := by rw [f2']; exact rs2
        obtain ⟨Da, ca5, gba⟩ := form_s (z := z) hC2 ecz a p ha hp e9 naa (ks2 p hp st1)
        obtain ⟨Db, cb5, gbb⟩ := form_s (z := z) hC2 ecz b p' hb hp' f9 nab st2
        have t61 := hC1.1.2.1
        have tb1 : tg z1 (zP z 9 b) = 11 := by rw [show tg z1 = tg z from hK1.2.2.1]; exact d3
        have fa0 : fsN (TA z) a = 0 ∧ lsN (TA z) a - fsN (TA z) a = 18 := by
          have l18 := wCK.2.2
          unfold lsN at l18 ⊢
          rw [if_neg (by rw [h8a]; decide)] at l18 ⊢
          omega
        have fb0 : fsN (TA z) b = 0 ∧ lsN (TA z) b - fsN (TA z) b = 18 := by
          have l18 := vCK.2.2
          unfold lsN at l18 ⊢
          rw [if_neg (by rw [h8b]; decide)] at l18 ⊢
          omega
        rw [fa0.2, fa0.1] at Da
        rw [fb0.2, fb0.1, ← ec] at Db
        rw [← ec] at gbb
        have hVD := hC.2.2.2.2.2.2.2.1
        have wn : ∀ h, h < 18 → Rn 11 i_X_wonBy [.ref (zP z 9 a), .ref (zP z 9 b), .int (nI h)] z2 (some (.int (wnB (fB (TA z) n R) (TA z) (oF (TA z 10) n) n a b (cN (TA z) a) h))) z2 := fun h hh => by
          have r := X_wonBy 8 z2 _ _ _ _ _ _ _ _ Da Db h hh (fun j hj => hVD.2.1 a ha _ (by omega)) (fun j hj => hVD.2.1 b hb _ (by omega)) (fun j hj => gvF_bd _ _ gba) (fun j hj => gvF_bd _ _ gbb)
          rw [Nat.zero_add] at r
          exact r
        refine ans hS (Kp_t hK1 hK2) hC2 (r := maF (wnB (fB (TA z) n R) (TA z) (oF (TA z 10) n) n a b (cN (TA z) a)) 18 0 0) (rn_i (full := cd_84) t6.1 (ok_n rfl) rfl (fun K hK' => hK' 0 _ _ _ ⟨_, _, ra, ⟨_, _, rb, ⟨fun c3 => absurd c3 xa, fun c3 => ⟨fun c6 => absurd c6 xb, fun c6 => ⟨b3, ⟨fun c10 => ⟨d3, ⟨fun c12 => ⟨b3, ⟨d3, ⟨fun c15 => ⟨b3, ⟨⟨t6.1, t6.2.2.2.2.1⟩, ⟨⟨t6.1, t6.2.2.2.2.2.1⟩, ⟨_, _, rs1, ⟨tb1, ⟨⟨t61.1, t61.2.2.2.2.1⟩, ⟨⟨t61.1, t61.2.2.2.2.2.1⟩, ⟨_, _, rs2, ?_⟩⟩⟩⟩⟩⟩⟩⟩, fun c15 => absurd (by show zP z (zP z 9 a) 5 = zP z (zP z 9 b) 5; rw [w5, v5, ec]) c15⟩⟩⟩, fun c12 => absurd (d5.trans h8b) c12⟩⟩, fun c10 => absurd (b5.trans h8a) c10⟩⟩⟩⟩⟩⟩)) (fun zz hW hw => ?_)
        · generalize wnB (fB (TA z) n R) (TA z) (oF (TA z 10) n) n a b (cN (TA z) a) = w at wn hK'
          generalize hXX : maF w 18 0 0 = X at hK'
          show K 100 [.ref 6, .int (nI a), .int (nI b), .ref (zP z 9 a), .ref (zP z 9 b), .int 0, .int (nI 0), .null] [] z2
          refine loop_up (P := fun h => ∀ (up : Int32) (v : Value), maF w (18 - h) up h = X → K 100 [.ref 6, .int (nI a), .int (nI b), .ref (zP z 9 a), .ref (zP z 9 b), .int up, .int (nI h), v] [] z2) 18 (fun h hh ih up v hm => ?_) 0 (by omega) 0 .null hXX
          by_cases h18 : h < 18
          · have ih := ih h18
            rw [show 18 - h = (18 - (h + 1)) + 1 by omega] at hm
            unfold maF at hm
            have nl : ¬ (18 : Int32) ≤ nI h := nI_ge (b := 18) h18 (by decide)
            have l0 : 0 ≤ (17 - nI h : Int32).toInt := by
              rw [show (17 : Int32) = nI 17 from rfl, pk_sub (by omega), nI_toInt (by omega)]; omega
            have ab := i32_abs (up + w h) (17 - nI h) l0
            refine hK' 49 _ _ _ ⟨fun c1 => absurd c1 nl, fun c1 => ⟨_, _, wn h h18, ⟨_, _, J_abs 10 _ _, ⟨fun c5 => ?_, fun c5 => ?_⟩⟩⟩⟩
            · have c5 := ab.mp c5
              rw [if_neg c5] at hm
              have g := ih (up + w h) (.int (17 - nI h)) hm
              rw [nI_succ] at g
              exact g
            · have c5 : (17 - nI h < up + w h ∨ ¬ -(up + w h) ≤ 17 - nI h) := Classical.byContradiction (fun q => c5 (ab.mpr q))
              rw [if_pos c5] at hm
              subst hm; exact ⟨rfl, rfl⟩
          · have : h = 18 := by omega
            subst this
            refine hK' 49 _ _ _ ⟨fun c1 => ⟨?_, rfl⟩, fun c1 => absurd (Int32.le_refl _) c1⟩
            subst hm; rfl
        · have r := M_match_ok 1 zz (VZ zz) (AZ zz) n R hW a b (cN (TA z) a) ha hb (by rw [hw 8 (by decide)]; exact h8a) (by rw [hw 8 (by decide)]; exact h8b) w3 (by rw [hw 11 (by decide)]; exact w4) (by rw [hw 11 (by decide), ec]; exact v4)
          have e : wnB (fB (AZ zz) n R) (AZ zz) (oF (AZ zz 10) n) n a b (cN (TA z) a) = wnB (fB (TA z) n R) (TA z) (oF (TA z 10) n) n a b (cN (TA z) a) := by
            funext h
            unfold wnB
            rw [fB_w hw, gfB_w hw, gfB_w hw, hw 10 (by decide), hw 15 (by decide), hw 3 (by decide)]
          rw [e] at r
          exact r
      · refine fnd0 hS 2 (rn_i (full := cd_84) t6.1 (ok_n rfl) rfl (fun K hK' => hK' 0 _ _ _ ⟨_, _, ra, ⟨_, _, rb, ⟨fun c3 => absurd c3 xa, fun c3 => ⟨fun c6 => absurd c6 xb, fun c6 => ⟨b3, ⟨fun c10 => ⟨d3, ⟨fun c12 => ⟨b3, ⟨d3, ⟨fun c15 => absurd ?_ hall, fun c15 => ⟨fun q => absurd ?_ q, fun _ => ⟨_, _, X_rK 9 hT, rfl, rfl⟩⟩⟩⟩⟩, fun c12 => ⟨_, _, X_rK 9 hT, rfl, rfl⟩⟩⟩, fun c10 => ⟨_, _, X_rK 9 hT, rfl, rfl⟩⟩⟩⟩⟩⟩⟩)) (fun zz hW hw => M_match_kind 1 zz (VZ zz) (AZ zz) n R hW a b ha hb (by rw [hw 8 (by decide), hw 11 (by decide)]; exact hall))
        · have c10 : zI z (zP z 9 a) 1 = 0 := c10
          have c12 : zI z (zP z 9 b) 1 = 0 := c12
          have c15 : zP z (zP z 9 a) 5 = zP z (zP z 9 b) 5 := c15
          rw [b5] at c10
          rw [d5] at c12
          obtain ⟨_, wCK, w3, w4, w5, _⟩ := b12.resolve_left (fun w => by rw [c10] at w; exact absurd w.1 (by decide))
          obtain ⟨_, vCK, v3, v4, v5, _⟩ := d12.resolve_left (fun w => by rw [c12] at w; exact absurd w.1 (by decide))
          rw [w5, v5] at c15
          exact ⟨c10, c12, by rw [w4, v4, show cN (TA z) a = cN (TA z) b by omega]⟩
        · have k5 : ∀ k, k < n → zP z (zP z 9 k) 5 = 0 ∨ 6 ≤ zP z (zP z 9 k) 5 := fun k hk => by
            obtain ⟨_, _, _, _, _, _, _, _, _, _, _, q⟩ := hC.2.2.2.2.2.2.1.1 k hk
            rcases q with q | q
            · exact Or.inl q.2
            · exact Or.inr (by rw [q.2.2.2.2.1]; omega)
          exact ⟨k5 a ha, k5 b hb⟩
    · exact fnd0 hS 0 (rn_i (full := cd_84) t6.1 (ok_n rfl) rfl (fun K hK' => hK' 0 _ _ _ ⟨_, _, X_cardOf_ok 10 hT n a h6 h60 ha, ⟨_, _, X_cardOf_no 10 hT n h6 h60 kb hkb, ⟨fun c3 => ⟨_, _, X_rB 9 hT, rfl, rfl⟩, fun c3 => ⟨fun c6 => ⟨_, _, X_rB 9 hT, rfl, rfl⟩, fun c6 => absurd rfl c6⟩⟩⟩⟩)) (fun zz hW hw => M_match_bad 1 zz (VZ zz) (AZ zz) hW.1 _ kb (fun w => hkb (by rw [hW.2.1] at w; exact w.2)))
  · have rb : ∃ y, Rn 11 i_X_cardOf [.ref 6, .int kb] z (some (.ref y)) z := by
      by_cases hkb : 0 ≤ kb ∧ kb ≤ nI n - 1
      · obtain ⟨b, hb, e⟩ := card_in h60 hkb
        subst e
        exact ⟨_, X_cardOf_ok 10 hT n b h6 h60 hb⟩
      · exact ⟨_, X_cardOf_no 10 hT n h6 h60 kb hkb⟩
    obtain ⟨y, rb⟩ := rb
    exact fnd0 hS 0 (rn_i (full := cd_84) t6.1 (ok_n rfl) rfl (fun K hK' => hK' 0 _ _ _ ⟨_, _, X_cardOf_no 10 hT n h6 h60 ka hka, ⟨_, _, rb, ⟨fun c3 => ⟨_, _, X_rB 9 hT, rfl, rfl⟩, fun c3 => absurd rfl c3⟩⟩⟩)) (fun zz hW hw => M_match_bad 1 zz (VZ zz) (AZ zz) hW.1 ka kb (fun w => hka (by rw [hW.2.1] at w; exact w.1)))
theorem D_isRivalOf (d : Nat) (z : ZS) (x y : Nat) (hx : tg z x = 11) (hy : tg z y = 11) (h5x : zP z x 5 = 0 ∨ 6 ≤ zP z x 5) (h5y : zP z y 5 = 0 ∨ 6 ≤ zP z y 5) : Rn (d + 1) i_D_isRivalOf [.ref x, .ref y] z (some (.int (if zI z x 1 = zI z y 1 ∧ zP z x 5 = zP z y 5 ∧ zI z x 4 = zI z y 4 then 1 else 0))) z := by
  refine rn_i (full := cd_17) hx ok_b rfl (fun K hK => hK 0 _ _ _ ⟨hx, ⟨hy, ⟨fun c3 => ⟨hx, ⟨hy, ⟨fun c6 => ⟨hx, ⟨hy, ⟨fun c9 => ⟨?_, rfl⟩, fun c9 => ⟨?_, rfl⟩⟩⟩⟩, fun c6 => ⟨fun q => absurd ⟨h5x, h5y⟩ q, fun _ => ⟨?_, rfl⟩⟩⟩⟩⟩, fun c3 => ⟨?_, rfl⟩⟩⟩⟩)
  · rw [if_pos ⟨c3, c6, c9⟩]
  · rw [if_neg (fun w => c9 w.2.2)]
  · rw [if_neg (fun w => c6 w.2.1)]
  · rw [if_neg (fun w => c3 w.1)]
theorem ahS_self (p : Nat → Int32) : ∀ m k, ahS p p false m k = false
  | 0, _ => rfl
  | m + 1, k => by unfold ahS; rw [if_pos rfl]; exact ahS_self p m (k + 1)
theorem op_place (hS : Sim z n R) (kx : Int32) : Op2 i_X_place i_M_place [.int kx] z := by
  have hC := hS.2
  have hT := hC.1
  have t6 := hT.2.1
  obtain ⟨h60, hV, h6⟩ := hC.2.2.2.2.2.1
  by_cases hk : 0 ≤ kx ∧ kx ≤ nI n - 1
  · obtain ⟨x, hx, e⟩ := card_in h60 hk
    subst e
    obtain ⟨b1, b2, b3, b4, b5, b6, b7, b8, b9, b10, ⟨p, hp, e9, e2⟩, b12⟩ := hC.2.2.2.2.2.2.1.1 x hx
    have rc := X_cardOf_ok 10 hT n x h6 h60 hx
    have x0 : ¬ zP z 9 x = 0 := by omega
    by_cases h8 : TA z 8 x = 0
    · have nax : ¬ TA z 8 x = 2 := by rw [h8]; decide
      obtain ⟨_, wCK, w3, w4, w5, _⟩ := b12.resolve_left (fun w => nax w.1)
      have hVD := hC.2.2.2.2.2.2.2.1
      have k5 : ∀ k, k < n → zP z (zP z 9 k) 5 = 0 ∨ 6 ≤ zP z (zP z 9 k) 5 := fun k hk => by
        obtain ⟨_, _, _, _, _, _, _, _, _, _, _, q⟩ := hC.2.2.2.2.2.2.1.1 k hk
        rcases q with q | q
        · exact Or.inl q.2
        · exact Or.inr (by rw [q.2.2.2.2.1]; omega)
      obtain ⟨z1, rs1, hC1, hK1, ec1, _, st1, _⟩ := own_s 5 hS x p hx hp e9 e2
      have key : Rq 12 i_X_place [.ref 6, .int (nI x)] z (fun r z' => r = some (.int (plcF (fB (TA z) n R) (TA z) (oF (TA z 10) n) n x (cN (TA z) x) n)) ∧ Kp z z' ∧ Cls z' (TA z) (FZ z) (VZ z) n R) := by
        refine rq_i (full := cd_85) t6.1 (fun _ _ _ => ok_n rfl) rfl (fun K hK' => hK' 0 _ _ _ ⟨_, _, rc, ⟨fun c2 => absurd c2 x0, fun c2 => ⟨b3, ⟨fun c6 => ⟨b3, ⟨⟨t6.1, t6.2.2.2.2.1⟩, ⟨⟨t6.1, t6.2.2.2.2.2.1⟩, ⟨_, _, rs1, ?_⟩⟩⟩⟩, fun c6 => absurd (b5.trans h8) c6⟩⟩⟩⟩)
        refine loop_up (P := fun k => ∀ (zz : ZS) (v5 : Value), Kp z zz → Cls zz (TA z) (FZ z) (VZ z) n R → zP zz 9 = zP z 9 → zI zz (34 + p) 2 = 0 → K 51 [.ref 6, .int (nI x), .ref (zP z 9 x), .int (plcF (fB (TA z) n R) (TA z) (oF (TA z 10) n) n x (cN (TA z) x) k), .int (nI k), v5] [] zz) n (fun k hk ih zz v5 hKz hCz ecz stz => ?_) 0 (by omega) z1 .null hK1 hC1 ec1 st1
        have hTz := hCz.1
        have tz6 := hTz.2.1
        have hz6 : zI zz 6 3 = nI n := hCz.2.2.2.2.2.1.2.2
        by_cases hkn : k < n
        · have ih := ih hkn
          rw [nI_succ] at ih
          have ck : (nI k).toNatClampNeg = k := nI_clamp (by omega)
          have t9 := hTz.2.2.2.2.1
          obtain ⟨d1, d2, d3, d4, d5, d6, d7, d8, d9, d10, ⟨p', hp', f9, f2⟩, d12⟩ := hCz.2.2.2.2.2.2.1.1 k hkn
          rw [ecz] at d1 d2 d3 d4 d5 d6 d7 d8 d9 d10 f2 d12
          obtain ⟨a1, a2, a3, a4, a5, a6, a7, a8, a9, a10, _, a12⟩ := hCz.2.2.2.2.2.2.1.1 x hx
          rw [ecz] at a1 a2 a3 a4 a5 a6 a7 a8 a9 a10 a12
          have tp : ∀ y j, 75 ≤ y → j = 5 → True := fun _ _ _ _ => trivial
          obtain ⟨_, xCK, x3, x4, x5, _⟩ := a12.resolve_left (fun w => nax w.1)
          have k5' : zP zz (zP z 9 k) 5 = 0 ∨ 6 ≤ zP zz (zP z 9 k) 5 := by
            rcases d12 with q | q
            · exact Or.inl q.2
            · exact Or.inr (by rw [q.2.2.2.2.1]; omega)
          have rr := D_isRivalOf 10 zz (zP z 9 k) (zP z 9 x) d3 a3 k5' (Or.inr (by rw [x5]; omega))
          have vk : vp_in (nI k) (ln zz 9) := by rw [t9.2]; exact vp_in_nI (by omega) (by decide)
          have e9k : zP zz 9 (nI k).toNatClampNeg = zP z 9 k := by rw [ck, ecz]
          have tk : ¬ zP zz 9 (nI k).toNatClampNeg = 0 := by rw [e9k]; omega
          have rr : Rn 11 i_D_isRivalOf [.ref (zP zz 9 (nI k).toNatClampNeg), .ref (zP z 9 x)] zz (some (.int (if zI zz (zP z 9 k) 1 = zI zz (zP z 9 x) 1 ∧ zP zz (zP z 9 k) 5 = zP zz (zP z 9 x) 5 ∧ zI zz (zP z 9 k) 4 = zI zz (zP z 9 x) 4 then 1 else 0))) zz := by rw [e9k]; exact rr
          have riv : (zI zz (zP z 9 k) 1 = zI zz (zP z 9 x) 1 ∧ zP zz (zP z 9 k) 5 = zP zz (zP z 9 x) 5 ∧ zI zz (zP z 9 k) 4 = zI zz (zP z 9 x) 4) ↔ (TA z 8 k = 0 ∧ TA z 11 k = TA z 11 x ∧ TA z 10 k = TA z 10 x) := by
            rw [d5, a5, d7, a7, h8, x5]
            constructor
            · rintro ⟨q1, q2, q3⟩
              obtain ⟨_, _, y3, y4, y5, _⟩ := d12.resolve_left (fun w => by rw [q1] at w; exact absurd w.1 (by decide))
              rw [y5] at q2
              exact ⟨q1, by rw [y4, x4, show cN (TA z) k = cN (TA z) x by omega], q3⟩
            · rintro ⟨q1, q2, q3⟩
              obtain ⟨_, _, y3, y4, y5, _⟩ := d12.resolve_left (fun w => by rw [q1] at w; exact absurd w.1 (by decide))
              exact ⟨q1, by rw [y5]; unfold cN; rw [q2], q3⟩
          by_cases hr : TA z 8 k = 0 ∧ TA z 11 k = TA z 11 x ∧ TA z 10 k = TA z 10 x
          · have nak : ¬ TA z 8 k = 2 := by rw [hr.1]; decide
            have eck : cN (TA z) k = cN (TA z) x := by unfold cN; rw [hr.2.1]
            obtain ⟨_, yCK, y3, y4, y5, _⟩ := d12.resolve_left (fun w => nak w.1)
            obtain ⟨z2, rs2, hC2, st2, hK2, ec2, ks2⟩ := Cls_settle 5 hCz p' hp'
            have ecz2 : zP z2 9 = zP z 9 := ec2.trans ecz
            have rs2 : Rn 11 i_P_settle [.ref (zP zz (zP zz 9 (nI k).toNatClampNeg) 2), .ref 10, .ref 14] zz none z2 := by rw [e9k, f2]; exact rs2
            obtain ⟨Dx, cx5, gbx⟩ := form_s (z := z) hC2 ecz2 x p hx hp e9 nax (ks2 p hp stz)
            obtain ⟨Dk, ck5, gbk⟩ := form_s (z := z) hC2 ecz2 k p' hkn hp' f9 nak st2
            rw [eck] at Dk ck5 gbk
            have tg2 : tg z2 = tg zz := hK2.2.2.1
            have hcs := CS_CO hC2.2.1 _ x3
            have fx : fsN (TA z) x ≤ lsN (TA z) x := by unfold lsN; omega
            have fk : fsN (TA z) k ≤ lsN (TA z) k := by unfold lsN; omega
            have bP : ∀ h, h < 18 → 3 ≤ (TA z 2 (18 * cN (TA z) x + h)).toInt ∧ (TA z 2 (18 * cN (TA z) x + h)).toInt ≤ 5 := (hVD.1 _ x3).2.2
            have px : ∀ fm, fm ≤ 18 → Rn 10 i_D_pointsFrom [.ref (zP z 9 x), .int (nI fm)] z2 (some (.int (pfB (fB (TA z) n R) (TA z) (oF (TA z 10) n) n x (cN (TA z) x) fm))) z2 := fun fm hfm => by
              have r := D_pointsFrom 7 z2 _ _ _ _ _ _ _ _ _ Dx _ cx5 hcs (by omega) fm hfm
              rw [pp_pt _ _ _ _ _ _ _ _ (Nat.le_refl _), show fsN (TA z) x + (lsN (TA z) x - fsN (TA z) x) = lsN (TA z) x by omega] at r
              exact r
            have pk : ∀ fm, fm ≤ 18 → Rn 10 i_D_pointsFrom [.ref (zP z 9 k), .int (nI fm)] z2 (some (.int (pfB (fB (TA z) n R) (TA z) (oF (TA z 10) n) n k (cN (TA z) x) fm))) z2 := fun fm hfm => by
              have r := D_pointsFrom 7 z2 _ _ _ _ _ _ _ _ _ Dk _ ck5 hcs (by omega) fm hfm
              rw [pp_pt _ _ _ _ _ _ _ _ (Nat.le_refl _), show fsN (TA z) k + (lsN (TA z) k - fsN (TA z) k) = lsN (TA z) k by omega] at r
              exact r
            have bx : ∀ fm, 0 ≤ (pfB (fB (TA z) n R) (TA z) (oF (TA z 10) n) n x (cN (TA z) x) fm).toInt ∧ (pfB (fB (TA z) n R) (TA z) (oF (TA z 10) n) n x (cN (TA z) x) fm).toInt ≤ 100000 := fun fm => by
              have l18 := xCK.2.2
              have r := pp_bd (fun j => TA z 15 (18 * x + (fsN (TA z) x + j))) (fun j => gvF (gfB (fB (TA z) n R) (TA z) (oF (TA z 10) n) n x (cN (TA z) x)) (TA z 3 (18 * cN (TA z) x + (fsN (TA z) x + j)))) (fun h => TA z 2 (18 * cN (TA z) x + h)) (fsN (TA z) x) fm (lsN (TA z) x - fsN (TA z) x) (by omega) (fun j hj => hVD.2.1 x hx _ (by omega)) (fun j hj => gvF_bd _ _ gbx) bP (lsN (TA z) x - fsN (TA z) x) (Nat.le_refl _)
              rw [pp_pt _ _ _ _ _ _ _ _ (Nat.le_refl _), show fsN (TA z) x + (lsN (TA z) x - fsN (TA z) x) = lsN (TA z) x by omega] at r
              unfold pfB
              omega
            have bk : ∀ fm, 0 ≤ (pfB (fB (TA z) n R) (TA z) (oF (TA z 10) n) n k (cN (TA z) x) fm).toInt ∧ (pfB (fB (TA z) n R) (TA z) (oF (TA z 10) n) n k (cN (TA z) x) fm).toInt ≤ 100000 := fun fm => by
              have l18 := yCK.2.2
              have r := pp_bd (fun j => TA z 15 (18 * k + (fsN (TA z) k + j))) (fun j => gvF (gfB (fB (TA z) n R) (TA z) (oF (TA z 10) n) n k (cN (TA z) x)) (TA z 3 (18 * cN (TA z) x + (fsN (TA z) k + j)))) (fun h => TA z 2 (18 * cN (TA z) x + h)) (fsN (TA z) k) fm (lsN (TA z) k - fsN (TA z) k) (by omega) (fun j hj => hVD.2.1 k hkn _ (by omega)) (fun j hj => gvF_bd _ _ gbk) bP (lsN (TA z) k - fsN (TA z) k) (Nat.le_refl _)
              rw [pp_pt _ _ _ _ _ _ _ _ (Nat.le_refl _), show fsN (TA z) k + (lsN (TA z) k - fsN (TA z) k) = lsN (TA z) k by omega] at r
              unfold pfB
              omega
            obtain ⟨_, _, g3, g4, _⟩ := hC2.2.2.2.2.2.2.1.1 x hx
            obtain ⟨_, _, l3, l4, _⟩ := hC2.2.2.2.2.2.2.1.1 k hkn
            rw [ecz2] at g3 g4 l3 l4
            have ra := X_isAhead 7 z2 hC2.1 (zP z 9 k) (zP z 9 x) k x l4 g4 (by omega) (by omega) l3 g3 _ _ pk px bk bx
            have ra : Rn 11 i_X_isAhead [.ref (zP zz 9 (nI k).toNatClampNeg), .ref (zP z 9 x)] z2 (some (.int (if ahB (fB (TA z) n R) (TA z) (oF (TA z 10) n) n k x (cN (TA z) x) = true then 1 else 0))) z2 := by rw [e9k]; exact ra
            have ah0 : k = x → ahB (fB (TA z) n R) (TA z) (oF (TA z 10) n) n k x (cN (TA z) x) = false := fun e => by
              subst e
              unfold ahB
              rw [decide_eq_false (Nat.lt_irrefl _)]
              exact ahS_self _ 5 0
            have rvk : (rvB (TA z) x k = true ∧ ahB (fB (TA z) n R) (TA z) (oF (TA z 10) n) n k x (cN (TA z) x) = true) ↔ ahB (fB (TA z) n R) (TA z) (oF (TA z 10) n) n k x (cN (TA z) x) = true := ⟨fun w => w.2, fun w => ⟨decide_eq_true ⟨fun e => (by rw [ah0 e] at w; cases w), hr⟩, w⟩⟩
            have tz5 : tg zz (zP zz 9 (nI k).toNatClampNeg) = 11 := by rw [e9k]; exact d3
            refine hK' 28 _ _ _ ⟨tz6.1, ⟨fun c2 => absurd ?_ (nI_ge (a := k) (b := n) hkn (by omega)), fun c2 => ⟨⟨tz6.1, tz6.2.2.2.1⟩, ⟨⟨t9.1, vk⟩, ⟨fun c6 => absurd c6 tk, fun c6 => ⟨_, _, rr, ⟨fun c9 => absurd (riv.mpr hr) (b1_t c9), fun c9 => ⟨tz5, ⟨⟨tz6.1, tz6.2.2.2.2.1⟩, ⟨⟨tz6.1, tz6.2.2.2.2.2.1⟩, ⟨_, _, rs2, ⟨_, _, ra, ⟨fun c16 => ?_, fun c16 => ?_⟩⟩⟩⟩⟩⟩⟩⟩⟩⟩⟩⟩⟩
            · have c2 : zI zz 6 3 ≤ nI k := c2
              rw [hz6] at c2; exact c2
            · have g := ih z2 (.ref (zP zz 9 (nI k).toNatClampNeg)) (Kp_t hKz hK2) hC2 ecz2 (ks2 p hp stz)
              unfold plcF at g
              rw [if_neg (fun w => b1_t c16 (rvk.mp w))] at g
              exact g
            · have g := ih z2 (.ref (zP zz 9 (nI k).toNatClampNeg)) (Kp_t hKz hK2) hC2 ecz2 (ks2 p hp stz)
              unfold plcF at g
              rw [if_pos (rvk.mpr (b1_f c16))] at g
              exact g
          · refine hK' 28 _ _ _ ⟨tz6.1, ⟨fun c2 => absurd ?_ (nI_ge (a := k) (b := n) hkn (by omega)), fun c2 => ⟨⟨tz6.1, tz6.2.2.2.1⟩, ⟨⟨t9.1, vk⟩, ⟨fun c6 => absurd c6 tk, fun c6 => ⟨_, _, rr, ⟨fun c9 => ?_, fun c9 => absurd (riv.mp (b1_f c9)) hr⟩⟩⟩⟩⟩⟩⟩
            · have c2 : zI zz 6 3 ≤ nI k := c2
              rw [hz6] at c2; exact c2
            · have g := ih zz (.ref (zP zz 9 (nI k).toNatClampNeg)) hKz hCz ecz stz
              unfold plcF at g
              rw [if_neg (fun w => hr (of_decide_eq_true w.1).2), Int32.add_zero] at g
              exact g
        · have : k = n := by omega
          subst this
          refine hK' 28 _ _ _ ⟨tz6.1, ⟨fun c2 => ⟨rfl, hKz, hCz⟩, fun c2 => absurd ?_ c2⟩⟩
          show zI zz 6 3 ≤ nI k
          rw [hz6]; exact Int32.le_refl _
      obtain ⟨r, z', rx, er, hK, hC'⟩ := key
      subst er
      refine ans hS hK hC' rx (fun zz hW hw => ?_)
      have r := M_place_ok 1 zz (VZ zz) (AZ zz) n R hW x (cN (TA z) x) hx (by rw [hw 8 (by decide)]; exact h8) w3 (by rw [hw 11 (by decide)]; exact w4)
      have e : ∀ k, plcF (fB (AZ zz) n R) (AZ zz) (oF (AZ zz 10) n) n x (cN (TA z) x) k = plcF (fB (TA z) n R) (TA z) (oF (TA z 10) n) n x (cN (TA z) x) k := fun k => by
        induction k with
        | zero => unfold plcF; rfl
        | succ k ih =>
          unfold plcF rvB
          rw [ih, fB_w hw, ahB_w hw, hw 10 (by decide), hw 8 (by decide), hw 11 (by decide)]
      rw [e] at r
      exact r
    · exact fnd0 hS 2 (rn_i (full := cd_85) t6.1 (ok_n rfl) rfl (fun K hK' => hK' 0 _ _ _ ⟨_, _, rc, ⟨fun c2 => absurd c2 x0, fun c2 => ⟨b3, ⟨fun c6 => absurd (b5.symm.trans c6) h8, fun c6 => ⟨_, _, X_rK 9 hT, rfl, rfl⟩⟩⟩⟩⟩)) (fun zz hW hw => M_place_kind 1 zz (VZ zz) (AZ zz) n R hW x hx (by rw [hw 8 (by decide)]; exact h8))
  · exact fnd0 hS 0 (rn_i (full := cd_85) t6.1 (ok_n rfl) rfl (fun K hK' => hK' 0 _ _ _ ⟨_, _, X_cardOf_no 10 hT n h6 h60 kx hk, ⟨fun c2 => ⟨_, _, X_rB 9 hT, rfl, rfl⟩, fun c2 => absurd rfl c2⟩⟩)) (fun zz hW hw => M_place_bad 1 zz (VZ zz) (AZ zz) hW.1 kx (by rw [hW.2.1]; exact hk))
end Ops6
