/-! Calls of both: ask match place. Own work. -/
/-- STROKES GIVEN is bounded -/
theorem gf_bd {z : ZS} {A : Nat → Nat → Int32} {cid : Nat → Nat} {n R : Nat} (hB : CB z cid A n) (hV : VD A n R) (t : List Nat) (ht : ∀ k, k ∈ t → k < n) (hl : t.length ≤ 60) (k : Nat) (hc : cN A k < 4) : -20000 ≤ (gfP (pb A R t) A t k).toInt ∧ (gfP (pb A R t) A t k).toInt ≤ 20000 := by
  have b := pb_bd hV t (fun k hk => ⟨ht k hk, Cls_KD hB k (ht k hk)⟩) hl
  have hN := nuP_bd (by omega) (by omega) b.1 A t (A 10 k)
  obtain ⟨P, p1, p2, g1, g2, T1, T2⟩ := gvT_bd hV hc (by omega) (by omega) hN
  obtain ⟨⟨r1, r2⟩, _⟩ := hV.1 _ hc
  unfold gfP
  omega
theorem gvF_bd (g r : Int32) (hg : -20000 ≤ g.toInt ∧ g.toInt ≤ 20000) : -1200 ≤ (gvF g r).toInt ∧ (gvF g r).toInt ≤ 1200 := by
  have fs := fdv_spec (x := g) (y := 18) (by decide)
  rw [show (18 : Int32).toInt = 18 by decide] at fs
  unfold gvF
  split
  · rw [Int32.add_zero]; omega
  · rw [ti_add] <;> rw [show (1 : Int32).toInt = 1 by decide] <;> omega
theorem pp_bd (S H P : Nat → Int32) (f fm len : Nat) (h18 : f + len ≤ 18) (hS : ∀ j, j < len → -1 ≤ (S j).toInt ∧ (S j).toInt ≤ 15) (hH : ∀ j, j < len → -1200 ≤ (H j).toInt ∧ (H j).toInt ≤ 1200) (hP : ∀ h, h < 18 → 3 ≤ (P h).toInt ∧ (P h).toInt ≤ 5) : ∀ j, j ≤ len → 0 ≤ (ppF S H P f fm j).toInt ∧ (ppF S H P f fm j).toInt ≤ 1300 * (j : Int)
  | 0, _ => by
    show 0 ≤ ((0 : Int32)).toInt ∧ ((0 : Int32)).toInt ≤ 1300 * ((0 : Nat) : Int)
    rw [show (0 : Int32).toInt = 0 by decide]; omega
  | j + 1, hj => by
    have ih := pp_bd S H P f fm len h18 hS hH hP j (by omega)
    have s := hS j (by omega)
    have h := hH j (by omega)
    have p := hP (f + j) (by omega)
    unfold ppF
    split
    · omega
    · split
      · omega
      · have t2 : (2 : Int32).toInt = 2 := by decide
        have e1 : (P (f + j) + 2).toInt = (P (f + j)).toInt + 2 := by rw [ti_add] <;> rw [t2] <;> omega
        have e2 : (P (f + j) + 2 + H j).toInt = (P (f + j)).toInt + 2 + (H j).toInt := by rw [ti_add] <;> rw [e1] <;> omega
        have e3 : (P (f + j) + 2 + H j - S j).toInt = (P (f + j)).toInt + 2 + (H j).toInt - (S j).toInt := by rw [ti_sub] <;> rw [e2] <;> omega
        have hv : 0 ≤ (if P (f + j) + 2 + H j - S j < 0 then (0 : Int32) else P (f + j) + 2 + H j - S j).toInt ∧ (if P (f + j) + 2 + H j - S j < 0 then (0 : Int32) else P (f + j) + 2 + H j - S j).toInt ≤ 1300 := by
          split
          · rw [show (0 : Int32).toInt = 0 by decide]; omega
          · rename_i w
            rw [i32_lt, e3, show (0 : Int32).toInt = 0 by decide] at w
            rw [e3]; omega
        rw [ti_add] <;> omega
theorem M_ask_0 (d : Nat) (z0 : ZS) (V : Nat → Int32) (A : Nat → Nat → Int32) (hM : MT z0) (k n : Nat) (hn : V 10 = nI n) (hk : k < n) (h60 : n ≤ 60) : Rn (d + 3) i_M_ask [.ref 46, .int (nI k), .int (nI 0)] (mz z0 V A) (some (.int (A 8 k))) (mz z0 V A) := by
  have vk : vp_in (nI k) 60 := vp_in_nI (by omega) (by decide)
  have ck : (nI k).toNatClampNeg = k := nI_clamp (by omega)
  exact rn_i (full := cd_130) hM.1 (ok_n rfl) rfl (fun K hK => hK 0 _ _ _ ⟨_, _, M_isCard _ z0 V A hM _, ⟨fun c2 => absurd (card_rng hn hk h60) (b1_t c2), fun c2 => ⟨_, _, M_in _ _ _ _ _, ⟨fun c6 => absurd (show 0 ≤ nI 0 ∧ nI 0 ≤ 5 by decide) (b1_t c6), fun c6 => ⟨fun c9 => ⟨fun c10 => ⟨mt_g hM 8 (by decide), ⟨mt_l hM 8 (by decide) vk, ⟨by rw [show A 8 k = A 8 (nI k).toNatClampNeg by rw [ck]]; rfl, rfl⟩⟩⟩, fun c10 => absurd (show (nI 0).toInt = 0 by decide) c10⟩, fun c9 => absurd (show nI 0 ≤ 3 by decide) c9⟩⟩⟩⟩⟩)
theorem M_ask_1 (d : Nat) (z0 : ZS) (V : Nat → Int32) (A : Nat → Nat → Int32) (hM : MT z0) (k n : Nat) (hn : V 10 = nI n) (hk : k < n) (h60 : n ≤ 60) : Rn (d + 3) i_M_ask [.ref 46, .int (nI k), .int (nI 1)] (mz z0 V A) (some (.int (A 9 k))) (mz z0 V A) := by
  have vk : vp_in (nI k) 60 := vp_in_nI (by omega) (by decide)
  have ck : (nI k).toNatClampNeg = k := nI_clamp (by omega)
  exact rn_i (full := cd_130) hM.1 (ok_n rfl) rfl (fun K hK => hK 0 _ _ _ ⟨_, _, M_isCard _ z0 V A hM _, ⟨fun c2 => absurd (card_rng hn hk h60) (b1_t c2), fun c2 => ⟨_, _, M_in _ _ _ _ _, ⟨fun c6 => absurd (show 0 ≤ nI 1 ∧ nI 1 ≤ 5 by decide) (b1_t c6), fun c6 => ⟨fun c9 => ⟨fun c10 => absurd c10 (show ¬ (nI 1).toInt = 0 by decide), fun c10 => ⟨fun c13 => ⟨mt_g hM 9 (by decide), ⟨mt_l hM 9 (by decide) vk, ⟨by rw [show A 9 k = A 9 (nI k).toNatClampNeg by rw [ck]]; rfl, rfl⟩⟩⟩, fun c13 => absurd (show (nI 1).toInt = 0 + 1 by decide) c13⟩⟩, fun c9 => absurd (show nI 1 ≤ 3 by decide) c9⟩⟩⟩⟩⟩)
theorem M_ask_2 (d : Nat) (z0 : ZS) (V : Nat → Int32) (A : Nat → Nat → Int32) (hM : MT z0) (k n : Nat) (hn : V 10 = nI n) (hk : k < n) (h60 : n ≤ 60) : Rn (d + 3) i_M_ask [.ref 46, .int (nI k), .int (nI 2)] (mz z0 V A) (some (.int (A 10 k))) (mz z0 V A) := by
  have vk : vp_in (nI k) 60 := vp_in_nI (by omega) (by decide)
  have ck : (nI k).toNatClampNeg = k := nI_clamp (by omega)
  exact rn_i (full := cd_130) hM.1 (ok_n rfl) rfl (fun K hK => hK 0 _ _ _ ⟨_, _, M_isCard _ z0 V A hM _, ⟨fun c2 => absurd (card_rng hn hk h60) (b1_t c2), fun c2 => ⟨_, _, M_in _ _ _ _ _, ⟨fun c6 => absurd (show 0 ≤ nI 2 ∧ nI 2 ≤ 5 by decide) (b1_t c6), fun c6 => ⟨fun c9 => ⟨fun c10 => absurd c10 (show ¬ (nI 2).toInt = 0 by decide), fun c10 => ⟨fun c13 => absurd c13 (show ¬ (nI 2).toInt = 0 + 1 by decide), fun c13 => ⟨fun c16 => ⟨mt_g hM 10 (by decide), ⟨mt_l hM 10 (by decide) vk, ⟨by rw [show A 10 k = A 10 (nI k).toNatClampNeg by rw [ck]]; rfl, rfl⟩⟩⟩, fun c16 => absurd (show (nI 2).toInt = 0 + 1 + 1 by decide) c16⟩⟩⟩, fun c9 => absurd (show nI 2 ≤ 3 by decide) c9⟩⟩⟩⟩⟩)
theorem M_ask_3 (d : Nat) (z0 : ZS) (V : Nat → Int32) (A : Nat → Nat → Int32) (hM : MT z0) (k n : Nat) (hn : V 10 = nI n) (hk : k < n) (h60 : n ≤ 60) : Rn (d + 3) i_M_ask [.ref 46, .int (nI k), .int (nI 3)] (mz z0 V A) (some (.int (if A 14 k = 0 then 0 else 1))) (mz z0 V A) := by
  have vk : vp_in (nI k) 60 := vp_in_nI (by omega) (by decide)
  have ck : (nI k).toNatClampNeg = k := nI_clamp (by omega)
  exact rn_i (full := cd_130) hM.1 (ok_n rfl) rfl (fun K hK => hK 0 _ _ _ ⟨_, _, M_isCard _ z0 V A hM _, ⟨fun c2 => absurd (card_rng hn hk h60) (b1_t c2), fun c2 => ⟨_, _, M_in _ _ _ _ _, ⟨fun c6 => absurd (show 0 ≤ nI 3 ∧ nI 3 ≤ 5 by decide) (b1_t c6), fun c6 => ⟨fun c9 => ⟨fun c10 => absurd c10 (show ¬ (nI 3).toInt = 0 by decide), fun c10 => ⟨fun c13 => absurd c13 (show ¬ (nI 3).toInt = 0 + 1 by decide), fun c13 => ⟨fun c16 => absurd c16 (show ¬ (nI 3).toInt = 0 + 1 + 1 by decide), fun c16 => ⟨fun c19 => ⟨mt_g hM 14 (by decide), ⟨mt_l hM 14 (by decide) vk, ⟨fun c21 => ⟨by rw [if_pos (by rw [show A 14 k = A 14 (nI k).toNatClampNeg by rw [ck]]; exact c21)], rfl⟩, fun c21 => ⟨by rw [if_neg (by rw [show A 14 k = A 14 (nI k).toNatClampNeg by rw [ck]]; exact c21)], rfl⟩⟩⟩⟩, fun c19 => absurd (show (nI 3).toInt = 0 + 1 + 1 + 1 by decide) c19⟩⟩⟩⟩, fun c9 => absurd (show nI 3 ≤ 3 by decide) c9⟩⟩⟩⟩⟩)
section Ops4
variable {z : ZS} {n R : Nat}
theorem op_ask (hS : Sim z n R) (k w : Int32) : Op2 i_X_ask i_M_ask [.int k, .int w] z := by
  have hC := hS.2
  have hT := hC.1
  have t6 := hT.2.1
  obtain ⟨h60, hV, h6⟩ := hC.2.2.2.2.2.1
  by_cases hk : 0 ≤ k ∧ k ≤ nI n - 1
  · obtain ⟨k0, hk0, e⟩ := card_in h60 hk
    subst e
    have hB := hC.2.2.2.2.2.2.1.1 k0 hk0
    obtain ⟨b1, b2, b3, b4, b5, b6, b7, b8, b9, b10, b11, b12⟩ := hB
    have x0 : ¬ zP z 9 k0 = 0 := by omega
    have rc := X_cardOf_ok 10 hT n k0 h6 h60 hk0
    by_cases hw5 : 0 ≤ w ∧ w ≤ 5
    · obtain ⟨j, hj, e⟩ := rng_nI (x := w) (N := 5) (by decide) hw5
      subst e
      have rw5 := X_isWithin 10 z (nI j) 0 5
      rcases (show j = 0 ∨ j = 1 ∨ j = 2 ∨ j = 3 ∨ j = 4 ∨ j = 5 by omega) with e | e | e | e | e | e <;> subst e
      · refine ans0 hS (r := TA z 8 k0) (rn_i (full := cd_69) t6.1 (ok_n rfl) rfl (fun K hK' => hK' 0 _ _ _ ⟨_, _, rc, ⟨fun c2 => absurd c2 x0, fun c2 => ⟨_, _, rw5, ⟨fun c6 => absurd hw5 (b1_t c6), fun c6 => ⟨fun c9 => ⟨fun c10 => ⟨b3, ⟨by rw [← b5]; rfl, rfl⟩⟩, fun c10 => absurd (show (nI 0).toInt = 0 by decide) c10⟩, fun c9 => absurd (show nI 0 < 4 by decide) c9⟩⟩⟩⟩⟩)) (fun zz hW hw => ?_)
        have r := M_ask_0 9 zz (VZ zz) (AZ zz) hW.1 k0 n hW.2.1 hk0 h60
        rw [hw 8 (by decide)] at r
        exact r
      · refine ans0 hS (r := TA z 9 k0) (rn_i (full := cd_69) t6.1 (ok_n rfl) rfl (fun K hK' => hK' 0 _ _ _ ⟨_, _, rc, ⟨fun c2 => absurd c2 x0, fun c2 => ⟨_, _, rw5, ⟨fun c6 => absurd hw5 (b1_t c6), fun c6 => ⟨fun c9 => ⟨fun c10 => absurd c10 (show ¬ (nI 1).toInt = 0 by decide), fun c10 => ⟨fun c13 => ⟨b3, ⟨by rw [← b6]; rfl, rfl⟩⟩, fun c13 => absurd (show (nI 1).toInt = 0 + 1 by decide) c13⟩⟩, fun c9 => absurd (show nI 1 < 4 by decide) c9⟩⟩⟩⟩⟩)) (fun zz hW hw => ?_)
        have r := M_ask_1 9 zz (VZ zz) (AZ zz) hW.1 k0 n hW.2.1 hk0 h60
        rw [hw 9 (by decide)] at r
        exact r
      · refine ans0 hS (r := TA z 10 k0) (rn_i (full := cd_69) t6.1 (ok_n rfl) rfl (fun K hK' => hK' 0 _ _ _ ⟨_, _, rc, ⟨fun c2 => absurd c2 x0, fun c2 => ⟨_, _, rw5, ⟨fun c6 => absurd hw5 (b1_t c6), fun c6 => ⟨fun c9 => ⟨fun c10 => absurd c10 (show ¬ (nI 2).toInt = 0 by decide), fun c10 => ⟨fun c13 => absurd c13 (show ¬ (nI 2).toInt = 0 + 1 by decide), fun c13 => ⟨fun c16 => ⟨b3, ⟨by rw [← b7]; rfl, rfl⟩⟩, fun c16 => absurd (show (nI 2).toInt = 0 + 1 + 1 by decide) c16⟩⟩⟩, fun c9 => absurd (show nI 2 < 4 by decide) c9⟩⟩⟩⟩⟩)) (fun zz hW hw => ?_)
        have r := M_ask_2 9 zz (VZ zz) (AZ zz) hW.1 k0 n hW.2.1 hk0 h60
        rw [hw 10 (by decide)] at r
        exact r
      · refine ans0 hS (r := (if TA z 14 k0 = 0 then 0 else 1)) (rn_i (full := cd_69) t6.1 (ok_n rfl) rfl (fun K hK' => hK' 0 _ _ _ ⟨_, _, rc, ⟨fun c2 => absurd c2 x0, fun c2 => ⟨_, _, rw5, ⟨fun c6 => absurd hw5 (b1_t c6), fun c6 => ⟨fun c9 => ⟨fun c10 => absurd c10 (show ¬ (nI 3).toInt = 0 by decide), fun c10 => ⟨fun c13 => absurd c13 (show ¬ (nI 3).toInt = 0 + 1 by decide), fun c13 => ⟨fun c16 => absurd c16 (show ¬ (nI 3).toInt = 0 + 1 + 1 by decide), fun c16 => ⟨fun c19 => ⟨b3, ⟨fun c21 => ⟨by rw [if_pos (by rw [← b10]; exact c21)], rfl⟩, fun c21 => ⟨by rw [if_neg (by rw [← b10]; exact c21)], rfl⟩⟩⟩, fun c19 => absurd (show (nI 3).toInt = 0 + 1 + 1 + 1 by decide) c19⟩⟩⟩⟩, fun c9 => absurd (show nI 3 < 4 by decide) c9⟩⟩⟩⟩⟩)) (fun zz hW hw => ?_)
        have r := M_ask_3 9 zz (VZ zz) (AZ zz) hW.1 k0 n hW.2.1 hk0 h60
        rw [hw 14 (by decide)] at r
        exact r
      · by_cases ha : TA z 8 k0 = 2
        · have h5 : zP z (zP z 9 k0) 5 = 0 := by
            rcases b12 with q | q
            · exact q.2
            · rcases q.1 with q | q <;> (rw [q] at ha; exact absurd ha (by decide))
          exact fnd0 hS 1 (rn_i (full := cd_69) t6.1 (ok_n rfl) rfl (fun K hK' => hK' 0 _ _ _ ⟨_, _, rc, ⟨fun c2 => absurd c2 x0, fun c2 => ⟨_, _, rw5, ⟨fun c6 => absurd hw5 (b1_t c6), fun c6 => ⟨fun c9 => absurd c9 (show ¬ nI 4 < 4 by decide), fun c9 => ⟨b3, ⟨fun c31 => ⟨_, _, X_rN 9 hT, rfl, rfl⟩, fun c31 => absurd h5 c31⟩⟩⟩⟩⟩⟩⟩)) (fun zz hW hw => M_ask_none 9 zz (VZ zz) (AZ zz) hW.1 k0 n hW.2.1 hk0 h60 (nI 4) hw5 (by decide) (by rw [hw 8 (by decide)]; exact ha))
        · obtain ⟨w1, wCK, w3, w4, w5, _⟩ := b12.resolve_left (fun w => ha w.1)
          have h5 : ¬ zP z (zP z 9 k0) 5 = 0 := by rw [w5]; omega
          have cs := hC.2.1 _ w3
          have t5 : tg z (zP z (zP z 9 k0) 5) = 12 := by rw [w5]; exact cs.1
          have hD := HC_DO0 hC.2.1 (hC.2.2.2.2.2.2.1.1 k0 hk0) ha
          have rp := D_holesPlayed 10 z _ _ _ _ _ hD
          rw [hp_pl] at rp
          refine ans0 hS (r := TA z 11 k0) (rn_i (full := cd_69) t6.1 (ok_n rfl) rfl (fun K hK' => hK' 0 _ _ _ ⟨_, _, rc, ⟨fun c2 => absurd c2 x0, fun c2 => ⟨_, _, rw5, ⟨fun c6 => absurd hw5 (b1_t c6), fun c6 => ⟨fun c9 => absurd c9 (show ¬ nI 4 < 4 by decide), fun c9 => ⟨b3, ⟨fun c31 => absurd c31 h5, fun c31 => ⟨fun c34 => absurd c34 (show ¬ (nI 4).toInt = 0 by decide), fun c34 => ⟨fun c37 => absurd c37 (show ¬ (nI 4).toInt = 0 + 1 by decide), fun c37 => ⟨fun c40 => absurd c40 (show ¬ (nI 4).toInt = 0 + 1 + 1 by decide), fun c40 => ⟨fun c43 => absurd c43 (show ¬ (nI 4).toInt = 0 + 1 + 1 + 1 by decide), fun c43 => ⟨fun c48 => ⟨b3, ⟨t5, ⟨?_, rfl⟩⟩⟩, fun c48 => absurd (show (nI 4).toInt = 0 + 1 + 1 + 1 + 1 by decide) c48⟩⟩⟩⟩⟩⟩⟩⟩⟩⟩⟩⟩)) (fun zz hW hw => ?_)
          · show some (Value.int (zI z (zP z (zP z 9 k0) 5) 0)) = _
            rw [w5, cs.2.2.2.2.2.1, w4]
          · have r := M_ask_ok 9 zz (VZ zz) (AZ zz) hW.1 k0 n hW.2.1 hk0 h60 (CK_w hw wCK) (nI 4) hw5 (Or.inr (by rw [hw 8 (by decide)]; exact ha))
            rw [askF_w hw] at r
            exact r
      · by_cases ha : TA z 8 k0 = 2
        · have h5 : zP z (zP z 9 k0) 5 = 0 := by
            rcases b12 with q | q
            · exact q.2
            · rcases q.1 with q | q <;> (rw [q] at ha; exact absurd ha (by decide))
          exact fnd0 hS 1 (rn_i (full := cd_69) t6.1 (ok_n rfl) rfl (fun K hK' => hK' 0 _ _ _ ⟨_, _, rc, ⟨fun c2 => absurd c2 x0, fun c2 => ⟨_, _, rw5, ⟨fun c6 => absurd hw5 (b1_t c6), fun c6 => ⟨fun c9 => absurd c9 (show ¬ nI 5 < 4 by decide), fun c9 => ⟨b3, ⟨fun c31 => ⟨_, _, X_rN 9 hT, rfl, rfl⟩, fun c31 => absurd h5 c31⟩⟩⟩⟩⟩⟩⟩)) (fun zz hW hw => M_ask_none 9 zz (VZ zz) (AZ zz) hW.1 k0 n hW.2.1 hk0 h60 (nI 5) hw5 (by decide) (by rw [hw 8 (by decide)]; exact ha))
        · obtain ⟨w1, wCK, w3, w4, w5, _⟩ := b12.resolve_left (fun w => ha w.1)
          have h5 : ¬ zP z (zP z 9 k0) 5 = 0 := by rw [w5]; omega
          have cs := hC.2.1 _ w3
          have t5 : tg z (zP z (zP z 9 k0) 5) = 12 := by rw [w5]; exact cs.1
          have hD := HC_DO0 hC.2.1 (hC.2.2.2.2.2.2.1.1 k0 hk0) ha
          have rp := D_holesPlayed 10 z _ _ _ _ _ hD
          rw [hp_pl] at rp
          refine ans0 hS (rn_i (full := cd_69) t6.1 (ok_n rfl) rfl (fun K hK' => hK' 0 _ _ _ ⟨_, _, rc, ⟨fun c2 => absurd c2 x0, fun c2 => ⟨_, _, rw5, ⟨fun c6 => absurd hw5 (b1_t c6), fun c6 => ⟨fun c9 => absurd c9 (show ¬ nI 5 < 4 by decide), fun c9 => ⟨b3, ⟨fun c31 => absurd c31 h5, fun c31 => ⟨fun c34 => absurd c34 (show ¬ (nI 5).toInt = 0 by decide), fun c34 => ⟨fun c37 => absurd c37 (show ¬ (nI 5).toInt = 0 + 1 by decide), fun c37 => ⟨fun c40 => absurd c40 (show ¬ (nI 5).toInt = 0 + 1 + 1 by decide), fun c40 => ⟨fun c43 => absurd c43 (show ¬ (nI 5).toInt = 0 + 1 + 1 + 1 by decide), fun c43 => ⟨fun c48 => absurd c48 (show ¬ (nI 5).toInt = 0 + 1 + 1 + 1 + 1 by decide), fun c48 => ⟨_, _, rp, rfl, rfl⟩⟩⟩⟩⟩⟩⟩⟩⟩⟩⟩⟩⟩)) (fun zz hW hw => ?_)
          · have r := M_ask_ok 9 zz (VZ zz) (AZ zz) hW.1 k0 n hW.2.1 hk0 h60 (CK_w hw wCK) (nI 5) hw5 (Or.inr (by rw [hw 8 (by decide)]; exact ha))
            rw [askF_w hw] at r
            exact r
    · exact fnd0 hS 0 (rn_i (full := cd_69) t6.1 (ok_n rfl) rfl (fun K hK' => hK' 0 _ _ _ ⟨_, _, rc, ⟨fun c2 => absurd c2 x0, fun c2 => ⟨_, _, X_isWithin 10 z w 0 5, ⟨fun c6 => ⟨_, _, X_rB 9 hT, rfl, rfl⟩, fun c6 => absurd (b1_f c6) hw5⟩⟩⟩⟩)) (fun zz hW hw => M_ask_bad 9 zz (VZ zz) (AZ zz) hW.1 _ w (fun q => hw5 q.2))
  · exact fnd0 hS 0 (rn_i (full := cd_69) t6.1 (ok_n rfl) rfl (fun K hK' => hK' 0 _ _ _ ⟨_, _, X_cardOf_no 10 hT n h6 h60 k hk, ⟨fun c2 => ⟨_, _, X_rB 9 hT, rfl, rfl⟩, fun c2 => absurd rfl c2⟩⟩)) (fun zz hW hw => M_ask_bad 9 zz (VZ zz) (AZ zz) hW.1 k w (fun q => hk (by rw [hW.2.1] at q; exact q.1)))
end Ops4
