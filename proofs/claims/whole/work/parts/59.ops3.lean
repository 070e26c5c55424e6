/-! Calls of both: makes as ask at adjusted score points. Own work. -/
theorem closeG {z1 : ZS} {n R : Nat} {V' V1 F1 : Nat → Int32} {A' A1 : Nat → Nat → Int32} (hM : MT z1) (hC : Cls z1 A1 F1 V1 n R) (eA : trw A' = A1) (eF : fzF A' = F1) (e4 : V' 4 = V1 4) (e8 : V' 8 = V1 8) (e10 : V' 10 = V1 10) (e19 : V' 19 = V1 19) : Sim (mz z1 V' A') n R := by
  refine ⟨hM, ?_⟩
  rw [TA_mz, show FZ (mz z1 V' A') = fzF A' from fzF_e (mz_A z1 V' A' 17 (by decide)) (mz_A z1 V' A' 7 (by decide)) (mz_A z1 V' A' 16 (by decide)), show VZ (mz z1 V' A') = V' from rfl, eA, eF]
  exact Cls_Fr (mz_Fr z1 V' A') (fun a j w => Or.inr (Or.inr (Or.inr w))) (Cls_V e4 e8 e10 e19 hC)
theorem CH_drop {z : ZS} {cid : Nat → Nat} {b : Bk} {D : Nat → Int32} {L : List Nat} (h : CH z cid b D L) (i0 : Nat) : CH z cid b D (L.drop i0) ∧ hdi cid (L.drop i0) 0 = hdi cid L i0 := by
  have gd : ∀ j, (L.drop i0).getD j 0 = L.getD (i0 + j) 0 := fun j => by rw [List.getD_eq_getElem?_getD, List.getD_eq_getElem?_getD, List.getElem?_drop]
  have ld : (L.drop i0).length = L.length - i0 := List.length_drop
  have hd : ∀ j, hdi cid (L.drop i0) j = hdi cid L (i0 + j) := fun j => by
    unfold hdi
    rw [ld, gd]
    by_cases e : i0 + j < L.length
    · rw [if_pos e, if_pos (by omega)]
    · rw [if_neg e, if_neg (by omega)]
  refine ⟨fun i hi => ?_, hd 0⟩
  rw [ld] at hi
  obtain ⟨a1, a2, a3, a4, a5, a6, a7⟩ := h (i0 + i) (by omega)
  rw [gd, hd, ld]
  exact ⟨a1, a2, a3, a4, a5, a6, by rw [a7, show L.length - (i0 + i) = L.length - i0 - i by omega]⟩
theorem bz_Fr (z : ZS) (q : Int32) (M N : Nat → Int32) : Fr (fun a _ => a = 14 ∨ a = 15 ∨ a = 16) (fun _ _ => False) z (bz z q M N) := by
  refine ⟨Nat.le_refl _, fun _ _ => ⟨rfl, rfl⟩, fun a j _ w => ?_, fun _ _ _ _ => rfl⟩
  show (if a = 14 ∧ j = 2 then q else if a = 15 then M j else if a = 16 then N j else zI z a j) = zI z a j
  rw [if_neg (fun e => w (Or.inl e.1)), if_neg (fun e => w (Or.inr (Or.inl e))), if_neg (fun e => w (Or.inr (Or.inr e)))]
theorem bz_Kp (z : ZS) (q : Int32) (M N : Nat → Int32) : Kp z (bz z q M N) := ⟨rfl, rfl, rfl, rfl, fun a j a1 a2 => ⟨by
  show (if a = 14 ∧ j = 2 then q else if a = 15 then M j else if a = 16 then N j else zI z a j) = zI z a j
  rw [if_neg (by omega), if_neg (by omega), if_neg (by omega)], rfl⟩⟩
/-- markedBefore and gather behind settling -/
theorem gath (d : Nat) {z1 : ZS} {A : Nat → Nat → Int32} {F V : Nat → Int32} {n R p : Nat} (hp : p < 12) (hC1 : Cls z1 A F V n R) (hI : IV z1 (zP z1 9) A R p (tpF A n p)) (day : Int32) : ∃ (y : Nat) (M N : Nat → Int32), Rn (d + 2) i_P_markedBefore [.ref (34 + p), .int day] z1 (some (.ref y)) z1 ∧ Rn (d + 2) i_B_gather [.ref 14, .ref y] z1 none (bz z1 (nI (tkN (m20 (gP (pb A R (tpF A n p)) A (tpF A n p) day)))) M N) ∧ (∀ j, j < tkN (m20 (gP (pb A R (tpF A n p)) A (tpF A n p) day)) → N j = nI ((gP (pb A R (tpF A n p)) A (tpF A n p) day).getD ((sp (wl (pb A R (tpF A n p)) (gP (pb A R (tpF A n p)) A (tpF A n p) day)) (m20 (gP (pb A R (tpF A n p)) A (tpF A n p) day))).getD j 0) 0)) ∧ Cls (bz z1 (nI (tkN (m20 (gP (pb A R (tpF A n p)) A (tpF A n p) day)))) M N) A F V n R := by
  have h60 := hC1.2.2.2.2.2.1.1
  obtain ⟨o1, o2, o3⟩ := tpF_ok A n p h60
  have sc := Cls_SC hC1 p hp
  obtain ⟨ch1, ch2⟩ := IV_CH hC1.2.2.2.2.2.2.1 o1 hI
  obtain ⟨i0, hi0⟩ := stp0_ex (A 10) day (mkd (pb A R (tpF A n p)) (tpF A n p))
  have hlen : (mkd (pb A R (tpF A n p)) (tpF A n p)).length ≤ (tpF A n p).length := List.length_filter_le _ _
  have eg : (mkd (pb A R (tpF A n p)) (tpF A n p)).drop i0 = gP (pb A R (tpF A n p)) A (tpF A n p) day := (flt_drop (A 10) day _ (flt_dn o3 _) i0 hi0).symm
  have rb := P_markedBefore (d + 1) z1 (zP z1 9) _ (A 10) _ ch1 (34 + p) sc.2.2.2.2.2.2.2.1 hI.2.1 day i0 hi0
  obtain ⟨cd, hd⟩ := CH_drop ch1 i0
  obtain ⟨M, N, rg, hR⟩ := B_gather d z1 (zP z1 9) _ (A 10) _ sc.2.2.2.2.2.1 sc.2.2.2.2.2.2.1 cd (by rw [List.length_drop]; omega) (zI z1 14 2) (zI z1 15) (zI z1 16)
  rw [bz_id, hd] at rg
  rw [eg] at rg hR
  exact ⟨_, M, N, rb, rg, fun j hj => (hR j hj).2, Cls_Fr (bz_Fr _ _ _ _) (fun a j w => by omega) hC1⟩
theorem lt_of_le1 {x : Int32} {m : Nat} (hm : m ≤ 60) : (0 ≤ x ∧ x < nI m) → ∃ i, i < m ∧ x = nI i := fun h => by
  obtain ⟨h1, h2⟩ := h
  rw [i32_le, show (0 : Int32).toInt = 0 by decide] at h1
  rw [i32_lt, nI_toInt (by omega)] at h2
  refine ⟨x.toInt.toNat, by omega, ?_⟩
  rw [i32_eq, nI_toInt (by omega)]
  omega
theorem mkN_w {A A' : Nat → Nat → Int32} (h : AgW A A') (b : Bk) (O : Nat → Nat) (n : Nat) (p day : Int32) : mkN b A' O n p day = mkN b A O n p day := by unfold mkN; rw [gM_w h]
theorem mkI_w {A A' : Nat → Nat → Int32} (h : AgW A A') (b : Bk) (O : Nat → Nat) (n : Nat) (p day : Int32) (i : Nat) : mkI b A' O n p day i = mkI b A O n p day i := by unfold mkI; rw [gM_w h]
theorem scF_w {A A' : Nat → Nat → Int32} (h : AgW A A') (k c : Nat) (g net : Int32) (f : Nat) : ∀ j, scF A' k c g net f j = scF A k c g net f j
  | 0 => rfl
  | j + 1 => by unfold scF; rw [scF_w h k c g net f j, h 15 (by decide), h 3 (by decide)]
theorem askF_w {A A' : Nat → Nat → Int32} (h : AgW A A') (k : Nat) (w : Int32) : askF A' k w = askF A k w := by
  unfold askF; rw [h 8 (by decide), h 9 (by decide), h 10 (by decide), h 14 (by decide), h 11 (by decide), plF_w h]
theorem lastF_w {A A' : Nat → Nat → Int32} (h : AgW A A') (k : Nat) : lastF A' k = lastF A k := by
  unfold lastF; rw [h 12 (by decide), h 8 (by decide)]
/-- a card's derived data as a card with holes -/
theorem HC_DO' {z : ZS} {A : Nat → Nat → Int32} {k x : Nat} {G : Int32} (hS : CS z A) (h : BCx z A k x) (h2 : ¬ A 8 k = 2) (hI : ∀ h, h < lsN A k - fsN A k → zI z (x + 2) h = gvF G (A 3 (18 * cN A k + (fsN A k + h)))) : DO z x (fsN A k) (lsN A k - fsN A k) (fun j => A 15 (18 * k + (fsN A k + j))) (fun j => gvF G (A 3 (18 * cN A k + (fsN A k + j)))) := by
  obtain ⟨q1, q2, q3, q4, q5, q6, q7, q8, q9, q10, q11⟩ := BC_HC hS h h2
  exact ⟨q1, q2, q3, by rw [q4]; exact q5, q6, fun j hj => by rw [q4]; exact hI j hj, q7⟩
theorem HC_DO0 {z : ZS} {A : Nat → Nat → Int32} {k x : Nat} (hS : CS z A) (h : BCx z A k x) (h2 : ¬ A 8 k = 2) : DO z x (fsN A k) (lsN A k - fsN A k) (fun j => A 15 (18 * k + (fsN A k + j))) (zI z (x + 2)) := by
  obtain ⟨q1, q2, q3, q4, q5, q6, q7, q8, q9, q10, q11⟩ := BC_HC hS h h2
  exact ⟨q1, q2, q3, by rw [q4]; exact q5, q6, fun j hj => by rw [q4], q7⟩
theorem D_findingAtHole (d : Nat) (z : ZS) (x f len : Nat) (S H : Nat → Int32) (h : DO z x f len S H) (hc : ¬ zP z x 5 = 0) (hole : Int32) : Rn (d + 1) i_D_findingAtHole [.ref x, .int hole] z (some (.int (if nI f ≤ hole ∧ hole < nI (f + len) then 0 else -100001))) z := by
  obtain ⟨h1, h2, h3, h4, h5, h6, h7⟩ := h
  have e0 : (nI f).toInt = (f : Int) := nI_toInt (by omega)
  have e1 : (nI (f + len)).toInt = ((f + len : Nat) : Int) := nI_toInt (by omega)
  have el : (nI len).toInt = (len : Int) := nI_toInt (by omega)
  have hu := Int32.toInt_lt hole
  refine rn_i (full := cd_13) h1 (ok_n rfl) rfl (fun K hK => hK 0 _ _ _ ⟨h1, ⟨fun c2 => absurd c2 hc, fun c2 => ⟨h1, ⟨fun c5 => ⟨?_, rfl⟩, fun c5 => ⟨h1, ⟨h1, ⟨isA1 h3.1, ⟨fun c10 => ⟨?_, rfl⟩, fun c10 => ⟨?_, rfl⟩⟩⟩⟩⟩⟩⟩⟩⟩)
  · have c5 : hole < zI z x 6 := c5
    rw [h2] at c5
    rw [if_neg (fun w => Int32.not_le.mpr c5 w.1)]
  all_goals
    have c5 : ¬ hole < zI z x 6 := c5
    rw [h2] at c5
    have c5' := Int32.not_lt.mp c5
    rw [i32_le, e0] at c5'
    have es : (hole - nI f).toInt = hole.toInt - f := by rw [ti_sub] <;> rw [e0] <;> omega
  · have c10 : nI (ln z (zP z x 7)) ≤ hole - zI z x 6 := c10
    rw [h3.2, h2, i32_le, el, es] at c10
    rw [if_neg]
    intro w
    have := w.2
    rw [i32_lt, e1] at this
    omega
  · have c10 : ¬ nI (ln z (zP z x 7)) ≤ hole - zI z x 6 := c10
    rw [h3.2, h2, i32_le, el, es] at c10
    rw [if_pos]
    refine ⟨Int32.not_lt.mp c5, ?_⟩
    rw [i32_lt, e1]
    omega
theorem in_hole {x : Int32} {f len : Nat} (h18 : f + len ≤ 18) (h : nI f ≤ x ∧ x < nI (f + len)) : ∃ j, j < len ∧ x = nI (f + j) := by
  obtain ⟨h1, h2⟩ := h
  rw [i32_le, nI_toInt (by omega)] at h1
  rw [i32_lt, nI_toInt (by omega)] at h2
  refine ⟨x.toInt.toNat - f, by omega, ?_⟩
  rw [i32_eq, nI_toInt (by omega)]
  omega
theorem ss_sc (A : Nat → Nat → Int32) (k c f : Nat) (g net : Int32) : ∀ j, ssF (fun j => A 15 (18 * k + (f + j))) (fun j => gvF g (A 3 (18 * c + (f + j)))) net j = scF A k c g net f j
  | 0 => rfl
  | j + 1 => by
    unfold ssF scF
    rw [ss_sc A k c f g net j]
    by_cases e : net = 0
    · rw [if_pos e, if_pos e, Int32.sub_zero]
    · rw [if_neg e, if_neg e]
theorem pp_pt (A : Nat → Nat → Int32) (k c f : Nat) (g : Int32) (fm len : Nat) : ∀ j, j ≤ len → ppF (fun j => A 15 (18 * k + (f + j))) (fun j => gvF g (A 3 (18 * c + (f + j)))) (fun h => A 2 (18 * c + h)) f fm j = ptF A k c g (max fm f) (f + j - max fm f)
  | 0, _ => by
    show (0 : Int32) = _
    rw [show f + 0 - max fm f = 0 by omega]; rfl
  | j + 1, hj => by
    have ih := pp_pt A k c f g fm len j (by omega)
    unfold ppF
    rw [ih]
    by_cases h1 : f + j < fm
    · rw [if_pos h1, show f + (j + 1) - max fm f = f + j - max fm f by omega]
    · rw [if_neg h1, show f + (j + 1) - max fm f = (f + j - max fm f) + 1 by omega]
      show _ = ptF A k c g (max fm f) (f + j - max fm f) + pt1 (A 15 (18 * k + (max fm f + (f + j - max fm f)))) (A 2 (18 * c + (max fm f + (f + j - max fm f))) + 2 + gvF g (A 3 (18 * c + (max fm f + (f + j - max fm f)))) - A 15 (18 * k + (max fm f + (f + j - max fm f))))
      rw [show max fm f + (f + j - max fm f) = f + j by omega]
      unfold pt1
      by_cases h2 : A 15 (18 * k + (f + j)) ≤ 0
      · rw [if_pos h2, if_pos h2, Int32.add_zero]
      · rw [if_neg h2, if_neg h2]
        generalize A 2 (18 * c + (f + j)) + 2 + gvF g (A 3 (18 * c + (f + j))) - A 15 (18 * k + (f + j)) = v
        by_cases h3 : v < 0
        · rw [if_pos h3, if_pos (Int32.le_of_lt h3)]
        · rw [if_neg h3]
          by_cases h4 : v ≤ 0
          · rw [if_pos h4]
            have : v = 0 := by rw [i32_eq]; rw [i32_lt] at h3; rw [i32_le] at h4; omega
            rw [this]
          · rw [if_neg h4]
section Ops3
variable {z : ZS} {n R : Nat}
theorem op_makes (hS : Sim z n R) (pp day x : Int32) : Op2 i_X_makes i_M_makes [.int pp, .int day, .int x] z := by
  have hC := hS.2
  have hT := hC.1
  have t6 := hT.2.1
  obtain ⟨h60, hV, h6⟩ := hC.2.2.2.2.2.1
  by_cases hk : 0 ≤ pp ∧ pp ≤ 11
  · obtain ⟨p, hp, e⟩ := pl_in hk
    subst e
    by_cases hd : 0 ≤ day ∧ day ≤ 9999
    · obtain ⟨z1, rs, hC1, hK, ec, hI, st⟩ := pl_s 5 hS p hp
      obtain ⟨y, M, N, rb, rg, hN, hC2⟩ := gath 9 hp hC1 hI day
      have t61 := hC1.1.2.1
      have t62 := hC2.1.2.1
      have hB := hC1.1.2.2.2.2.2.2.2.2.2.2.1
      have tk := tkN_le (m20 (gP (pb (TA z) R (tpF (TA z) n p)) (TA z) (tpF (TA z) n p) day)) (by unfold m20; omega)
      have hK2 := Kp_t hK (bz_Kp z1 (nI (tkN (m20 (gP (pb (TA z) R (tpF (TA z) n p)) (TA z) (tpF (TA z) n p) day)))) M N)
      have em := c_mkN R hC.2.2.2.2.2.2.2.2.1 p day
      by_cases hx : 0 ≤ x ∧ x < nI (tkN (m20 (gP (pb (TA z) R (tpF (TA z) n p)) (TA z) (tpF (TA z) n p) day)))
      · obtain ⟨i, hi, e⟩ := lt_of_le1 (by omega) hx
        subst e
        have ei := c_mkI R hC.2.2.2.2.2.2.2.2.1 p day i hi
        refine ans hS hK2 hC2 (r := nI (mkI (fB (TA z) n R) (TA z) (oF (TA z 10) n) n (nI p) day i)) (rn_i (full := cd_79) t6.1 (ok_n rfl) rfl (fun K hK' => hK' 0 _ _ _ ⟨_, _, X_playerOf_ok 10 hT p hp, ⟨fun c2 => absurd c2 (by show ¬ 34 + p = 0; omega), fun c2 => ⟨_, _, X_isDay 9 z day, ⟨fun c6 => absurd hd (b1_t c6), fun c6 => ⟨⟨t6.1, t6.2.2.2.2.1⟩, ⟨⟨t6.1, t6.2.2.2.2.2.1⟩, ⟨_, _, rs, ⟨⟨t61.1, t61.2.2.2.2.2.1⟩, ⟨_, _, rb, ⟨_, _, rg, ⟨fun c15 => absurd c15 (nI_pos (by omega)), fun c15 => ⟨⟨t62.1, t62.2.2.2.2.2.1⟩, ⟨hB.1, ⟨fun c20 => ⟨⟨t62.1, t62.2.2.2.2.2.1⟩, ⟨⟨hB.1, hB.2.2.1⟩, ⟨⟨hB.2.2.2.2.1, ?_⟩, ⟨?_, rfl⟩⟩⟩⟩, fun c20 => absurd hx.2 c20⟩⟩⟩⟩⟩⟩⟩⟩⟩⟩⟩⟩⟩⟩)) (fun zz hW hw => ?_)
        · show vp_in (nI i) (ln z1 16)
          rw [hB.2.2.2.2.2]; exact vp_in_nI (by omega) (by decide)
        · show some (Value.int (N (nI i).toNatClampNeg)) = _
          rw [nI_clamp (by omega), hN i hi, ← ei]
        · have r := M_makes_ok 1 zz (VZ zz) (AZ zz) n R hW (nI p) day i ⟨hk, hd⟩ (by rw [fB_w hw, mkN_w hw, hw 10 (by decide), em]; exact hi)
          rw [fB_w hw, mkI_w hw, hw 10 (by decide)] at r
          exact r
      · refine fnd_s hS hK2 hC2 1 (rn_i (full := cd_79) t6.1 (ok_n rfl) rfl (fun K hK' => hK' 0 _ _ _ ⟨_, _, X_playerOf_ok 10 hT p hp, ⟨fun c2 => absurd c2 (by show ¬ 34 + p = 0; omega), fun c2 => ⟨_, _, X_isDay 9 z day, ⟨fun c6 => absurd hd (b1_t c6), fun c6 => ⟨⟨t6.1, t6.2.2.2.2.1⟩, ⟨⟨t6.1, t6.2.2.2.2.2.1⟩, ⟨_, _, rs, ⟨⟨t61.1, t61.2.2.2.2.2.1⟩, ⟨_, _, rb, ⟨_, _, rg, ⟨fun c15 => ⟨_, _, X_rN 9 hC2.1, rfl, rfl⟩, fun c15 => ⟨⟨t62.1, t62.2.2.2.2.2.1⟩, ⟨hB.1, ⟨fun c20 => absurd ⟨Int32.not_lt.mp c15, c20⟩ hx, fun c20 => ⟨_, _, X_rN 9 hC2.1, rfl, rfl⟩⟩⟩⟩⟩⟩⟩⟩⟩⟩⟩⟩⟩⟩⟩)) (fun zz hW hw => ?_)
        exact M_makes_none 1 zz (VZ zz) (AZ zz) n R hW (nI p) day x ⟨hk, hd⟩ (by rw [fB_w hw, mkN_w hw, hw 10 (by decide), em]; exact hx)
    · exact fnd0 hS 0 (rn_i (full := cd_79) t6.1 (ok_n rfl) rfl (fun K hK' => hK' 0 _ _ _ ⟨_, _, X_playerOf_ok 10 hT p hp, ⟨fun c2 => absurd c2 (by show ¬ 34 + p = 0; omega), fun c2 => ⟨_, _, X_isDay 9 z day, ⟨fun c6 => ⟨_, _, X_rB 9 hT, rfl, rfl⟩, fun c6 => absurd (b1_f c6) hd⟩⟩⟩⟩)) (fun zz hW hw => M_makes_bad 1 zz (VZ zz) (AZ zz) hW.1 _ day x (fun w => hd w.2))
  · exact fnd0 hS 0 (rn_i (full := cd_79) t6.1 (ok_n rfl) rfl (fun K hK' => hK' 0 _ _ _ ⟨_, _, X_playerOf_no 10 hT pp hk, ⟨fun c2 => ⟨_, _, X_rB 9 hT, rfl, rfl⟩, fun c2 => absurd rfl c2⟩⟩)) (fun zz hW hw => M_makes_bad 1 zz (VZ zz) (AZ zz) hW.1 pp day x (fun w => hk w.1))
theorem op_as (hS : Sim z n R) (k a : Int32) : Op2 i_X_as i_M_as [.int k, .int a] z := by
  have hC := hS.2
  have hT := hC.1
  have t6 := hT.2.1
  obtain ⟨h60, hV, h6⟩ := hC.2.2.2.2.2.1
  by_cases hk : 0 ≤ k ∧ k ≤ nI n - 1
  · obtain ⟨k0, hk0, e⟩ := card_in h60 hk
    subst e
    obtain ⟨b1, b2, b3, b4, b5, b6, b7, b8, b9, b10, b11, b12⟩ := hC.2.2.2.2.2.2.1.1 k0 hk0
    by_cases ha : 0 ≤ a ∧ a ≤ 2
    · by_cases h0 : a = 0 ∨ a = TA z 8 k0
      · refine ans0 hS (r := TA z 9 k0) (rn_i (full := cd_70) t6.1 (ok_n rfl) rfl (fun K hK' => hK' 0 _ _ _ ⟨_, _, X_cardOf_ok 10 hT n k0 h6 h60 hk0, ⟨fun c2 => absurd c2 (by show ¬ zP z 9 k0 = 0; omega), fun c2 => ⟨_, _, X_isWithin 10 z a 0 2, ⟨fun c6 => absurd ha (b1_t c6), fun c6 => ⟨fun c9 => ⟨b3, ⟨by rw [← b6]; rfl, rfl⟩⟩, fun c9 => ⟨b3, ⟨fun c13 => ⟨b3, ⟨by rw [← b6]; rfl, rfl⟩⟩, fun c13 => absurd (h0.resolve_left c9) (by rw [← b5]; exact c13)⟩⟩⟩⟩⟩⟩⟩)) (fun zz hW hw => by
          have r := M_as_ok 9 zz (VZ zz) (AZ zz) hW.1 k0 n hW.2.1 hk0 h60 a ha
          rw [if_pos (by rw [hw 8 (by decide)]; exact h0), if_pos (by rw [hw 8 (by decide)]; exact h0), hw 9 (by decide)] at r
          exact r)
      · refine fnd0 hS 2 (rn_i (full := cd_70) t6.1 (ok_n rfl) rfl (fun K hK' => hK' 0 _ _ _ ⟨_, _, X_cardOf_ok 10 hT n k0 h6 h60 hk0, ⟨fun c2 => absurd c2 (by show ¬ zP z 9 k0 = 0; omega), fun c2 => ⟨_, _, X_isWithin 10 z a 0 2, ⟨fun c6 => absurd ha (b1_t c6), fun c6 => ⟨fun c9 => absurd (Or.inl c9) h0, fun c9 => ⟨b3, ⟨fun c13 => absurd (Or.inr (by rw [← b5]; exact c13)) h0, fun c13 => ⟨_, _, X_rK 9 hT, rfl, rfl⟩⟩⟩⟩⟩⟩⟩⟩)) (fun zz hW hw => by
          have r := M_as_ok 9 zz (VZ zz) (AZ zz) hW.1 k0 n hW.2.1 hk0 h60 a ha
          rw [if_neg (by rw [hw 8 (by decide)]; exact h0), if_neg (by rw [hw 8 (by decide)]; exact h0)] at r
          exact r)
    · exact fnd0 hS 0 (rn_i (full := cd_70) t6.1 (ok_n rfl) rfl (fun K hK' => hK' 0 _ _ _ ⟨_, _, X_cardOf_ok 10 hT n k0 h6 h60 hk0, ⟨fun c2 => absurd c2 (by show ¬ zP z 9 k0 = 0; omega), fun c2 => ⟨_, _, X_isWithin 10 z a 0 2, ⟨fun c6 => ⟨_, _, X_rB 9 hT, rfl, rfl⟩, fun c6 => absurd (b1_f c6) ha⟩⟩⟩⟩)) (fun zz hW hw => M_as_bad 9 zz (VZ zz) (AZ zz) hW.1 _ a (fun w => ha w.2))
  · exact fnd0 hS 0 (rn_i (full := cd_70) t6.1 (ok_n rfl) rfl (fun K hK' => hK' 0 _ _ _ ⟨_, _, X_cardOf_no 10 hT n h6 h60 k hk, ⟨fun c2 => ⟨_, _, X_rB 9 hT, rfl, rfl⟩, fun c2 => absurd rfl c2⟩⟩)) (fun zz hW hw => M_as_bad 9 zz (VZ zz) (AZ zz) hW.1 k a (fun w => hk (by rw [hW.2.1] at w; exact w.1)))
theorem op_at (hS : Sim z n R) (k h : Int32) : Op2 i_X_at i_M_at [.int k, .int h] z := by
  have hC := hS.2
  have hT := hC.1
  have t6 := hT.2.1
  obtain ⟨h60, hV, h6⟩ := hC.2.2.2.2.2.1
  by_cases hk : 0 ≤ k ∧ k ≤ nI n - 1
  · obtain ⟨k0, hk0, e⟩ := card_in h60 hk
    subst e
    have hB := hC.2.2.2.2.2.2.1.1 k0 hk0
    obtain ⟨b1, b2, b3, b4, b5, b6, b7, b8, b9, b10, b11, b12⟩ := hB
    by_cases ha : TA z 8 k0 = 2
    · have h5 : zP z (zP z 9 k0) 5 = 0 := by
        rcases b12 with w | w
        · exact w.2
        · rcases w.1 with q | q <;> (rw [q] at ha; exact absurd ha (by decide))
      have fa : Rn 11 i_D_findingAtHole [.ref (zP z 9 k0), .int h] z (some (.int (-100003))) z := rn_i (full := cd_13) b3 (ok_n rfl) rfl (fun K hK => hK 0 _ _ _ ⟨b3, ⟨fun c2 => ⟨rfl, rfl⟩, fun c2 => absurd h5 c2⟩⟩)
      exact fnd0 hS 2 (rn_i (full := cd_71) t6.1 (ok_n rfl) rfl (fun K hK' => hK' 0 _ _ _ ⟨_, _, X_cardOf_ok 10 hT n k0 h6 h60 hk0, ⟨fun c2 => absurd c2 (by show ¬ zP z 9 k0 = 0; omega), fun c2 => ⟨_, _, fa, ⟨fun c6 => absurd c6 nzK, fun c6 => ⟨_, _, X_rK 9 hT, rfl, rfl⟩⟩⟩⟩⟩)) (fun zz hW hw => M_at_kind 9 zz (VZ zz) (AZ zz) hW.1 k0 n hW.2.1 hk0 h60 h (by rw [hw 8 (by decide)]; exact ha))
    · have hD := HC_DO0 hC.2.1 (hC.2.2.2.2.2.2.1.1 k0 hk0) ha
      obtain ⟨w1, ⟨k1, k2, k3⟩, w3, w4, w5, _⟩ := b12.resolve_left (fun w => ha w.1)
      have hfl : fsN (TA z) k0 ≤ lsN (TA z) k0 := by unfold lsN; omega
      have fa := D_findingAtHole 10 z _ _ _ _ _ hD (by rw [w5]; omega) h
      rw [show fsN (TA z) k0 + (lsN (TA z) k0 - fsN (TA z) k0) = lsN (TA z) k0 by omega] at fa
      by_cases hh : nI (fsN (TA z) k0) ≤ h ∧ h < nI (lsN (TA z) k0)
      · rw [if_pos hh] at fa
        obtain ⟨j, hj, e⟩ := in_hole (f := fsN (TA z) k0) (len := lsN (TA z) k0 - fsN (TA z) k0) (by omega) (by rw [show fsN (TA z) k0 + (lsN (TA z) k0 - fsN (TA z) k0) = lsN (TA z) k0 by omega]; exact hh)
        subst e
        exact ans0 hS (rn_i (full := cd_71) t6.1 (ok_n rfl) rfl (fun K hK' => hK' 0 _ _ _ ⟨_, _, X_cardOf_ok 10 hT n k0 h6 h60 hk0, ⟨fun c2 => absurd c2 (by show ¬ zP z 9 k0 = 0; omega), fun c2 => ⟨_, _, fa, ⟨fun c6 => ⟨_, _, D_shotsAt 10 z _ _ _ _ _ hD j hj, rfl, rfl⟩, fun c6 => absurd rfl c6⟩⟩⟩⟩)) (fun zz hW hw => by
          have r := M_at_ok 9 zz (VZ zz) (AZ zz) hW.1 k0 n hW.2.1 hk0 h60 (fsN (TA z) k0 + j) (by omega) (by rw [hw 8 (by decide)]; exact ha) (by rw [lastF_w hw, hw 12 (by decide), k1, k2]; exact hh)
          rw [hw 15 (by decide)] at r
          exact r)
      · rw [if_neg hh] at fa
        exact fnd0 hS 0 (rn_i (full := cd_71) t6.1 (ok_n rfl) rfl (fun K hK' => hK' 0 _ _ _ ⟨_, _, X_cardOf_ok 10 hT n k0 h6 h60 hk0, ⟨fun c2 => absurd c2 (by show ¬ zP z 9 k0 = 0; omega), fun c2 => ⟨_, _, fa, ⟨fun c6 => absurd c6 nzB, fun c6 => ⟨_, _, X_rB 9 hT, rfl, rfl⟩⟩⟩⟩⟩)) (fun zz hW hw => M_at_no 9 zz (VZ zz) (AZ zz) hW.1 k0 n hW.2.1 hk0 h60 h (by rw [hw 8 (by decide)]; exact ha) (by rw [lastF_w hw, hw 12 (by decide), k1, k2]; exact hh))
  · exact fnd0 hS 0 (rn_i (full := cd_71) t6.1 (ok_n rfl) rfl (fun K hK' => hK' 0 _ _ _ ⟨_, _, X_cardOf_no 10 hT n h6 h60 k hk, ⟨fun c2 => ⟨_, _, X_rB 9 hT, rfl, rfl⟩, fun c2 => absurd rfl c2⟩⟩)) (fun zz hW hw => M_at_bad 9 zz (VZ zz) (AZ zz) hW.1 k h (by rw [hW.2.1]; exact hk))
theorem op_adjusted (hS : Sim z n R) (k h : Int32) : Op2 i_X_adjusted i_M_adjusted [.int k, .int h] z := by
  have hC := hS.2
  have hT := hC.1
  have t6 := hT.2.1
  obtain ⟨h60, hV, h6⟩ := hC.2.2.2.2.2.1
  by_cases hk : 0 ≤ k ∧ k ≤ nI n - 1
  · obtain ⟨k0, hk0, e⟩ := card_in h60 hk
    subst e
    have hB := hC.2.2.2.2.2.2.1.1 k0 hk0
    obtain ⟨b1, b2, b3, b4, b5, b6, b7, b8, b9, b10, ⟨p, hp, e9, e2⟩, b12⟩ := hB
    by_cases ha : TA z 8 k0 = 2
    · have h5 : zP z (zP z 9 k0) 5 = 0 := by
        rcases b12 with w | w
        · exact w.2
        · rcases w.1 with q | q <;> (rw [q] at ha; exact absurd ha (by decide))
      have fa : Rn 11 i_D_findingAtHole [.ref (zP z 9 k0), .int h] z (some (.int (-100003))) z := rn_i (full := cd_13) b3 (ok_n rfl) rfl (fun K hK => hK 0 _ _ _ ⟨b3, ⟨fun c2 => ⟨rfl, rfl⟩, fun c2 => absurd h5 c2⟩⟩)
      exact fnd0 hS 2 (rn_i (full := cd_72) t6.1 (ok_n rfl) rfl (fun K hK' => hK' 0 _ _ _ ⟨_, _, X_cardOf_ok 10 hT n k0 h6 h60 hk0, ⟨fun c2 => absurd c2 (by show ¬ zP z 9 k0 = 0; omega), fun c2 => ⟨_, _, fa, ⟨fun c6 => absurd c6 nzK, fun c6 => ⟨_, _, X_rK 9 hT, rfl, rfl⟩⟩⟩⟩⟩)) (fun zz hW hw => M_adjusted_kind 1 zz (VZ zz) (AZ zz) n R hW k0 hk0 h (by rw [hw 8 (by decide)]; exact ha))
    · have hD := HC_DO0 hC.2.1 (hC.2.2.2.2.2.2.1.1 k0 hk0) ha
      obtain ⟨w1, ⟨k1, k2, k3⟩, w3, w4, w5, _⟩ := b12.resolve_left (fun w => ha w.1)
      have hfl : fsN (TA z) k0 ≤ lsN (TA z) k0 := by unfold lsN; omega
      have fa := D_findingAtHole 10 z _ _ _ _ _ hD (by rw [w5]; omega) h
      rw [show fsN (TA z) k0 + (lsN (TA z) k0 - fsN (TA z) k0) = lsN (TA z) k0 by omega] at fa
      by_cases hh : nI (fsN (TA z) k0) ≤ h ∧ h < nI (lsN (TA z) k0)
      · rw [if_pos hh] at fa
        obtain ⟨j, hj, e⟩ := in_hole (f := fsN (TA z) k0) (len := lsN (TA z) k0 - fsN (TA z) k0) (by omega) (by rw [show fsN (TA z) k0 + (lsN (TA z) k0 - fsN (TA z) k0) = lsN (TA z) k0 by omega]; exact hh)
        subst e
        by_cases hv : TA z 14 k0 = 0
        · obtain ⟨z1, rs, hC1, hK, ec, ⟨i1, i2, i3, i4⟩, _⟩ := own_s 5 hS k0 p hk0 hp e9 e2
          have hB1 := hC1.2.2.2.2.2.2.1.1 k0 hk0
          rw [ec] at hB1
          have hD1 := HC_DO' hC1.2.1 hB1 ha (i4 ha)
          obtain ⟨v1, v2, v3, v4, v5, _⟩ := hB1.2.2.2.2.2.2.2.2.2.2.2.resolve_left (fun w => ha w.1)
          have rj := D_adjustedAt 8 z1 _ _ _ _ _ _ _ _ _ hD1 _ v5 (CS_CO hC1.2.1 _ w3) (by omega) j hj
          rw [aj_ad] at rj
          refine ans hS hK hC1 (rn_i (full := cd_72) t6.1 (ok_n rfl) rfl (fun K hK' => hK' 0 _ _ _ ⟨_, _, X_cardOf_ok 10 hT n k0 h6 h60 hk0, ⟨fun c2 => absurd c2 (by show ¬ zP z 9 k0 = 0; omega), fun c2 => ⟨_, _, fa, ⟨fun c6 => ⟨b3, ⟨fun c8 => ⟨b3, ⟨⟨t6.1, t6.2.2.2.2.1⟩, ⟨⟨t6.1, t6.2.2.2.2.2.1⟩, ⟨_, _, rs, ⟨_, _, rj, rfl, rfl⟩⟩⟩⟩⟩, fun c8 => absurd (b10.trans hv) c8⟩⟩, fun c6 => absurd rfl c6⟩⟩⟩⟩)) (fun zz hW hw => ?_)
          have r := M_adjusted_ok 1 zz (VZ zz) (AZ zz) n R hW k0 (cN (TA z) k0) (fsN (TA z) k0 + j) hk0 w3 (by omega) (by rw [hw 11 (by decide)]; exact w4) (by rw [hw 8 (by decide)]; exact ha) (by rw [lastF_w hw, hw 12 (by decide), k1, k2]; exact hh) (by rw [hw 14 (by decide)]; exact hv)
          rw [fB_w hw, gfB_w hw, hw 10 (by decide), hw 15 (by decide), hw 2 (by decide), hw 3 (by decide), c_gf R hC.2.2.2.2.2.2.2.2.1 p k0 e9] at r
          exact r
        · exact fnd0 hS 5 (rn_i (full := cd_72) t6.1 (ok_n rfl) rfl (fun K hK' => hK' 0 _ _ _ ⟨_, _, X_cardOf_ok 10 hT n k0 h6 h60 hk0, ⟨fun c2 => absurd c2 (by show ¬ zP z 9 k0 = 0; omega), fun c2 => ⟨_, _, fa, ⟨fun c6 => ⟨b3, ⟨fun c8 => absurd (b10.symm.trans c8) hv, fun c8 => ⟨_, _, X_rV 9 hT, rfl, rfl⟩⟩⟩, fun c6 => absurd rfl c6⟩⟩⟩⟩)) (fun zz hW hw => M_adjusted_void 1 zz (VZ zz) (AZ zz) n R hW k0 hk0 _ (by rw [hw 8 (by decide)]; exact ha) (by rw [lastF_w hw, hw 12 (by decide), k1, k2]; exact hh) (by rw [hw 14 (by decide)]; exact hv))
      · rw [if_neg hh] at fa
        exact fnd0 hS 0 (rn_i (full := cd_72) t6.1 (ok_n rfl) rfl (fun K hK' => hK' 0 _ _ _ ⟨_, _, X_cardOf_ok 10 hT n k0 h6 h60 hk0, ⟨fun c2 => absurd c2 (by show ¬ zP z 9 k0 = 0; omega), fun c2 => ⟨_, _, fa, ⟨fun c6 => absurd c6 nzB, fun c6 => ⟨_, _, X_rB 9 hT, rfl, rfl⟩⟩⟩⟩⟩)) (fun zz hW hw => M_adjusted_no 1 zz (VZ zz) (AZ zz) n R hW k0 hk0 h (by rw [hw 8 (by decide)]; exact ha) (by rw [lastF_w hw, hw 12 (by decide), k1, k2]; exact hh))
  · exact fnd0 hS 0 (rn_i (full := cd_72) t6.1 (ok_n rfl) rfl (fun K hK' => hK' 0 _ _ _ ⟨_, _, X_cardOf_no 10 hT n h6 h60 k hk, ⟨fun c2 => ⟨_, _, X_rB 9 hT, rfl, rfl⟩, fun c2 => absurd rfl c2⟩⟩)) (fun zz hW hw => M_adjusted_bad 1 zz (VZ zz) (AZ zz) hW.1 k h (by rw [hW.2.1]; exact hk))
theorem op_score (hS : Sim z n R) (k net : Int32) : Op2 i_X_score i_M_score [.int k, .int net] z := by
  have hC := hS.2
  have hT := hC.1
  have t6 := hT.2.1
  obtain ⟨h60, hV, h6⟩ := hC.2.2.2.2.2.1
  by_cases hk : 0 ≤ k ∧ k ≤ nI n - 1
  · obtain ⟨k0, hk0, e⟩ := card_in h60 hk
    subst e
    have hB := hC.2.2.2.2.2.2.1.1 k0 hk0
    obtain ⟨b1, b2, b3, b4, b5, b6, b7, b8, b9, b10, ⟨p, hp, e9, e2⟩, b12⟩ := hB
    by_cases ha : TA z 8 k0 = 2
    · have h5 : zP z (zP z 9 k0) 5 = 0 := by
        rcases b12 with w | w
        · exact w.2
        · rcases w.1 with q | q <;> (rw [q] at ha; exact absurd ha (by decide))
      exact fnd0 hS 2 (rn_i (full := cd_82) t6.1 (ok_n rfl) rfl (fun K hK' => hK' 0 _ _ _ ⟨_, _, X_cardOf_ok 10 hT n k0 h6 h60 hk0, ⟨fun c2 => absurd c2 (by show ¬ zP z 9 k0 = 0; omega), fun c2 => ⟨b3, ⟨fun c6 => ⟨_, _, X_rK 9 hT, rfl, rfl⟩, fun c6 => absurd h5 c6⟩⟩⟩⟩)) (fun zz hW hw => M_score_kind 1 zz (VZ zz) (AZ zz) n R hW k0 hk0 net (by rw [hw 8 (by decide)]; exact ha))
    · have hD := HC_DO0 hC.2.1 (hC.2.2.2.2.2.2.1.1 k0 hk0) ha
      obtain ⟨w1, wCK, w3, w4, w5, _⟩ := b12.resolve_left (fun w => ha w.1)
      have h5 : ¬ zP z (zP z 9 k0) 5 = 0 := by rw [w5]; omega
      by_cases hok : ∀ j, j < lsN (TA z) k0 - fsN (TA z) k0 → 0 < TA z 15 (18 * k0 + (fsN (TA z) k0 + j))
      · obtain ⟨z1, rs, hC1, hK, ec, ⟨i1, i2, i3, i4⟩, _⟩ := own_s 5 hS k0 p hk0 hp e9 e2
        have hB1 := hC1.2.2.2.2.2.2.1.1 k0 hk0
        rw [ec] at hB1
        have hD1 := HC_DO' hC1.2.1 hB1 ha (i4 ha)
        have rj := D_shotsSum 8 z1 _ _ _ _ _ hD1 net
        rw [ss_sc] at rj
        refine ans hS hK hC1 (rn_i (full := cd_82) t6.1 (ok_n rfl) rfl (fun K hK' => hK' 0 _ _ _ ⟨_, _, X_cardOf_ok 10 hT n k0 h6 h60 hk0, ⟨fun c2 => absurd c2 (by show ¬ zP z 9 k0 = 0; omega), fun c2 => ⟨b3, ⟨fun c6 => absurd c6 h5, fun c6 => ⟨_, _, D_isScored_t 10 z _ _ _ _ _ hD hok, ⟨fun c10 => absurd c10 nz1, fun c10 => ⟨b3, ⟨⟨t6.1, t6.2.2.2.2.1⟩, ⟨⟨t6.1, t6.2.2.2.2.2.1⟩, ⟨_, _, rs, ⟨_, _, rj, rfl, rfl⟩⟩⟩⟩⟩⟩⟩⟩⟩⟩⟩)) (fun zz hW hw => ?_)
        have r := M_score_ok 1 zz (VZ zz) (AZ zz) n R hW k0 (cN (TA z) k0) hk0 w3 (by rw [hw 11 (by decide)]; exact w4) net (by rw [hw 8 (by decide)]; exact ha) (CK_w hw wCK) (by
          rw [fsN_w hw, lsN_w hw, hw 15 (by decide)]
          intro j hj
          have := hok j hj
          rw [i32_lt, show (0 : Int32).toInt = 0 by decide] at this
          rw [i32_le, show (1 : Int32).toInt = 1 by decide]; omega)
        rw [fB_w hw, gfB_w hw, hw 10 (by decide), scF_w hw, fsN_w hw, lsN_w hw, c_gf R hC.2.2.2.2.2.2.2.2.1 p k0 e9] at r
        exact r
      · obtain ⟨j0, hj0⟩ := Classical.not_forall.mp hok
        obtain ⟨hj1, hj2⟩ := Classical.not_imp.mp hj0
        refine fnd_s hS (Kp_r z) hC 1 (rn_i (full := cd_82) t6.1 (ok_n rfl) rfl (fun K hK' => hK' 0 _ _ _ ⟨_, _, X_cardOf_ok 10 hT n k0 h6 h60 hk0, ⟨fun c2 => absurd c2 (by show ¬ zP z 9 k0 = 0; omega), fun c2 => ⟨b3, ⟨fun c6 => absurd c6 h5, fun c6 => ⟨_, _, D_isScored_f 10 z _ _ _ _ _ hD j0 hj1 hj2, ⟨fun c10 => ⟨_, _, X_rN 9 hT, rfl, rfl⟩, fun c10 => absurd rfl c10⟩⟩⟩⟩⟩⟩)) (fun zz hW hw => ?_)
        exact M_score_none 1 zz (VZ zz) (AZ zz) n R hW k0 (cN (TA z) k0) hk0 w3 (by rw [hw 11 (by decide)]; exact w4) net (by rw [hw 8 (by decide)]; exact ha) (CK_w hw wCK) j0 (by rw [fsN_w hw, lsN_w hw]; exact hj1) (by
          rw [fsN_w hw, hw 15 (by decide)]
          intro w
          apply hj2
          rw [i32_le, show (1 : Int32).toInt = 1 by decide] at w
          rw [i32_lt, show (0 : Int32).toInt = 0 by decide]; omega)
  · exact fnd0 hS 0 (rn_i (full := cd_82) t6.1 (ok_n rfl) rfl (fun K hK' => hK' 0 _ _ _ ⟨_, _, X_cardOf_no 10 hT n h6 h60 k hk, ⟨fun c2 => ⟨_, _, X_rB 9 hT, rfl, rfl⟩, fun c2 => absurd rfl c2⟩⟩)) (fun zz hW hw => M_score_bad 1 zz (VZ zz) (AZ zz) hW.1 k net (by rw [hW.2.1]; exact hk))
theorem op_points (hS : Sim z n R) (k : Int32) : Op2 i_X_points i_M_points [.int k] z := by
  have hC := hS.2
  have hT := hC.1
  have t6 := hT.2.1
  obtain ⟨h60, hV, h6⟩ := hC.2.2.2.2.2.1
  by_cases hk : 0 ≤ k ∧ k ≤ nI n - 1
  · obtain ⟨k0, hk0, e⟩ := card_in h60 hk
    subst e
    have hB := hC.2.2.2.2.2.2.1.1 k0 hk0
    obtain ⟨b1, b2, b3, b4, b5, b6, b7, b8, b9, b10, ⟨p, hp, e9, e2⟩, b12⟩ := hB
    by_cases ha : TA z 8 k0 = 2
    · have h5 : zP z (zP z 9 k0) 5 = 0 := by
        rcases b12 with w | w
        · exact w.2
        · rcases w.1 with q | q <;> (rw [q] at ha; exact absurd ha (by decide))
      exact fnd0 hS 2 (rn_i (full := cd_83) t6.1 (ok_n rfl) rfl (fun K hK' => hK' 0 _ _ _ ⟨_, _, X_cardOf_ok 10 hT n k0 h6 h60 hk0, ⟨fun c2 => absurd c2 (by show ¬ zP z 9 k0 = 0; omega), fun c2 => ⟨b3, ⟨fun c6 => ⟨_, _, X_rK 9 hT, rfl, rfl⟩, fun c6 => absurd h5 c6⟩⟩⟩⟩)) (fun zz hW hw => M_points_kind 1 zz (VZ zz) (AZ zz) n R hW k0 hk0 (by rw [hw 8 (by decide)]; exact ha))
    · obtain ⟨w1, wCK, w3, w4, w5, _⟩ := b12.resolve_left (fun w => ha w.1)
      have h5 : ¬ zP z (zP z 9 k0) 5 = 0 := by rw [w5]; omega
      obtain ⟨z1, rs, hC1, hK, ec, ⟨i1, i2, i3, i4⟩, _⟩ := own_s 5 hS k0 p hk0 hp e9 e2
      have hB1 := hC1.2.2.2.2.2.2.1.1 k0 hk0
      rw [ec] at hB1
      have hD1 := HC_DO' hC1.2.1 hB1 ha (i4 ha)
      obtain ⟨v1, v2, v3, v4, v5, _⟩ := hB1.2.2.2.2.2.2.2.2.2.2.2.resolve_left (fun w => ha w.1)
      have hfl : fsN (TA z) k0 ≤ lsN (TA z) k0 := by unfold lsN; omega
      have rj := D_pointsFrom 8 z1 _ _ _ _ _ _ _ _ _ hD1 _ v5 (CS_CO hC1.2.1 _ w3) (by omega) 0 (by decide)
      rw [pp_pt _ _ _ _ _ _ _ _ (Nat.le_refl _), show fsN (TA z) k0 + (lsN (TA z) k0 - fsN (TA z) k0) = lsN (TA z) k0 by omega] at rj
      refine ans hS hK hC1 (rn_i (full := cd_83) t6.1 (ok_n rfl) rfl (fun K hK' => hK' 0 _ _ _ ⟨_, _, X_cardOf_ok 10 hT n k0 h6 h60 hk0, ⟨fun c2 => absurd c2 (by show ¬ zP z 9 k0 = 0; omega), fun c2 => ⟨b3, ⟨fun c6 => absurd c6 h5, fun c6 => ⟨b3, ⟨⟨t6.1, t6.2.2.2.2.1⟩, ⟨⟨t6.1, t6.2.2.2.2.2.1⟩, ⟨_, _, rs, ⟨_, _, rj, rfl, rfl⟩⟩⟩⟩⟩⟩⟩⟩⟩)) (fun zz hW hw => ?_)
      have r := M_points_ok 1 zz (VZ zz) (AZ zz) n R hW k0 (cN (TA z) k0) hk0 w3 (by rw [hw 11 (by decide)]; exact w4) (by rw [hw 8 (by decide)]; exact ha) (CK_w hw wCK)
      rw [fB_w hw, pfB_w hw, hw 10 (by decide)] at r
      unfold pfB at r
      rw [c_gf R hC.2.2.2.2.2.2.2.2.1 p k0 e9] at r
      exact r
  · exact fnd0 hS 0 (rn_i (full := cd_83) t6.1 (ok_n rfl) rfl (fun K hK' => hK' 0 _ _ _ ⟨_, _, X_cardOf_no 10 hT n h6 h60 k hk, ⟨fun c2 => ⟨_, _, X_rB 9 hT, rfl, rfl⟩, fun c2 => absurd rfl c2⟩⟩)) (fun zz hW hw => M_points_bad 1 zz (VZ zz) (AZ zz) hW.1 k (by rw [hW.2.1]; exact hk))
end Ops3
