/-! Calls of both: about course hole; all made stale. Own work. -/
def szF (z : ZS) : Nat → ZS
  | 0 => z
  | k + 1 => sI (szF z k) (34 + k) 2 1
theorem sz_o (z : ZS) : ∀ k, (szF z k).1 = z.1 ∧ (szF z k).2.1 = z.2.1 ∧ (szF z k).2.2.1 = z.2.2.1 ∧ (szF z k).2.2.2.1 = z.2.2.2.1 ∧ zP (szF z k) = zP z ∧ (∀ a j, zI (szF z k) a j = if (34 ≤ a ∧ a < 34 + k) ∧ j = 2 then 1 else zI z a j)
  | 0 => ⟨rfl, rfl, rfl, rfl, rfl, fun a j => by rw [if_neg (by omega)]; rfl⟩
  | k + 1 => by
    obtain ⟨h1, h2, h3, h4, h5, h6⟩ := sz_o z k
    refine ⟨h1, h2, h3, h4, h5, fun a j => ?_⟩
    show (if a = 34 + k ∧ j = 2 then (1 : Int32) else zI (szF z k) a j) = _
    by_cases e : a = 34 + k ∧ j = 2
    · rw [if_pos e, if_pos (by omega)]
    · rw [if_neg e, h6]
      by_cases e2 : (34 ≤ a ∧ a < 34 + k) ∧ j = 2
      · rw [if_pos e2, if_pos (by omega)]
      · rw [if_neg e2, if_neg (by omega)]
theorem sz_Fr (z : ZS) : Fr (fun a j => (34 ≤ a ∧ a < 46) ∧ j = 2) (fun _ _ => False) z (szF z 12) := by
  obtain ⟨h1, h2, h3, h4, h5, h6⟩ := sz_o z 12
  exact Kp_Fr h1 h3 h4 (fun a j w => by rw [h6, if_neg w]) (fun a j _ => by rw [h5])
theorem sz_Kp (z : ZS) : Kp z (szF z 12) := by
  obtain ⟨h1, h2, h3, h4, h5, h6⟩ := sz_o z 12
  exact ⟨h1, h2, h3, h4, fun a j a1 a2 => ⟨by rw [h6, if_neg (by omega)], by rw [h5]⟩⟩
theorem X_makeAllStale (d : Nat) {z : ZS} (hT : CT z) : Rn (d + 1) i_X_makeAllStale [.ref 6] z none (szF z 12) := by
  have t6 := hT.2.1
  have t8 := hT.2.2.2.1
  have e8 : nI (ln z 8) = nI 12 := by rw [t8.2.1]
  refine rn_i (full := cd_102) t6.1 (ok_n rfl) rfl (fun K hK => hK 0 _ _ _ ⟨⟨t6.1, t6.2.2.1⟩, ⟨?_, ?_⟩⟩)
  · show isAr (tg z 8)
    rw [t8.1]; decide
  · show K 10 [.ref 6, .ref 8, .int (nI (ln z 8)), .int (nI 0), .null] [] (szF z 0)
    rw [e8]
    refine loop_up (P := fun k => ∀ v : Value, K 10 [.ref 6, .ref 8, .int (nI 12), .int (nI k), v] [] (szF z k)) 12 (fun k hk ih v => ?_) 0 (by omega) .null
    obtain ⟨h1, h2, h3, h4, h5, h6⟩ := sz_o z k
    by_cases hkn : k < 12
    · have ih := ih hkn
      rw [nI_succ k] at ih
      have ck : (nI k).toNatClampNeg = k := nI_clamp (by omega)
      have ep : zP (szF z k) 8 (nI k).toNatClampNeg = 34 + k := by rw [ck, h5]; exact (t8.2.2 k hkn).1
      have tk : tg (szF z k) (zP (szF z k) 8 (nI k).toNatClampNeg) = 13 := by rw [ep, show tg (szF z k) = tg z from h3]; exact (t8.2.2 k hkn).2
      have t8' : tg (szF z k) 8 = 5 := by rw [show tg (szF z k) = tg z from h3]; exact t8.1
      have v8 : vp_in (nI k) (ln (szF z k) 8) := by rw [show ln (szF z k) = ln z from h4, t8.2.1]; exact vp_in_nI hkn (by decide)
      have g := ih (.ref (zP (szF z k) 8 (nI k).toNatClampNeg))
      have es : szF z (k + 1) = sI (szF z k) (zP (szF z k) 8 (nI k).toNatClampNeg) 2 1 := by rw [ep]; rfl
      rw [es] at g
      exact hK 8 _ _ _ ⟨fun c1 => absurd c1 (nI_ge hkn (by omega)), fun c1 => ⟨⟨t8', v8⟩, ⟨fun c4 => absurd c4 (by show ¬ zP (szF z k) 8 (nI k).toNatClampNeg = 0; rw [ep]; omega), fun c4 => ⟨⟨tk, Or.inr rfl⟩, g⟩⟩⟩⟩
    · have : k = 12 := by omega
      subst this
      exact hK 8 _ _ _ ⟨fun c1 => ⟨rfl, rfl⟩, fun c1 => absurd (Int32.le_refl _) c1⟩
theorem CB_A {z : ZS} {cid : Nat → Nat} {A A1 : Nat → Nat → Int32} {n : Nat} (h : ∀ j, 8 ≤ j → j < 16 → A1 j = A j) (hC : CB z cid A n) : CB z cid A1 n := by
  have e8 := h 8 (by omega) (by omega)
  have e9 := h 9 (by omega) (by omega)
  have e10 := h 10 (by omega) (by omega)
  have e11 := h 11 (by omega) (by omega)
  have e12 := h 12 (by omega) (by omega)
  have e13 := h 13 (by omega) (by omega)
  have e14 := h 14 (by omega) (by omega)
  have e15 := h 15 (by omega) (by omega)
  simp only [CB, BCx, CK, cN, lsN, fsN, lastF, e8, e9, e10, e11, e12, e13, e14, e15] at hC ⊢
  exact hC
theorem lpF_A {A A1 : Nat → Nat → Int32} (n p : Nat) (h9 : A1 9 = A 9) (h10 : A1 10 = A 10) : lpF A1 n p = lpF A n p := by
  have e : qp A1 (nI p) = qp A (nI p) := funext (fun k => by unfold qp; rw [h9])
  unfold lpF
  rw [e, h10]
theorem rgF_e {A A1 : Nat → Nat → Int32} (h4 : A1 4 = A 4) (h5 : A1 5 = A 5) (h6 : A1 6 = A 6) (c day : Int32) : ∀ k, rgF A1 c day k = rgF A c day k
  | 0 => by unfold rgF; rfl
  | k + 1 => by unfold rgF; rw [rgF_e h4 h5 h6 c day k, h4, h5, h6]
/-- courses or rights change: all is stale -/
theorem Cls_all {z z1 : ZS} {A A1 : Nat → Nat → Int32} {F V V1 : Nat → Int32} {n R R1 : Nat} {U : Nat → Nat → Prop} (hC : Cls z A F V n R) (hF : Fr U (fun _ _ => False) z z1) (hU : ∀ a j, U a j → (10 ≤ a ∧ a < 14) ∨ (22 ≤ a ∧ a < 34)) (hS1 : CS z1 A1) (hG1 : RG z1 A1 V1 R1) (hV1 : VD A1 n R1) (hA : ∀ j, 8 ≤ j → j < 16 → A1 j = A j) (e8 : V1 8 = V 8) (e10 : V1 10 = V 10) (e19 : V1 19 = V 19) : Cls (szF z1 12) A1 F V1 n R1 := by
  obtain ⟨c1, c2, c3, c4, c5, c6, c7, c8, c9, c10⟩ := hC
  have h75 := c1.1
  have hS := CB_S c7
  have h75' : 75 ≤ zn z1 := Nat.le_trans h75 hF.1
  have hF2 := Fr_t hF (sz_Fr z1)
  have e9 : zP (szF z1 12) 9 = zP z 9 := funext (fun j => hF2.2.2.2 9 j (by omega) (fun w => w.elim id id))
  have ui : ∀ a j, a < 75 → ¬ ((10 ≤ a ∧ a < 14) ∨ (22 ≤ a ∧ a < 46)) → zI (szF z1 12) a j = zI z a j := fun a j a1 a2 => hF2.2.2.1 a j (by omega) (fun w => a2 (by
    rcases w with w | w
    · have := hU a j w; omega
    · omega))
  have hU' : ∀ a j, (U a j ∨ ((34 ≤ a ∧ a < 46) ∧ j = 2)) → (10 ≤ a ∧ a < 14) ∨ (22 ≤ a ∧ a < 46) := fun a j w => by
    rcases w with w | w
    · have := hU a j w; omega
    · omega
  refine ⟨L_CT hF2 (fun a j w q => by have := hU' a j w; omega) (fun a j w => (w.elim id id).elim) c1, L_CS (sz_Fr z1) h75' (fun a j w q => by omega) (fun a j w => w.elim) hS1, L_RG (sz_Fr z1) h75' (fun a j w q => by omega) (fun a j w => w.elim) hG1, ?_, L_AN hF2 h75 (fun a j w q => by have := hU' a j w; omega) c5, ⟨c6.1, by rw [e10]; exact c6.2.1, by rw [ui 6 3 (by omega) (by omega)]; exact c6.2.2⟩, ?_, hV1, ?_, fun p hp => ?_⟩
  · have g := L_RW hF2 h75 (fun a j w q => by have := hU' a j w; omega) c4
    unfold RW at g ⊢
    rw [e8, e19]; exact g
  · rw [e9]
    refine CB_A hA (L_CB hF2 (fun k hk => ?_) c7)
    have := hS.1 k hk
    exact ⟨fun j _ _ _ _ w => by have := hU' _ j w; omega, fun _ j w => by have := hU' _ j w; omega, fun _ _ _ _ w => w.elim id id⟩
  · unfold DAY
    rw [hA 10 (by omega) (by omega)]; exact c9
  · rw [e9]
    obtain ⟨a1, a2, a3⟩ := c10 p hp
    have s1 : zI (szF z1 12) (34 + p) 2 = 1 := by rw [(sz_o z1 12).2.2.2.2.2, if_pos (by omega)]
    have lt : ∀ k, k ∈ lpF A n p → zP z 9 k < zn z := fun k hk => by
      have b2 := (c7.1 k ((lpF_mem A n p k).mp hk).1).2.1
      by_cases e : A 8 k = 2
      · rw [if_pos e] at b2; omega
      · rw [if_neg e] at b2; omega
    refine ⟨?_, Or.inr s1, fun w => absurd (s1.symm.trans w) nz1⟩
    rw [hF2.2.2.2 _ _ (by omega) (fun w => w.elim id id), lpF_A n p (hA 9 (by omega) (by omega)) (hA 10 (by omega) (by omega))]
    exact LK_F _ _ (fun k hk => hF2.2.2.2 _ _ (lt k hk) (fun w => w.elim id id)) a1
theorem trw_u {A : Nat → Nat → Int32} (q i : Nat) (v : Int32) (hq : q < 16 ∧ q ≠ 7) : trw (u2 A q i v) = u2 (trw A) q i v := by
  funext j l
  show (if j < 16 ∧ j ≠ 7 then u2 A q i v j else fun _ => 0) l = if j = q ∧ l = i then v else (if j < 16 ∧ j ≠ 7 then A j else fun _ => 0) l
  by_cases e : j < 16 ∧ j ≠ 7
  · rw [if_pos e, if_pos e]; rfl
  · rw [if_neg e, if_neg e, if_neg (by omega)]
theorem fz_u {A : Nat → Nat → Int32} (q i : Nat) (v : Int32) (hq : q < 16 ∧ q ≠ 7) : fzF (u2 A q i v) = fzF A := fzF_e (funext (fun l => if_neg (by omega))) (funext (fun l => if_neg (by omega))) (funext (fun l => if_neg (by omega)))
theorem u2_n {A : Nat → Nat → Int32} {q i j : Nat} {v : Int32} (h : j ≠ q) : u2 A q i v j = A j := funext (fun l => if_neg (fun w => h w.1))
theorem u2_v {A : Nat → Nat → Int32} {q i j l : Nat} {v : Int32} : u2 A q i v j l = if j = q ∧ l = i then v else A j l := rfl
section Ops12
variable {z : ZS} {n R : Nat}
theorem op_about (hS : Sim z n R) (cc w : Int32) : Op2 i_X_about i_M_about [.int cc, .int w] z := by
  have hC := hS.2
  have hT := hC.1
  have t6 := hT.2.1
  by_cases hk : 0 ≤ cc ∧ cc ≤ 3
  · obtain ⟨c, hc, e⟩ := co_in hk
    subst e
    have co := CS_CO hC.2.1 c hc
    have nz : ¬ 22 + 3 * c = 0 := by omega
    by_cases h1 : 100 ≤ w ∧ w ≤ 117
    · obtain ⟨h, hh, e⟩ : ∃ h, h < 18 ∧ w = nI (100 + h) := by
        obtain ⟨a, b⟩ := h1
        rw [i32_le, show (100 : Int32).toInt = 100 by decide] at a
        rw [i32_le, show (117 : Int32).toInt = 117 by decide] at b
        refine ⟨w.toInt.toNat - 100, by omega, ?_⟩
        rw [i32_eq, nI_toInt (by omega)]; omega
      subst e
      have eh : nI (100 + h) - 100 = nI h := by
        rw [show (100 : Int32) = nI 100 from rfl, ← nI_add]
        rw [Int32.add_comm]; exact Int32.add_sub_cancel _ _
      have rp := C_parAt 10 z (22 + 3 * c) _ _ _ _ co h hh
      rw [← eh] at rp
      exact ans0 hS (rn_i (full := cd_62) t6.1 (ok_n rfl) rfl (fun K hK' => hK' 0 _ _ _ ⟨_, _, X_courseOf_ok 10 hT c hc, ⟨fun c2 => absurd c2 nz, fun c2 => ⟨_, _, X_isWithin 10 z _ 100 117, ⟨fun c6 => absurd h1 (b1_t c6), fun c6 => ⟨_, _, rp, rfl, rfl⟩⟩⟩⟩⟩)) (fun zz hW hw => by
        have r := M_about_par 9 zz (VZ zz) (AZ zz) hW.1 c h hc hh
        rw [hw 2 (by decide)] at r
        exact r)
    · by_cases h2 : 200 ≤ w ∧ w ≤ 217
      · obtain ⟨h, hh, e⟩ : ∃ h, h < 18 ∧ w = nI (200 + h) := by
          obtain ⟨a, b⟩ := h2
          rw [i32_le, show (200 : Int32).toInt = 200 by decide] at a
          rw [i32_le, show (217 : Int32).toInt = 217 by decide] at b
          refine ⟨w.toInt.toNat - 200, by omega, ?_⟩
          rw [i32_eq, nI_toInt (by omega)]; omega
        subst e
        have eh : nI (200 + h) - 200 = nI h := by
          rw [show (200 : Int32) = nI 200 from rfl, ← nI_add]
          rw [Int32.add_comm]; exact Int32.add_sub_cancel _ _
        have rp := C_rankAt 10 z (22 + 3 * c) _ _ _ _ co h hh
        rw [← eh] at rp
        exact ans0 hS (rn_i (full := cd_62) t6.1 (ok_n rfl) rfl (fun K hK' => hK' 0 _ _ _ ⟨_, _, X_courseOf_ok 10 hT c hc, ⟨fun c2 => absurd c2 nz, fun c2 => ⟨_, _, X_isWithin 10 z _ 100 117, ⟨fun c6 => ⟨_, _, X_isWithin 10 z _ 200 217, ⟨fun c8 => absurd h2 (b1_t c8), fun c8 => ⟨_, _, rp, rfl, rfl⟩⟩⟩, fun c6 => absurd (b1_f c6) h1⟩⟩⟩⟩)) (fun zz hW hw => by
          have r := M_about_rank 9 zz (VZ zz) (AZ zz) hW.1 c h hc hh
          rw [hw 3 (by decide)] at r
          exact r)
      · have i0 : w.toInt = 0 ↔ w = 0 := by rw [i32_eq]; exact Iff.rfl
        have i1 : w.toInt = 0 + 1 ↔ w = 1 := by rw [i32_eq]; exact Iff.rfl
        have i2 : w.toInt = 0 + 1 + 1 ↔ w = 2 := by rw [i32_eq]; exact Iff.rfl
        have i3 : w.toInt = 0 + 1 + 1 + 1 ↔ w = 3 := by rw [i32_eq]; exact Iff.rfl
        have rx : ∀ (r : Int32) (z' : ZS), (w = 0 → r = TA z 0 c ∧ z' = z) → (¬ w = 0 → w = 1 → r = TA z 1 c ∧ z' = z) → (¬ w = 0 → ¬ w = 1 → w = 2 → r = parsF (TA z) c 18 ∧ z' = z) → (¬ w = 0 → ¬ w = 1 → ¬ w = 2 → w = 3 → r = parsF (TA z) c 9 ∧ z' = z) → (¬ w = 0 → ¬ w = 1 → ¬ w = 2 → ¬ w = 3 → r = -100001 ∧ z' = rfz z 0) → Rn 12 i_X_about [.ref 6, .int (nI c), .int w] z (some (.int r)) z' := by
          intro r z' k0 k1 k2 k3 k4
          have r18 := C_parsOfFirst 10 z (22 + 3 * c) _ _ _ _ co 18 (by decide)
          have r9 := C_parsOfFirst 10 z (22 + 3 * c) _ _ _ _ co 9 (by decide)
          rw [ps_pars] at r18 r9
          refine rn_i (full := cd_62) t6.1 (ok_n rfl) rfl (fun K hK' => hK' 0 _ _ _ ⟨_, _, X_courseOf_ok 10 hT c hc, ⟨fun c2 => absurd c2 nz, fun c2 => ⟨_, _, X_isWithin 10 z _ 100 117, ⟨fun c6 => ⟨_, _, X_isWithin 10 z _ 200 217, ⟨fun c8 => ⟨fun c9 => ⟨co.1, ?_⟩, fun c9 => ⟨fun c12 => ⟨co.1, ?_⟩, fun c12 => ⟨fun c15 => ⟨_, _, r18, ?_⟩, fun c15 => ⟨fun c18 => ⟨_, _, r9, ?_⟩, fun c18 => ⟨_, _, X_rB 9 hT, ?_⟩⟩⟩⟩⟩, fun c8 => absurd (b1_f c8) h2⟩⟩, fun c6 => absurd (b1_f c6) h1⟩⟩⟩⟩)
          · obtain ⟨q1, q2⟩ := k0 (i0.mp c9)
            rw [q1, q2, ← co.2.1]; exact ⟨rfl, rfl⟩
          · obtain ⟨q1, q2⟩ := k1 (fun q => c9 (i0.mpr q)) (i1.mp c12)
            rw [q1, q2, ← co.2.2.1]; exact ⟨rfl, rfl⟩
          · obtain ⟨q1, q2⟩ := k2 (fun q => c9 (i0.mpr q)) (fun q => c12 (i1.mpr q)) (i2.mp c15)
            rw [q1, q2]; exact ⟨rfl, rfl⟩
          · obtain ⟨q1, q2⟩ := k3 (fun q => c9 (i0.mpr q)) (fun q => c12 (i1.mpr q)) (fun q => c15 (i2.mpr q)) (i3.mp c18)
            rw [q1, q2]; exact ⟨rfl, rfl⟩
          · obtain ⟨q1, q2⟩ := k4 (fun q => c9 (i0.mpr q)) (fun q => c12 (i1.mpr q)) (fun q => c15 (i2.mpr q)) (fun q => c18 (i3.mpr q))
            rw [q1, q2]; exact ⟨rfl, rfl⟩
        have pe : ∀ (zz : ZS) k, AgW (TA z) (AZ zz) → parsF (AZ zz) c k = parsF (TA z) c k := fun zz k hw => by
          induction k with
          | zero => unfold parsF; rfl
          | succ k ih => unfold parsF; rw [ih, hw 2 (by decide)]
        by_cases w0 : w = 0
        · refine ans0 hS (rx (TA z 0 c) z (fun _ => ⟨rfl, rfl⟩) (fun q => absurd w0 q) (fun q => absurd w0 q) (fun q => absurd w0 q) (fun q => absurd w0 q)) (fun zz hW hw => ?_)
          have r := M_about_sw 9 zz (VZ zz) (AZ zz) hW.1 c hc w h1 h2
          rw [if_pos w0, if_pos (Or.inl w0), hw 0 (by decide)] at r
          exact r
        · by_cases w1 : w = 1
          · refine ans0 hS (rx (TA z 1 c) z (fun q => absurd q w0) (fun _ _ => ⟨rfl, rfl⟩) (fun _ q => absurd w1 q) (fun _ q => absurd w1 q) (fun _ q => absurd w1 q)) (fun zz hW hw => ?_)
            have r := M_about_sw 9 zz (VZ zz) (AZ zz) hW.1 c hc w h1 h2
            rw [if_neg w0, if_pos w1, if_pos (Or.inr (Or.inl w1)), hw 1 (by decide)] at r
            exact r
          · by_cases w2 : w = 2
            · refine ans0 hS (rx (parsF (TA z) c 18) z (fun q => absurd q w0) (fun _ q => absurd q w1) (fun _ _ _ => ⟨rfl, rfl⟩) (fun _ _ q => absurd w2 q) (fun _ _ q => absurd w2 q)) (fun zz hW hw => ?_)
              have r := M_about_sw 9 zz (VZ zz) (AZ zz) hW.1 c hc w h1 h2
              rw [if_neg w0, if_neg w1, if_pos w2, if_pos (Or.inr (Or.inr (Or.inl w2))), pe zz 18 hw] at r
              exact r
            · by_cases w3 : w = 3
              · refine ans0 hS (rx (parsF (TA z) c 9) z (fun q => absurd q w0) (fun _ q => absurd q w1) (fun _ _ q => absurd q w2) (fun _ _ _ _ => ⟨rfl, rfl⟩) (fun _ _ _ q => absurd w3 q)) (fun zz hW hw => ?_)
                have r := M_about_sw 9 zz (VZ zz) (AZ zz) hW.1 c hc w h1 h2
                rw [if_neg w0, if_neg w1, if_neg w2, if_pos w3, if_pos (Or.inr (Or.inr (Or.inr w3))), pe zz 9 hw] at r
                exact r
              · refine fnd0 hS 0 (rx (-100001) (rfz z 0) (fun q => absurd q w0) (fun _ q => absurd q w1) (fun _ _ q => absurd q w2) (fun _ _ _ q => absurd q w3) (fun _ _ _ _ => ⟨rfl, rfl⟩)) (fun zz hW hw => ?_)
                have r := M_about_sw 9 zz (VZ zz) (AZ zz) hW.1 c hc w h1 h2
                rw [if_neg w0, if_neg w1, if_neg w2, if_neg w3, if_neg (fun q => by rcases q with q | q | q | q; exact w0 q; exact w1 q; exact w2 q; exact w3 q)] at r
                exact r
  · exact fnd0 hS 0 (rn_i (full := cd_62) t6.1 (ok_n rfl) rfl (fun K hK' => hK' 0 _ _ _ ⟨_, _, X_courseOf_no 10 hT cc hk, ⟨fun c2 => ⟨_, _, X_rB 9 hT, rfl, rfl⟩, fun c2 => absurd rfl c2⟩⟩)) (fun zz hW hw => M_about_bad 9 zz (VZ zz) (AZ zz) hW.1 cc w hk)
theorem op_course (hS : Sim z n R) (cc r s : Int32) : Op2 i_X_course i_M_course [.int cc, .int r, .int s] z := by
  have hC := hS.2
  have hT := hC.1
  have t6 := hT.2.1
  by_cases hk : 0 ≤ cc ∧ cc ≤ 3
  · obtain ⟨c, hc, e⟩ := co_in hk
    subst e
    have nz : ¬ 22 + 3 * c = 0 := by omega
    have tc := (hC.2.1 c hc).1
    by_cases hr : 500 ≤ r ∧ r ≤ 800
    · by_cases hs : 55 ≤ s ∧ s ≤ 155
      · have hFr : Fr (fun a _ => a = 22 + 3 * c) (fun _ _ => False) z (sI (sI z (22 + 3 * c) 1 r) (22 + 3 * c) 2 s) := ⟨Nat.le_refl _, fun _ _ => ⟨rfl, rfl⟩, fun a j _ w => (sI_n (fun q => w q.1)).trans (sI_n (fun q => w q.1)), fun _ _ _ _ => rfl⟩
        have hKp : Kp z (sI (sI z (22 + 3 * c) 1 r) (22 + 3 * c) 2 s) := ⟨rfl, rfl, rfl, rfl, fun a j a1 a2 => ⟨(sI_n (by omega)).trans (sI_n (by omega)), rfl⟩⟩
        have hT1 : CT (sI (sI z (22 + 3 * c) 1 r) (22 + 3 * c) 2 s) := L_CT hFr (fun a j w q => by have w : a = 22 + 3 * c := w; omega) (fun a j w => w.elim) hT
        have hK2 := Kp_t hKp (sz_Kp _)
        have hC1 : Cls (szF (sI (sI z (22 + 3 * c) 1 r) (22 + 3 * c) 2 s) 12) (u2 (u2 (TA z) 0 c r) 1 c s) (FZ z) (VZ z) n R := by
          obtain ⟨v1, v2, v3, v4, v5⟩ := hC.2.2.2.2.2.2.2.1
          have g := L_RG (V := VZ z) (R := R) hFr hT.1 (fun a j w q => by have w : a = 22 + 3 * c := w; omega) (fun a j w => w.elim) hC.2.2.1
          have rge := rgF_e (A := TA z) (A1 := u2 (u2 (TA z) 0 c r) 1 c s) rfl rfl rfl
          refine Cls_all hC hFr (fun a j w => by have w : a = 22 + 3 * c := w; omega) (fun c' hc' => ?_) ⟨g.1, g.2.1, fun a b => by rw [rge]; exact g.2.2.1 a b, g.2.2.2.1, g.2.2.2.2⟩ ⟨fun c' hc' => ?_, v2, v3, fun a b => by rw [rge]; exact v4 a b, v5⟩ (fun j a b => by rw [u2_n (by omega), u2_n (by omega)]) rfl rfl rfl
          · obtain ⟨s1, s2, s3, s4, s5, s6, s7, s8, s9, s10⟩ := hC.2.1 c' hc'
            refine ⟨s1, s2, s3, s4, s5, ((sI_n (by omega)).trans (sI_n (by omega))).trans s6, ?_, ?_, fun h hh => ((sI_n (by omega)).trans (sI_n (by omega))).trans (s9 h hh), fun h hh => ((sI_n (by omega)).trans (sI_n (by omega))).trans (s10 h hh)⟩
            · by_cases e : c' = c
              · subst e
                rw [sI_n (by omega), sI_e, u2_n (by omega), u2_v, if_pos ⟨rfl, rfl⟩]
              · rw [sI_n (by omega), sI_n (by omega), u2_n (by omega), u2_v, if_neg (by omega)]; exact s7
            · by_cases e : c' = c
              · subst e
                rw [sI_e, u2_v, if_pos ⟨rfl, rfl⟩]
              · rw [sI_n (by omega), sI_n (by omega), u2_v, if_neg (by omega), u2_n (by omega)]; exact s8
          · obtain ⟨q1, q2, q3⟩ := v1 c' hc'
            have r1 := hr
            have s1 := hs
            rw [i32_le, i32_le, show (500 : Int32).toInt = 500 by decide, show (800 : Int32).toInt = 800 by decide] at r1
            rw [i32_le, i32_le, show (55 : Int32).toInt = 55 by decide, show (155 : Int32).toInt = 155 by decide] at s1
            refine ⟨?_, ?_, q3⟩
            · rw [u2_n (by omega), u2_v]
              by_cases e : c' = c
              · rw [if_pos ⟨rfl, e⟩]; exact r1
              · rw [if_neg (by omega)]; exact q1
            · rw [u2_v]
              by_cases e : c' = c
              · rw [if_pos ⟨rfl, e⟩]; exact s1
              · rw [if_neg (by omega), u2_n (by omega)]; exact q2
        refine op_g (Kp_MT hK2 hS.1) (r := 1) (V' := VZ z) (A' := u2 (u2 (AZ (szF (sI (sI z (22 + 3 * c) 1 r) (22 + 3 * c) 2 s) 12)) 0 c r) 1 c s) (rn_i (full := cd_59) t6.1 (ok_n rfl) rfl (fun K hK' => hK' 0 _ _ _ ⟨_, _, X_courseOf_ok 10 hT c hc, ⟨fun c2 => absurd c2 nz, fun c2 => ⟨_, _, X_isWithin 10 z r 500 800, ⟨fun c6 => absurd hr (b1_t c6), fun c6 => ⟨_, _, X_isWithin 10 z s 55 155, ⟨fun c10 => absurd hs (b1_t c10), fun c10 => ⟨tc, ⟨tc, ⟨_, _, X_makeAllStale 10 hT1, rfl, rfl⟩⟩⟩⟩⟩⟩⟩⟩⟩)) ?_ hC1 ?_ ?_ rfl rfl rfl rfl (by show (szF _ 12).1 ≤ _; rw [hK2.1]; exact Nat.le_add_right _ _) (by show (szF _ 12).2.1 ≤ _; rw [hK2.2.1]; exact Nat.le_add_right _ _)
        · have r := M_course_ok 9 (szF (sI (sI z (22 + 3 * c) 1 r) (22 + 3 * c) 2 s) 12) (VZ (szF (sI (sI z (22 + 3 * c) 1 r) (22 + 3 * c) 2 s) 12)) (AZ (szF (sI (sI z (22 + 3 * c) 1 r) (22 + 3 * c) 2 s) 12)) (Kp_MT hK2 hS.1) c hc r s hr hs
          rw [Kp_VZ hK2] at r ⊢
          exact r
        · rw [trw_u _ _ _ (by decide), trw_u _ _ _ (by decide)]
          exact congrArg (fun A => u2 (u2 A 0 c r) 1 c s) (Kp_TA hK2)
        · rw [fz_u _ _ _ (by decide), fz_u _ _ _ (by decide)]
          exact Kp_FZ hK2
      · exact fnd0 hS 0 (rn_i (full := cd_59) t6.1 (ok_n rfl) rfl (fun K hK' => hK' 0 _ _ _ ⟨_, _, X_courseOf_ok 10 hT c hc, ⟨fun c2 => absurd c2 nz, fun c2 => ⟨_, _, X_isWithin 10 z r 500 800, ⟨fun c6 => absurd hr (b1_t c6), fun c6 => ⟨_, _, X_isWithin 10 z s 55 155, ⟨fun c10 => ⟨_, _, X_rB 9 hT, rfl, rfl⟩, fun c10 => absurd (b1_f c10) hs⟩⟩⟩⟩⟩⟩)) (fun zz hW hw => M_course_bad 9 zz (VZ zz) (AZ zz) hW.1 _ r s (fun w => hs w.2.2))
    · exact fnd0 hS 0 (rn_i (full := cd_59) t6.1 (ok_n rfl) rfl (fun K hK' => hK' 0 _ _ _ ⟨_, _, X_courseOf_ok 10 hT c hc, ⟨fun c2 => absurd c2 nz, fun c2 => ⟨_, _, X_isWithin 10 z r 500 800, ⟨fun c6 => ⟨_, _, X_rB 9 hT, rfl, rfl⟩, fun c6 => absurd (b1_f c6) hr⟩⟩⟩⟩)) (fun zz hW hw => M_course_bad 9 zz (VZ zz) (AZ zz) hW.1 _ r s (fun w => hr w.2.1))
  · exact fnd0 hS 0 (rn_i (full := cd_59) t6.1 (ok_n rfl) rfl (fun K hK' => hK' 0 _ _ _ ⟨_, _, X_courseOf_no 10 hT cc hk, ⟨fun c2 => ⟨_, _, X_rB 9 hT, rfl, rfl⟩, fun c2 => absurd rfl c2⟩⟩)) (fun zz hW hw => M_course_bad 9 zz (VZ zz) (AZ zz) hW.1 cc r s (fun w => hk w.1))
end Ops12
