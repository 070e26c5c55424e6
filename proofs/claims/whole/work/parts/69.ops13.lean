/-! Calls of both: hole. Own work. -/
def hkF (z : ZS) (x : Nat) (r : Int32) (h : Nat) : Nat → ZS
  | 0 => z
  | k + 1 => if zI (hkF z x r h k) (x + 2) k = r then sI (hkF z x r h k) (x + 2) k (zI (hkF z x r h k) (x + 2) h) else hkF z x r h k
theorem hk_o (z : ZS) (x : Nat) (r : Int32) (h : Nat) : ∀ k, (hkF z x r h k).1 = z.1 ∧ (hkF z x r h k).2.1 = z.2.1 ∧ (hkF z x r h k).2.2.1 = z.2.2.1 ∧ (hkF z x r h k).2.2.2.1 = z.2.2.2.1 ∧ zP (hkF z x r h k) = zP z ∧ (∀ a j, a ≠ x + 2 → zI (hkF z x r h k) a j = zI z a j)
  | 0 => ⟨rfl, rfl, rfl, rfl, rfl, fun _ _ _ => rfl⟩
  | k + 1 => by
    obtain ⟨h1, h2, h3, h4, h5, h6⟩ := hk_o z x r h k
    unfold hkF
    by_cases e : zI (hkF z x r h k) (x + 2) k = r
    · rw [if_pos e]
      exact ⟨h1, h2, h3, h4, h5, fun a j ha => (sI_n (fun q => ha q.1)).trans (h6 a j ha)⟩
    · rw [if_neg e]
      exact ⟨h1, h2, h3, h4, h5, h6⟩
theorem rk_o (A : Nat → Nat → Int32) (c : Nat) (r had : Int32) : ∀ k, (∀ q, q ≠ 3 → rkF A c r had k q = A q) ∧ (∀ i, (i < 18 * c ∨ 18 * c + k ≤ i) → rkF A c r had k 3 i = A 3 i)
  | 0 => ⟨fun _ _ => rfl, fun _ _ => rfl⟩
  | k + 1 => by
    obtain ⟨h1, h2⟩ := rk_o A c r had k
    unfold rkF
    by_cases e : rkF A c r had k 3 (18 * c + k) = r
    · rw [if_pos e]
      exact ⟨fun q hq => (u2_n hq).trans (h1 q hq), fun i hi => by rw [u2_v, if_neg (by omega)]; exact h2 i (by omega)⟩
    · rw [if_neg e]
      exact ⟨h1, fun i hi => h2 i (by omega)⟩
theorem rk_h (A : Nat → Nat → Int32) (c : Nat) (r : Int32) (h : Nat) : ∀ k, rkF A c r (A 3 (18 * c + h)) k 3 (18 * c + h) = A 3 (18 * c + h)
  | 0 => rfl
  | k + 1 => by
    have ih := rk_h A c r h k
    unfold rkF
    by_cases e : rkF A c r (A 3 (18 * c + h)) k 3 (18 * c + k) = r
    · rw [if_pos e, u2_v]
      by_cases e2 : 3 = 3 ∧ 18 * c + h = 18 * c + k
      · rw [if_pos e2]
      · rw [if_neg e2]; exact ih
    · rw [if_neg e]; exact ih
theorem hk_r (z : ZS) (x c : Nat) (A : Nat → Nat → Int32) (r : Int32) (h : Nat) (hh : h < 18) (hz : ∀ j, j < 18 → zI z (x + 2) j = A 3 (18 * c + j)) : ∀ k, k ≤ 18 → ∀ j, j < 18 → zI (hkF z x r h k) (x + 2) j = rkF A c r (A 3 (18 * c + h)) k 3 (18 * c + j)
  | 0, _, j, hj => hz j hj
  | k + 1, hk, j, hj => by
    have ih := hk_r z x c A r h hh hz k (by omega)
    unfold hkF rkF
    have ek := ih k (by omega)
    by_cases e : rkF A c r (A 3 (18 * c + h)) k 3 (18 * c + k) = r
    · rw [if_pos e, if_pos (ek.trans e), ih h hh, rk_h, u2_v]
      by_cases e2 : j = k
      · rw [e2, sI_e, if_pos ⟨rfl, rfl⟩]
      · rw [sI_n (fun q => e2 q.2), if_neg (by omega)]; exact ih j hj
    · rw [if_neg e, if_neg (fun w => e (ek.symm.trans w))]; exact ih j hj
theorem trw_rk (A : Nat → Nat → Int32) (c : Nat) (r had : Int32) : ∀ k, trw (rkF A c r had k) = rkF (trw A) c r had k
  | 0 => by unfold rkF; rfl
  | k + 1 => by
    have ih := trw_rk A c r had k
    unfold rkF
    rw [← ih]
    have e3 : trw (rkF A c r had k) 3 (18 * c + k) = rkF A c r had k 3 (18 * c + k) := rfl
    by_cases e : rkF A c r had k 3 (18 * c + k) = r
    · rw [if_pos e, if_pos (e3.trans e), trw_u _ _ _ (by decide)]
    · rw [if_neg e, if_neg (fun w => e (e3.symm.trans w))]
theorem C_setHole (d : Nat) (z : ZS) (x : Nat) (hx : tg z x = 12) (h3 : zP z x 3 = x + 1) (h4 : zP z x 4 = x + 2) (t3 : tg z (x + 1) = 1 ∧ ln z (x + 1) = 18) (t4 : tg z (x + 2) = 1 ∧ ln z (x + 2) = 18) (h : Nat) (hh : h < 18) (p r : Int32) : Rn (d + 2) i_C_setHole [.ref x, .int (nI h), .int p, .int r] z none (sI (sI (hkF z x r h 18) (x + 2) h r) (x + 1) h p) := by
  have in18 : (0 : Int32) ≤ nI h ∧ nI h ≤ 17 := ⟨nI_le (a := 0) (by omega) (by omega), nI_le (b := 17) (by omega) (by decide)⟩
  have ch : (nI h).toNatClampNeg = h := nI_clamp (by omega)
  refine rn_i (full := cd_34) hx (ok_n rfl) rfl (fun K hK => hK 0 _ _ _ ⟨_, _, X_isHole d z (nI h), ⟨fun c2 => absurd in18 (b1_t c2), fun c2 => ?_⟩⟩)
  refine loop_up (P := fun k => K 11 [.ref x, .int (nI h), .int p, .int r, .int (nI k)] [] (hkF z x r h k)) 18 (fun k hk ih => ?_) 0 (by omega)
  obtain ⟨g1, g2, g3, g4, g5, g6⟩ := hk_o z x r h k
  have tx : tg (hkF z x r h k) x = 12 := by rw [show tg (hkF z x r h k) = tg z from g3]; exact hx
  have e4 : zP (hkF z x r h k) x 4 = x + 2 := by rw [g5]; exact h4
  have t4' : tg (hkF z x r h k) (zP (hkF z x r h k) x 4) = 1 := by rw [e4, show tg (hkF z x r h k) = tg z from g3]; exact t4.1
  have v4 : ∀ i, i < 18 → vp_in (nI i) (ln (hkF z x r h k) (zP (hkF z x r h k) x 4)) := fun i hi => by rw [e4, show ln (hkF z x r h k) = ln z from g4, t4.2]; exact vp_in_nI hi (by decide)
  by_cases hk8 : k < 18
  · have ih := ih hk8
    rw [nI_succ k] at ih
    have ck : (nI k).toNatClampNeg = k := nI_clamp (by omega)
    refine hK 6 _ _ _ ⟨fun c1 => absurd c1 (nI_ge (b := 18) hk8 (by decide)), fun c1 => ⟨tx, ⟨⟨t4', v4 k hk8⟩, ⟨fun c9 => ⟨tx, ⟨tx, ⟨⟨t4', v4 h hh⟩, ⟨⟨t4', v4 k hk8⟩, ?_⟩⟩⟩⟩, fun c9 => ?_⟩⟩⟩⟩
    · have c9 : zI (hkF z x r h k) (zP (hkF z x r h k) x 4) (nI k).toNatClampNeg = r := c9
      rw [e4, ck] at c9
      show K 11 [.ref x, .int (nI h), .int p, .int r, .int (nI k + 1)] [] (sI (hkF z x r h k) (zP (hkF z x r h k) x 4) (nI k).toNatClampNeg (zI (hkF z x r h k) (zP (hkF z x r h k) x 4) (nI h).toNatClampNeg))
      rw [e4, ck, ch]
      unfold hkF at ih
      rw [if_pos c9] at ih
      exact ih
    · have c9 : ¬ zI (hkF z x r h k) (zP (hkF z x r h k) x 4) (nI k).toNatClampNeg = r := c9
      rw [e4, ck] at c9
      unfold hkF at ih
      rw [if_neg c9] at ih
      exact ih
  · have : k = 18 := by omega
    subst this
    clear ih
    generalize hkF z x r h 18 = y at *
    have e3 : zP y x 3 = x + 1 := by rw [g5]; exact h3
    have t3' : tg y (zP y x 3) = 1 := by rw [e3, show tg y = tg z from g3]; exact t3.1
    have v3 : vp_in (nI h) (ln y (zP y x 3)) := by rw [e3, show ln y = ln z from g4, t3.2]; exact vp_in_nI hh (by decide)
    refine hK 6 _ _ _ ⟨fun c1 => ⟨tx, ⟨⟨t4', v4 h hh⟩, ⟨tx, ⟨⟨t3', v3⟩, ⟨rfl, ?_⟩⟩⟩⟩⟩, fun c1 => absurd (Int32.le_refl _) c1⟩
    show sI (sI y (zP y x 4) (nI h).toNatClampNeg r) (zP y x 3) (nI h).toNatClampNeg p = _
    rw [e4, e3, ch]
section Ops13
variable {z : ZS} {n R : Nat}
theorem op_hole (hS : Sim z n R) (cc hx p r : Int32) : Op2 i_X_hole i_M_hole [.int cc, .int hx, .int p, .int r] z := by
  have hC := hS.2
  have hT := hC.1
  have t6 := hT.2.1
  by_cases hk : 0 ≤ cc ∧ cc ≤ 3
  · obtain ⟨c, hc, e⟩ := co_in hk
    subst e
    have nz : ¬ 22 + 3 * c = 0 := by omega
    by_cases hh : 0 ≤ hx ∧ hx ≤ 17
    · by_cases hp : 3 ≤ p ∧ p ≤ 5
      · by_cases hr : 1 ≤ r ∧ r ≤ 18
        · obtain ⟨h, h18, e⟩ := ho_in hh
          subst e
          obtain ⟨s1, s2, s3, s4, s5, s6, s7, s8, s9, s10⟩ := hC.2.1 c hc
          have co := CS_CO hC.2.1 c hc
          have rr := C_rankAt 10 z (22 + 3 * c) _ _ _ _ co h h18
          have rs := C_setHole 9 z (22 + 3 * c) s1 (by rw [s2]; omega) (by rw [s3]; omega) (by rw [show 22 + 3 * c + 1 = 23 + 3 * c by omega]; exact s4) (by rw [show 22 + 3 * c + 2 = 24 + 3 * c by omega]; exact s5) h h18 p r
          rw [show 22 + 3 * c + 1 = 23 + 3 * c by omega, show 22 + 3 * c + 2 = 24 + 3 * c by omega] at rs
          obtain ⟨g1, g2, g3, g4, g5, g6⟩ := hk_o z (22 + 3 * c) r h 18
          have g7 := hk_r z (22 + 3 * c) c (TA z) r h h18 (fun j hj => by rw [show 22 + 3 * c + 2 = 24 + 3 * c by omega]; exact s10 j hj) 18 (by omega)
          rw [show 22 + 3 * c + 2 = 24 + 3 * c by omega] at g6 g7
          generalize hkF z (22 + 3 * c) r h 18 = y at *
          have o1 : ∀ a j, a ≠ 23 + 3 * c → a ≠ 24 + 3 * c → zI (sI (sI y (24 + 3 * c) h r) (23 + 3 * c) h p) a j = zI z a j := fun a j a1 a2 => ((sI_n (fun q => a1 q.1)).trans (sI_n (fun q => a2 q.1))).trans (g6 a j a2)
          have hFr : Fr (fun a _ => a = 23 + 3 * c ∨ a = 24 + 3 * c) (fun _ _ => False) z (sI (sI y (24 + 3 * c) h r) (23 + 3 * c) h p) := Kp_Fr g1 g3 g4 (fun a j w => o1 a j (fun q => w (Or.inl q)) (fun q => w (Or.inr q))) (fun a j _ => by show zP y a j = _; rw [g5])
          have hKp : Kp z (sI (sI y (24 + 3 * c) h r) (23 + 3 * c) h p) := ⟨g1, g2, g3, g4, fun a j a1 a2 => ⟨o1 a j (by omega) (by omega), by show zP y a j = _; rw [g5]⟩⟩
          have hT1 : CT (sI (sI y (24 + 3 * c) h r) (23 + 3 * c) h p) := L_CT hFr (fun a j w q => by omega) (fun a j w => w.elim) hT
          have k1 := (rk_o (TA z) c r (TA z 3 (18 * c + h)) 18).1
          have k2 := (rk_o (TA z) c r (TA z 3 (18 * c + h)) 18).2
          have y24 : ∀ c', c' < 4 → ∀ j, j < 18 → zI y (24 + 3 * c') j = rkF (TA z) c r (TA z 3 (18 * c + h)) 18 3 (18 * c' + j) := fun c' hc' j hj => by
            by_cases e : c' = c
            · rw [e]; exact g7 j hj
            · rw [g6 _ _ (by omega), k2 _ (by omega)]; exact (hC.2.1 c' hc').2.2.2.2.2.2.2.2.2 j hj
          have hC1 : Cls (szF (sI (sI y (24 + 3 * c) h r) (23 + 3 * c) h p) 12) (u2 (u2 (rkF (TA z) c r (TA z 3 (18 * c + h)) 18) 3 (18 * c + h) r) 2 (18 * c + h) p) (FZ z) (VZ z) n R := by
            obtain ⟨v1, v2, v3, v4, v5⟩ := hC.2.2.2.2.2.2.2.1
            generalize rkF (TA z) c r (TA z 3 (18 * c + h)) 18 = B at *
            have eA : ∀ q, q ≠ 2 → q ≠ 3 → u2 (u2 B 3 (18 * c + h) r) 2 (18 * c + h) p q = TA z q := fun q q1 q2 => by rw [u2_n q1, u2_n q2]; exact k1 q q2
            have g := L_RG (V := VZ z) (R := R) hFr hT.1 (fun a j w q => by omega) (fun a j w => w.elim) hC.2.2.1
            have rge := rgF_e (A := TA z) (A1 := u2 (u2 B 3 (18 * c + h) r) 2 (18 * c + h) p) (eA 4 (by decide) (by decide)) (eA 5 (by decide) (by decide)) (eA 6 (by decide) (by decide))
            refine Cls_all hC hFr (fun a j w => by omega) (fun c' hc' => ?_) ⟨g.1, g.2.1, fun a b => by rw [rge]; exact g.2.2.1 a b, g.2.2.2.1, by rw [eA 4 (by decide) (by decide), eA 5 (by decide) (by decide), eA 6 (by decide) (by decide)]; exact g.2.2.2.2⟩ ⟨fun c' hc' => ?_, by rw [eA 15 (by decide) (by decide)]; exact v2, by rw [eA 13 (by decide) (by decide)]; exact v3, fun a b => by rw [rge]; exact v4 a b, by rw [eA 14 (by decide) (by decide)]; exact v5⟩ (fun j a b => eA j (by omega) (by omega)) rfl rfl rfl
            · obtain ⟨q1, q2, q3, q4, q5, q6, q7, q8, q9, q10⟩ := hC.2.1 c' hc'
              have ez : ∀ a, tg (sI (sI y (24 + 3 * c) h r) (23 + 3 * c) h p) a = tg z a := fun a => congrFun g3 a
              have el : ∀ a, ln (sI (sI y (24 + 3 * c) h r) (23 + 3 * c) h p) a = ln z a := fun a => congrFun g4 a
              have ep : ∀ a j, zP (sI (sI y (24 + 3 * c) h r) (23 + 3 * c) h p) a j = zP z a j := fun a j => by show zP y a j = _; rw [g5]
              refine ⟨(ez _).trans q1, (ep _ _).trans q2, (ep _ _).trans q3, ⟨(ez _).trans q4.1, (el _).trans q4.2⟩, ⟨(ez _).trans q5.1, (el _).trans q5.2⟩, (o1 _ _ (by omega) (by omega)).trans q6, ?_, ?_, fun j hj => ?_, fun j hj => ?_⟩
              · rw [o1 _ _ (by omega) (by omega), eA 0 (by decide) (by decide)]; exact q7
              · rw [o1 _ _ (by omega) (by omega), eA 1 (by decide) (by decide)]; exact q8
              · rw [u2_v]
                by_cases e : c' = c ∧ j = h
                · rw [e.1, e.2, sI_e, if_pos ⟨rfl, rfl⟩]
                · rw [sI_n (by omega), sI_n (by omega), if_neg (by omega), u2_n (by decide), k1 2 (by decide), g6 _ _ (by omega)]; exact q9 j hj
              · rw [sI_n (by omega), u2_n (by decide), u2_v]
                by_cases e : c' = c ∧ j = h
                · rw [e.1, e.2, sI_e, if_pos ⟨rfl, rfl⟩]
                · rw [sI_n (by omega), if_neg (by omega)]; exact y24 c' hc' j hj
            · obtain ⟨q1, q2, q3⟩ := v1 c' hc'
              have p1 := hp
              rw [i32_le, i32_le, show (3 : Int32).toInt = 3 by decide, show (5 : Int32).toInt = 5 by decide] at p1
              refine ⟨by rw [eA 0 (by decide) (by decide)]; exact q1, by rw [eA 1 (by decide) (by decide)]; exact q2, fun j hj => ?_⟩
              rw [u2_v]
              by_cases e : 18 * c' + j = 18 * c + h
              · rw [if_pos ⟨rfl, e⟩]; exact p1
              · rw [if_neg (fun w => e w.2), u2_n (by decide), k1 2 (by decide)]; exact q3 j hj
          have hK2 := Kp_t hKp (sz_Kp _)
          generalize sI (sI y (24 + 3 * c) h r) (23 + 3 * c) h p = y1 at *
          refine op_g (Kp_MT hK2 hS.1) (r := TA z 3 (18 * c + h)) (V' := VZ z) (A' := u2 (u2 (rkF (AZ (szF y1 12)) c r (TA z 3 (18 * c + h)) 18) 3 (18 * c + h) r) 2 (18 * c + h) p) (rn_i (full := cd_60) t6.1 (ok_n rfl) rfl (fun K hK' => hK' 0 _ _ _ ⟨_, _, X_courseOf_ok 10 hT c hc, ⟨fun c2 => absurd c2 nz, fun c2 => ⟨_, _, X_isHole 10 z _, ⟨fun c6 => absurd hh (b1_t c6), fun c6 => ⟨_, _, X_isWithin 10 z p 3 5, ⟨fun c10 => absurd hp (b1_t c10), fun c10 => ⟨_, _, X_isWithin 10 z r 1 18, ⟨fun c14 => absurd hr (b1_t c14), fun c14 => ⟨_, _, rr, ⟨_, _, rs, ⟨_, _, X_makeAllStale 10 hT1, rfl, rfl⟩⟩⟩⟩⟩⟩⟩⟩⟩⟩⟩)) ?_ hC1 ?_ ?_ rfl rfl rfl rfl (by show (szF y1 12).1 ≤ _; rw [hK2.1]; exact Nat.le_add_right _ _) (by show (szF y1 12).2.1 ≤ _; rw [hK2.2.1]; exact Nat.le_add_right _ _)
          · have r := M_hole_ok 9 (szF y1 12) (VZ (szF y1 12)) (AZ (szF y1 12)) (Kp_MT hK2 hS.1) c h hc h18 p r hp hr
            rw [(sim_w hK2) 3 (by decide), Kp_VZ hK2] at r
            rw [Kp_VZ hK2]
            exact r
          · rw [trw_u _ _ _ (by decide), trw_u _ _ _ (by decide), trw_rk]
            exact congrArg (fun A => u2 (u2 (rkF A c r (TA z 3 (18 * c + h)) 18) 3 (18 * c + h) r) 2 (18 * c + h) p) (Kp_TA hK2)
          · rw [fz_u _ _ _ (by decide), fz_u _ _ _ (by decide), ← Kp_FZ hK2]
            have kk := (rk_o (AZ (szF y1 12)) c r (TA z 3 (18 * c + h)) 18).1
            exact fzF_e (kk 17 (by decide)) (kk 7 (by decide)) (kk 16 (by decide))
        · exact fnd0 hS 0 (rn_i (full := cd_60) t6.1 (ok_n rfl) rfl (fun K hK' => hK' 0 _ _ _ ⟨_, _, X_courseOf_ok 10 hT c hc, ⟨fun c2 => absurd c2 nz, fun c2 => ⟨_, _, X_isHole 10 z _, ⟨fun c6 => absurd hh (b1_t c6), fun c6 => ⟨_, _, X_isWithin 10 z p 3 5, ⟨fun c10 => absurd hp (b1_t c10), fun c10 => ⟨_, _, X_isWithin 10 z r 1 18, ⟨fun c14 => ⟨_, _, X_rB 9 hT, rfl, rfl⟩, fun c14 => absurd (b1_f c14) hr⟩⟩⟩⟩⟩⟩⟩⟩)) (fun zz hW hw => M_hole_bad 9 zz (VZ zz) (AZ zz) hW.1 _ hx p r (fun w => hr w.2.2.2))
      · exact fnd0 hS 0 (rn_i (full := cd_60) t6.1 (ok_n rfl) rfl (fun K hK' => hK' 0 _ _ _ ⟨_, _, X_courseOf_ok 10 hT c hc, ⟨fun c2 => absurd c2 nz, fun c2 => ⟨_, _, X_isHole 10 z _, ⟨fun c6 => absurd hh (b1_t c6), fun c6 => ⟨_, _, X_isWithin 10 z p 3 5, ⟨fun c10 => ⟨_, _, X_rB 9 hT, rfl, rfl⟩, fun c10 => absurd (b1_f c10) hp⟩⟩⟩⟩⟩⟩)) (fun zz hW hw => M_hole_bad 9 zz (VZ zz) (AZ zz) hW.1 _ hx p r (fun w => hp w.2.2.1))
    · exact fnd0 hS 0 (rn_i (full := cd_60) t6.1 (ok_n rfl) rfl (fun K hK' => hK' 0 _ _ _ ⟨_, _, X_courseOf_ok 10 hT c hc, ⟨fun c2 => absurd c2 nz, fun c2 => ⟨_, _, X_isHole 10 z _, ⟨fun c6 => ⟨_, _, X_rB 9 hT, rfl, rfl⟩, fun c6 => absurd (b1_f c6) hh⟩⟩⟩⟩)) (fun zz hW hw => M_hole_bad 9 zz (VZ zz) (AZ zz) hW.1 _ hx p r (fun w => hh w.2.1))
  · exact fnd0 hS 0 (rn_i (full := cd_60) t6.1 (ok_n rfl) rfl (fun K hK' => hK' 0 _ _ _ ⟨_, _, X_courseOf_no 10 hT cc hk, ⟨fun c2 => ⟨_, _, X_rB 9 hT, rfl, rfl⟩, fun c2 => absurd rfl c2⟩⟩)) (fun zz hW hw => M_hole_bad 9 zz (VZ zz) (AZ zz) hW.1 cc hx p r (fun w => hk w.1))
end Ops13
