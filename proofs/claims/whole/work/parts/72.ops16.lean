/-! Calls of both: right. Own work. -/
section Ops16
variable {z : ZS} {n R : Nat}
theorem op_right (hS : Sim z n R) (cc day v : Int32) : Op2 i_X_right i_M_right [.int cc, .int day, .int v] z := by
  have hC := hS.2
  have hT := hC.1
  have t6 := hT.2.1
  by_cases hk : 0 ≤ cc ∧ cc ≤ 3
  · obtain ⟨c, hc, e⟩ := co_in hk
    have nz : ¬ 22 + 3 * c = 0 := by omega
    have rco : Rn 11 i_X_courseOf [.ref 6, .int cc] z (some (.ref (22 + 3 * c))) z := by rw [e]; exact X_courseOf_ok 10 hT c hc
    by_cases hd : 0 ≤ day ∧ day ≤ 9999
    · by_cases hv : -1 ≤ v ∧ v ≤ 3
      · obtain ⟨g1, g2, g3, g4, g5⟩ := hC.2.2.1
        have h30 : R ≤ 30 := g2.2.2.2.2.2.2.2.2.1
        have vw1 := vl_VW g4
        have vw2 := rg_VW g5
        have ef : vlR (zI z 11) (zI z 12) (zI z 13) R = fun c d => rgF (TA z) c d R := funext (fun a => funext (fun b => g3 a b))
        rw [ef] at vw1
        have rv := G_valueFor 9 z R _ _ _ g2 cc day
        rw [g3 cc day] at rv
        by_cases hfull : rgF (TA z) cc day R = 0 ∧ ¬ v = 0 ∧ R = 30
        · obtain ⟨f1, f2, f3⟩ := hfull
          have rf := G_isFull 10 z R _ _ _ g2
          rw [if_pos (by omega)] at rf
          refine fnd0 hS 4 (rn_i (full := cd_61) t6.1 (ok_n rfl) rfl (fun K hK' => hK' 0 _ _ _ ⟨_, _, rco, ⟨fun c2 => absurd c2 nz, fun c2 => ⟨_, _, X_isDay 9 z day, ⟨fun c6 => absurd hd (b1_t c6), fun c6 => ⟨_, _, X_isWithin 10 z v (-1) 3, ⟨fun c10 => absurd hv (b1_t c10), fun c10 => ⟨⟨t6.1, t6.2.2.2.2.1⟩, ⟨_, _, rv, ⟨fun c15 => ⟨fun c16 => absurd c16 f2, fun c16 => ⟨⟨t6.1, t6.2.2.2.2.1⟩, ⟨_, _, rf, ⟨fun c23 => absurd c23 nz1, fun c23 => ⟨_, _, X_rF 9 hT, rfl, rfl⟩⟩⟩⟩⟩, fun c15 => absurd f1 c15⟩⟩⟩⟩⟩⟩⟩⟩⟩)) (fun zz hW hw => ?_)
          rw [f3] at hW f1
          exact M_right_full 9 zz (VZ zz) (AZ zz) hW.1 hW.2.2.2.1 cc day v ⟨hk, hd, hv⟩ (by rw [rgF_w hw]; exact f1) f2
        · obtain ⟨z1, rp, ⟨o1, o2, o3, o4, o5, o6⟩, p1, p2, p3⟩ := G_put 9 z R (fun c d => rgF (TA z) c d R) g2 g4 vw1 cc day v hfull
          have hFr : Fr (fun a _ => 10 ≤ a ∧ a < 14) (fun _ _ => False) z z1 := Kp_Fr o1 o3 o4 (fun a j w => o6 a j w) (fun a j _ => by rw [o5])
          have hKp : Kp z z1 := ⟨o1, o2, o3, o4, fun a j a1 a2 => ⟨o6 a j (by omega), by rw [o5]⟩⟩
          have hT1 : CT z1 := L_CT hFr (fun a j w q => by omega) (fun a j w => w.elim) hT
          have hK2 := Kp_t hKp (sz_Kp z1)
          have hw := sim_w hK2
          have vw3 : VW (AZ (szF z1 12) 4) (AZ (szF z1 12) 5) (AZ (szF z1 12) 6) R (fun c d => rgF (TA z) c d R) := by rw [hw 4 (by decide), hw 5 (by decide), hw 6 (by decide)]; exact vw2
          have rd3 : RD (AZ (szF z1 12) 4) (AZ (szF z1 12) 5) (AZ (szF z1 12) 6) R := by rw [hw 4 (by decide), hw 5 (by decide), hw 6 (by decide)]; exact g5
          obtain ⟨A', R1, q1, q2, q3, q4, q5, q6, q7, q8⟩ := md_right (AZ (szF z1 12)) R (fun c d => rgF (TA z) c d R) cc day v rd3 vw3
          rw [← q3] at p1 p2 p3
          have rm := M_right_ok 9 (szF z1 12) (VZ (szF z1 12)) (AZ (szF z1 12)) (Kp_MT hK2 hS.1) R (by rw [Kp_VZ hK2]; exact g1) h30 cc day v ⟨hk, hd, hv⟩ (by rw [rgF_w hw]; exact hfull) (fun nv => by
            by_cases e0 : rgF (TA z) cc day R = 0
            · rw [q7 e0]
              rcases Nat.lt_or_ge R 30 with w | w
              · exact w
              · exact absurd ⟨e0, nv, by omega⟩ hfull
            · have := (q8 e0).1
              have := (q8 e0).2
              omega)
          rw [← q1, ← q2, rgF_w hw] at rm
          have tA : ∀ q, (q < 16 ∧ q ≠ 7) → trw A' q = A' q := fun q hq => by unfold trw; rw [if_pos hq]
          have tO : ∀ q, (q < 16 ∧ q ≠ 7) → ¬ (q = 4 ∨ q = 5 ∨ q = 6) → trw A' q = TA z q := fun q hq h => by rw [tA q hq, q6 q h]; exact hw q hq
          have vl' := VW_vl p3
          have rg' : ∀ a b, rgF (trw A') a b R1 = fU (fun c d => rgF (TA z) c d R) cc day v a b := fun a b => VW_rg (A := trw A') (by rw [tA 4 (by decide), tA 5 (by decide), tA 6 (by decide)]; exact q5) a b
          have hC1 : Cls (szF z1 12) (trw A') (FZ z) (upd (VZ z) 4 (nI R1)) n R1 := by
            obtain ⟨v1, v2, v3, v4, v5⟩ := hC.2.2.2.2.2.2.2.1
            refine Cls_all hC hFr (fun a j w => Or.inl w) ?_ ⟨rfl, p1, fun a b => by rw [vl', rg'], p2, by rw [tA 4 (by decide), tA 5 (by decide), tA 6 (by decide)]; exact q4⟩ ⟨?_, by rw [tO 15 (by decide) (by decide)]; exact v2, by rw [tO 13 (by decide) (by decide)]; exact v3, fun a b => ?_, by rw [tO 14 (by decide) (by decide)]; exact v5⟩ (fun j a b => tO j (by omega) (by omega)) rfl rfl rfl
            · have g := L_CS hFr hT.1 (fun a j w q => by omega) (fun a j w => w.elim) hC.2.1
              unfold CS at g ⊢
              rw [tO 0 (by decide) (by decide), tO 1 (by decide) (by decide), tO 2 (by decide) (by decide), tO 3 (by decide) (by decide)]
              exact g
            · rw [tO 0 (by decide) (by decide), tO 1 (by decide) (by decide), tO 2 (by decide) (by decide)]
              exact v1
            · rw [rg']
              by_cases e : a = cc ∧ b = day
              · rw [e.1, e.2, fU_e]
                have := hv
                rw [i32_le, i32_le, show (-1 : Int32).toInt = -1 by decide, show (3 : Int32).toInt = 3 by decide] at this
                exact this
              · rw [fU_n e]; exact v4 a b
          refine op_g (Kp_MT hK2 hS.1) (r := rgF (TA z) cc day R) (V' := upd (VZ z) 4 (nI R1)) (A' := A') ?_ (by rw [Kp_VZ hK2] at rm ⊢; exact rm) hC1 rfl ?_ rfl rfl rfl rfl (by show (szF z1 12).1 ≤ _; rw [hK2.1]; exact Nat.le_add_right _ _) (by show (szF z1 12).2.1 ≤ _; rw [hK2.2.1]; exact Nat.le_add_right _ _)
          · have rf := G_isFull 10 z R _ _ _ g2
            have rms := X_makeAllStale 10 hT1
            refine rn_i (full := cd_61) t6.1 (ok_n rfl) rfl (fun K hK' => hK' 0 _ _ _ ⟨_, _, rco, ⟨fun c2 => absurd c2 nz, fun c2 => ⟨_, _, X_isDay 9 z day, ⟨fun c6 => absurd hd (b1_t c6), fun c6 => ⟨_, _, X_isWithin 10 z v (-1) 3, ⟨fun c10 => absurd hv (b1_t c10), fun c10 => ⟨⟨t6.1, t6.2.2.2.2.1⟩, ⟨_, _, rv, ⟨fun c15 => ⟨fun c16 => ⟨⟨t6.1, t6.2.2.2.2.1⟩, ⟨_, _, rp, ⟨_, _, rms, rfl, rfl⟩⟩⟩, fun c16 => ⟨⟨t6.1, t6.2.2.2.2.1⟩, ⟨_, _, rf, ⟨fun c23 => ⟨⟨t6.1, t6.2.2.2.2.1⟩, ⟨_, _, rp, ⟨_, _, rms, rfl, rfl⟩⟩⟩, fun c23 => absurd ⟨c15, c16, ?_⟩ hfull⟩⟩⟩⟩, fun c15 => ⟨⟨t6.1, t6.2.2.2.2.1⟩, ⟨_, _, rp, ⟨_, _, rms, rfl, rfl⟩⟩⟩⟩⟩⟩⟩⟩⟩⟩⟩⟩)
            have c23 : ¬ (if 30 ≤ R then (1 : Int32) else 0) = 0 := c23
            by_cases e : 30 ≤ R
            · omega
            · rw [if_neg e] at c23
              exact absurd rfl c23
          · rw [← Kp_FZ hK2]
            exact fzF_e (q6 17 (by decide)) (q6 7 (by decide)) (q6 16 (by decide))
      · exact fnd0 hS 0 (rn_i (full := cd_61) t6.1 (ok_n rfl) rfl (fun K hK' => hK' 0 _ _ _ ⟨_, _, rco, ⟨fun c2 => absurd c2 nz, fun c2 => ⟨_, _, X_isDay 9 z day, ⟨fun c6 => absurd hd (b1_t c6), fun c6 => ⟨_, _, X_isWithin 10 z v (-1) 3, ⟨fun c10 => ⟨_, _, X_rB 9 hT, rfl, rfl⟩, fun c10 => absurd (b1_f c10) hv⟩⟩⟩⟩⟩⟩)) (fun zz hW hw => M_right_bad 9 zz (VZ zz) (AZ zz) hW.1 cc day v (fun w => hv w.2.2))
    · exact fnd0 hS 0 (rn_i (full := cd_61) t6.1 (ok_n rfl) rfl (fun K hK' => hK' 0 _ _ _ ⟨_, _, rco, ⟨fun c2 => absurd c2 nz, fun c2 => ⟨_, _, X_isDay 9 z day, ⟨fun c6 => ⟨_, _, X_rB 9 hT, rfl, rfl⟩, fun c6 => absurd (b1_f c6) hd⟩⟩⟩⟩)) (fun zz hW hw => M_right_bad 9 zz (VZ zz) (AZ zz) hW.1 cc day v (fun w => hd w.2.1))
  · exact fnd0 hS 0 (rn_i (full := cd_61) t6.1 (ok_n rfl) rfl (fun K hK' => hK' 0 _ _ _ ⟨_, _, X_courseOf_no 10 hT cc hk, ⟨fun c2 => ⟨_, _, X_rB 9 hT, rfl, rfl⟩, fun c2 => absurd rfl c2⟩⟩)) (fun zz hW hw => M_right_bad 9 zz (VZ zz) (AZ zz) hW.1 cc day v (fun w => hk w.1))
end Ops16
