/-! Calls of both: count. Own work. -/
theorem cq_0 (b : Bk) (A : Nat → Nat → Int32) : ∀ k, cq (qC b A 0) k = nI k
  | 0 => rfl
  | k + 1 => by
    unfold cq
    rw [cq_0 b A k, if_pos (show qC b A 0 k = true from rfl), nI_succ]
theorem cq_e {q q' : Nat → Bool} : ∀ k, (∀ j, j < k → q j = q' j) → cq q k = cq q' k
  | 0, _ => by unfold cq; rfl
  | k + 1, h => by unfold cq; rw [cq_e k (fun j hj => h j (by omega)), h k (by omega)]
theorem qC_w {A A' : Nat → Nat → Int32} (h : AgW A A') (b : Bk) (w k : Nat) : qC b A' w k = qC b A w k := by
  unfold qC
  split <;> first | rfl | rw [h 14 (by decide)]
section Ops10
variable {z : ZS} {n R : Nat}
theorem cnt_run (hS : Sim z n R) (w : Nat) (hw : w = 1 ∨ w = 2 ∨ w = 3) : ∃ z', Rn 12 i_X_count [.ref 6, .int (nI w)] z (some (.int (cq (qC (fB (TA z) n R) (TA z) w) n))) z' ∧ Kp z z' ∧ Cls z' (TA z) (FZ z) (VZ z) n R := by
  have hC := hS.2
  have hT := hC.1
  have t6 := hT.2.1
  obtain ⟨h60, hV, h6⟩ := hC.2.2.2.2.2.1
  have wi : (nI w).toInt = (w : Int) := nI_toInt (by omega)
  have key : Rq 12 i_X_count [.ref 6, .int (nI w)] z (fun r z' => r = some (.int (cq (qC (fB (TA z) n R) (TA z) w) n)) ∧ Kp z z' ∧ Cls z' (TA z) (FZ z) (VZ z) n R) := by
    have in13 : (1 : Int32) ≤ nI w ∧ nI w ≤ 3 := ⟨nI_le (a := 1) (by omega) (by omega), nI_le (b := 3) (by omega) (by decide)⟩
    refine rq_i (full := cd_88) t6.1 (fun _ _ _ => ok_n rfl) rfl (fun K hK' => hK' 0 _ _ _ ⟨fun c1 => absurd (wi.symm.trans c1) (by omega), fun c1 => ⟨fun c4 => absurd (wi.symm.trans c4) (by omega), fun c4 => ⟨fun c8 => absurd (wi.symm.trans c8) (by omega), fun c8 => ⟨_, _, X_isWithin 10 z _ 1 3, ⟨fun c13 => absurd in13 (b1_t c13), fun c13 => ?_⟩⟩⟩⟩⟩)
    refine loop_up (P := fun k => ∀ (zz : ZS) (v4 : Value), Kp z zz → Cls zz (TA z) (FZ z) (VZ z) n R → zP zz 9 = zP z 9 → K 77 [.ref 6, .int (nI w), .int (cq (qC (fB (TA z) n R) (TA z) w) k), .int (nI k), v4] [] zz) n (fun k hk ih zz v4 hKz hCz ecz => ?_) 0 (by omega) z .null (Kp_r z) hC rfl
    have hTz := hCz.1
    have tz6 := hTz.2.1
    have hz6 : zI zz 6 3 = nI n := hCz.2.2.2.2.2.1.2.2
    by_cases hkn : k < n
    · have ih := ih hkn
      rw [nI_succ k] at ih
      have ck : (nI k).toNatClampNeg = k := nI_clamp (by omega)
      have t9 := hTz.2.2.2.2.1
      obtain ⟨d1, d2, d3, d4, d5, d6, d7, d8, d9, d10, ⟨p', hp', f9, f2⟩, d12⟩ := hCz.2.2.2.2.2.2.1.1 k hkn
      rw [ecz] at d1 d3 f2
      have vk : vp_in (nI k) (ln zz 9) := by rw [t9.2]; exact vp_in_nI (by omega) (by decide)
      have e9k : zP zz 9 (nI k).toNatClampNeg = zP z 9 k := by rw [ck, ecz]
      have tk : ¬ zP zz 9 (nI k).toNatClampNeg = 0 := by rw [e9k]; omega
      have tz5 : tg zz (zP zz 9 (nI k).toNatClampNeg) = 11 := by rw [e9k]; exact d3
      obtain ⟨z2, rs2, hC2, st2, hK2, ec2, ks2⟩ := Cls_settle 5 hCz p' hp'
      have ecz2 : zP z2 9 = zP z 9 := ec2.trans ecz
      have rs2 : Rn 11 i_P_settle [.ref (zP zz (zP zz 9 (nI k).toNatClampNeg) 2), .ref 10, .ref 14] zz none z2 := by rw [e9k, f2]; exact rs2
      obtain ⟨_, _, l3, _, _, _, _, _, _, l10, _⟩ := hC2.2.2.2.2.2.2.1.1 k hkn
      rw [ecz2] at l3 l10
      have hI := ((hC2.2.2.2.2.2.2.2.2.2 p' hp').2.2 st2).1 k (List.mem_reverse.mpr ((lpF_mem _ n p' k).mpr ⟨hkn, f9⟩))
      rw [ecz2] at hI
      obtain ⟨i1, i2, i3, _⟩ := hI
      obtain ⟨eb1, eb2, eb3⟩ := c_bk R hC.2.2.2.2.2.2.2.2.1 p' k f9
      obtain ⟨o1, o2, o3⟩ := tpF_ok (TA z) n p' h60
      have nos := (Cls_SC hC2 p' hp').2.2.2.2.2.2.2.2.2.2.2.2.2.2.1 (tpF (TA z) n p') o1 o2
      have i1 : zI z2 (zP z 9 k) 12 = orN ((pb (TA z) R (tpF (TA z) n p')).1 k) := i1
      have i2 : zI z2 (zP z 9 k) 13 = orN ((pb (TA z) R (tpF (TA z) n p')).2.1 k) := i2
      have i3 : zP z2 (zP z 9 k) 14 = idO (zP z 9) ((pb (TA z) R (tpF (TA z) n p')).2.2 k) := i3
      have m12 : zI z2 (zP z 9 k) 12 = -100002 ↔ (fB (TA z) n R).1 k = none := by rw [i1, eb1]; exact orN_ne (fun v hv => nos.1 k v hv)
      have m13 : zI z2 (zP z 9 k) 13 = -100002 ↔ (fB (TA z) n R).2.1 k = none := by rw [i2, eb2]; exact orN_ne (fun v hv => nos.2.1 k v hv)
      have m14 : zP z2 (zP z 9 k) 14 = 0 ↔ (fB (TA z) n R).2.2 k = none := by
        rw [i3, eb3]
        cases hj : (pb (TA z) R (tpF (TA z) n p')).2.2 k with
        | none => exact ⟨fun _ => rfl, fun _ => rfl⟩
        | some j =>
          refine ⟨fun q => ?_, fun q => by cases q⟩
          have q : zP z 9 j = 0 := q
          have := (CB_S hC.2.2.2.2.2.2.1).1 j (o1 j (pb_jn _ R _ k j hj))
          omega
      have b14 := hC.2.2.2.2.2.2.2.1.2.2.2.2 k hkn
      have rc : Rn 11 i_D_isCounted [.ref (zP zz 9 (nI k).toNatClampNeg), .int (nI w)] z2 (some (.int (if qC (fB (TA z) n R) (TA z) w k = true then 1 else 0))) z2 := by
        rw [e9k]
        rcases hw with e | e | e <;> subst e
        · refine rn_i (full := cd_15) l3 ok_b rfl (fun K hK => hK 0 _ _ _ ⟨fun c1 => ⟨l3, ⟨?_, rfl⟩⟩, fun c1 => absurd (show (nI 1).toInt = 1 by decide) c1⟩)
          show some (Value.int (zI z2 (zP z 9 k) 10)) = some (.int (if decide (¬ TA z 14 k = 0) = true then 1 else 0))
          rw [l10]
          rcases b14 with q | q
          · rw [q, if_neg (fun w : decide (¬ (0:Int32) = 0) = true => of_decide_eq_true w rfl)]
          · rw [q, if_pos (decide_eq_true nz1)]
        · refine rn_i (full := cd_15) l3 ok_b rfl (fun K hK => hK 0 _ _ _ ⟨fun c1 => absurd c1 (show ¬ (nI 2).toInt = 1 by decide), fun c1 => ⟨fun c4 => ⟨l3, ⟨fun c6 => ⟨?_, rfl⟩, fun c6 => ⟨?_, rfl⟩⟩⟩, fun c4 => absurd (show (nI 2).toInt = 1 + 1 by decide) c4⟩⟩)
          · show some (Value.int 0) = some (.int (if ((fB (TA z) n R).1 k).isSome = true then 1 else 0))
            rw [m12.mp c6]; rfl
          · show some (Value.int 1) = some (.int (if ((fB (TA z) n R).1 k).isSome = true then 1 else 0))
            rw [if_pos (Option.isSome_iff_ne_none.mpr (fun q => c6 (m12.mpr q)))]
        · have rw' := D_waits 9 z2 (zP z 9 k) l3
          refine rn_i (full := cd_15) l3 ok_b rfl (fun K hK => hK 0 _ _ _ ⟨fun c1 => absurd c1 (show ¬ (nI 3).toInt = 1 by decide), fun c1 => ⟨fun c4 => absurd c4 (show ¬ (nI 3).toInt = 1 + 1 by decide), fun c4 => ⟨fun c9 => ⟨_, _, rw', ⟨?_, rfl⟩⟩, fun c9 => absurd (show (nI 3).toInt = 1 + 1 + 1 by decide) c9⟩⟩⟩)
          show some (Value.int (if ¬ zI z2 (zP z 9 k) 13 = -100002 ∧ zP z2 (zP z 9 k) 14 = 0 then 1 else 0)) = some (.int (if decide (((fB (TA z) n R).2.1 k).isSome = true ∧ (fB (TA z) n R).2.2 k = none) = true then 1 else 0))
          congr 2
          by_cases q : ((fB (TA z) n R).2.1 k).isSome = true ∧ (fB (TA z) n R).2.2 k = none
          · rw [if_pos (decide_eq_true q), if_pos ⟨fun e => Option.isSome_iff_ne_none.mp q.1 (m13.mp e), m14.mpr q.2⟩]
          · rw [if_neg (fun w => q (of_decide_eq_true w)), if_neg (fun w => q ⟨Option.isSome_iff_ne_none.mpr (fun e => w.1 (m13.mpr e)), m14.mp w.2⟩)]
      refine hK' 26 _ _ _ ⟨tz6.1, ⟨fun c2 => absurd ?_ (nI_ge (a := k) (b := n) hkn (by omega)), fun c2 => ⟨⟨tz6.1, tz6.2.2.2.1⟩, ⟨⟨t9.1, vk⟩, ⟨fun c6 => absurd c6 tk, fun c6 => ⟨tz5, ⟨⟨tz6.1, tz6.2.2.2.2.1⟩, ⟨⟨tz6.1, tz6.2.2.2.2.2.1⟩, ⟨_, _, rs2, ⟨_, _, rc, ⟨fun c13 => ?_, fun c13 => ?_⟩⟩⟩⟩⟩⟩⟩⟩⟩⟩⟩
      · have c2 : zI zz 6 3 ≤ nI k := c2
        rw [hz6] at c2; exact c2
      · have g := ih z2 (.ref (zP zz 9 (nI k).toNatClampNeg)) (Kp_t hKz hK2) hC2 ecz2
        unfold cq at g
        rw [if_neg (b1_t c13)] at g
        exact g
      · have g := ih z2 (.ref (zP zz 9 (nI k).toNatClampNeg)) (Kp_t hKz hK2) hC2 ecz2
        unfold cq at g
        rw [if_pos (b1_f c13)] at g
        exact g
    · have : k = n := by omega
      subst this
      refine hK' 26 _ _ _ ⟨tz6.1, ⟨fun c2 => ⟨rfl, hKz, hCz⟩, fun c2 => absurd ?_ c2⟩⟩
      show zI zz 6 3 ≤ nI k
      rw [hz6]; exact Int32.le_refl _
  obtain ⟨r, z', rx, er, hK, hC'⟩ := key
  subst er
  exact ⟨z', rx, hK, hC'⟩
theorem op_count (hS : Sim z n R) (w : Int32) : Op2 i_X_count i_M_count [.int w] z := by
  have hC := hS.2
  have hT := hC.1
  have t6 := hT.2.1
  obtain ⟨h60, hV, h6⟩ := hC.2.2.2.2.2.1
  have conv : ∀ (zz : ZS) (q : Nat), AgW (TA z) (AZ zz) → cq (qC (fB (AZ zz) n R) (AZ zz) q) n = cq (qC (fB (TA z) n R) (TA z) q) n := fun zz q hw => cq_e n (fun j _ => by rw [fB_w hw, qC_w hw])
  by_cases hw5 : 0 ≤ w ∧ w ≤ 5
  · obtain ⟨j, hj, e⟩ := rng_nI (x := w) (N := 5) (by decide) hw5
    subst e
    rcases (show j = 0 ∨ j = 1 ∨ j = 2 ∨ j = 3 ∨ j = 4 ∨ j = 5 by omega) with e | e | e | e | e | e <;> subst e
    · refine ans hS (Kp_r z) hC (r := nI n) (rn_i (full := cd_88) t6.1 (ok_n rfl) rfl (fun K hK' => hK' 0 _ _ _ ⟨fun c1 => ⟨t6.1, ⟨by rw [← h6]; rfl, rfl⟩⟩, fun c1 => absurd (show (nI 0).toInt = 0 by decide) c1⟩)) (fun zz hW hw => ?_)
      have r := M_count_0 1 zz (VZ zz) (AZ zz) n R hW
      rw [cq_0] at r
      exact r
    · obtain ⟨z', rx, hK, hC'⟩ := cnt_run hS 1 (Or.inl rfl)
      exact ans hS hK hC' rx (fun zz hW hw => by have r := M_count_1 1 zz (VZ zz) (AZ zz) n R hW; rw [conv zz 1 hw] at r; exact r)
    · obtain ⟨z', rx, hK, hC'⟩ := cnt_run hS 2 (Or.inr (Or.inl rfl))
      exact ans hS hK hC' rx (fun zz hW hw => by have r := M_count_2 1 zz (VZ zz) (AZ zz) n R hW; rw [conv zz 2 hw] at r; exact r)
    · obtain ⟨z', rx, hK, hC'⟩ := cnt_run hS 3 (Or.inr (Or.inr rfl))
      exact ans hS hK hC' rx (fun zz hW hw => by have r := M_count_3 1 zz (VZ zz) (AZ zz) n R hW; rw [conv zz 3 hw] at r; exact r)
    · obtain ⟨⟨w0, w1, w2, w3, w4⟩, _⟩ := hC.2.2.2.1
      have t17 := hT.2.2.2.2.2.1
      refine op_q' hS.1 (Kp_r z) hC (r := VZ z 8) (rn_i (full := cd_88) t6.1 (ok_n rfl) rfl (fun K hK' => hK' 0 _ _ _ ⟨fun c1 => absurd c1 (show ¬ (nI 4).toInt = 0 by decide), fun c1 => ⟨fun c4 => ⟨⟨t6.1, t6.2.2.2.2.2.2.1⟩, ⟨t17.1, ⟨by rw [w2, ← w3]; rfl, rfl⟩⟩⟩, fun c4 => absurd (show (nI 4).toInt = 4 by decide) c4⟩⟩)) (M_count_4 1 z (VZ z) (AZ z) hS.1)
    · obtain ⟨_, t, u1, u2, u3, u4⟩ := hC.2.2.2.1
      have t19 := hT.2.2.2.2.2.2.1
      refine op_q' hS.1 (Kp_r z) hC (r := VZ z 19) (rn_i (full := cd_88) t6.1 (ok_n rfl) rfl (fun K hK' => hK' 0 _ _ _ ⟨fun c1 => absurd c1 (show ¬ (nI 5).toInt = 0 by decide), fun c1 => ⟨fun c4 => absurd c4 (show ¬ (nI 5).toInt = 4 by decide), fun c4 => ⟨fun c8 => ⟨⟨t6.1, t6.2.2.2.2.2.2.2.1⟩, ⟨t19.1, ⟨by rw [u2, ← u3]; rfl, rfl⟩⟩⟩, fun c8 => absurd (show (nI 5).toInt = 5 by decide) c8⟩⟩⟩)) (M_count_5 1 z (VZ z) (AZ z) hS.1)
  · have i0 : ¬ w.toInt = 0 := fun e => hw5 (by rw [i32_le, i32_le, e]; decide)
    have i4 : ¬ w.toInt = 4 := fun e => hw5 (by rw [i32_le, i32_le, e]; decide)
    have i5 : ¬ w.toInt = 5 := fun e => hw5 (by rw [i32_le, i32_le, e]; decide)
    have i13 : ¬ (1 ≤ w ∧ w ≤ 3) := fun q => hw5 (by
      have q1 := q.1
      have q2 := q.2
      rw [i32_le, show (1 : Int32).toInt = 1 by decide] at q1
      rw [i32_le, show (3 : Int32).toInt = 3 by decide] at q2
      rw [i32_le, i32_le, show (0 : Int32).toInt = 0 by decide, show (5 : Int32).toInt = 5 by decide]
      omega)
    exact fnd0 hS 0 (rn_i (full := cd_88) t6.1 (ok_n rfl) rfl (fun K hK' => hK' 0 _ _ _ ⟨fun c1 => absurd c1 i0, fun c1 => ⟨fun c4 => absurd c4 i4, fun c4 => ⟨fun c8 => absurd c8 i5, fun c8 => ⟨_, _, X_isWithin 10 z w 1 3, ⟨fun c13 => ⟨_, _, X_rB 9 hT, rfl, rfl⟩, fun c13 => absurd (b1_f c13) i13⟩⟩⟩⟩⟩)) (fun zz hW hw => M_count_bad 1 zz (VZ zz) (AZ zz) hW.1 w hw5)
end Ops10
