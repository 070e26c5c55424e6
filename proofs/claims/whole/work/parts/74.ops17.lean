/-! Calls of both: strike. Own work. -/
theorem CS_A {z : ZS} {A A1 : Nat → Nat → Int32} (h : ∀ q, q < 7 → A1 q = A q) (hC : CS z A) : CS z A1 := by
  unfold CS at hC ⊢
  rw [h 0 (by omega), h 1 (by omega), h 2 (by omega), h 3 (by omega)]
  exact hC
theorem RG_A {z : ZS} {A A1 : Nat → Nat → Int32} {V : Nat → Int32} {R : Nat} (h : ∀ q, q < 7 → A1 q = A q) (hC : RG z A V R) : RG z A1 V R := by
  obtain ⟨g1, g2, g3, g4, g5⟩ := hC
  exact ⟨g1, g2, fun a b => by rw [rgF_e (h 4 (by omega)) (h 5 (by omega)) (h 6 (by omega))]; exact g3 a b, g4, by rw [h 4 (by omega), h 5 (by omega), h 6 (by omega)]; exact g5⟩
theorem CB_ne {z : ZS} {cid : Nat → Nat} {A : Nat → Nat → Int32} {n : Nat} (hB : CB z cid A n) {j k : Nat} (hj : j < n) (hk : k < n) (ne : j ≠ k) : cid j + 2 ≤ cid k ∨ cid k + 2 ≤ cid j := by
  rcases Nat.lt_or_gt_of_ne ne with w | w
  · have := hB.2 j k w hk
    left; split at this <;> omega
  · have := hB.2 k j w hj
    right; split at this <;> omega
theorem CB_ne3 {z : ZS} {cid : Nat → Nat} {A : Nat → Nat → Int32} {n : Nat} (hB : CB z cid A n) {j k : Nat} (hj : j < n) (hk : k < n) (h2 : ¬ A 8 k = 2) : cid k + 2 ≠ cid j := fun w => by
  by_cases e : j = k
  · subst e; omega
  · rcases Nat.lt_or_gt_of_ne e with q | q
    · have := hB.2 j k q hk
      split at this <;> omega
    · have := hB.2 k j q hj
      rw [if_neg h2] at this
      omega
section Ops17
variable {z : ZS} {n R : Nat}
theorem op_strike (hS : Sim z n R) (kk v : Int32) (hv : v = 0 ∨ v = 1) : Op2 i_X_strike i_M_strike [.int kk, .int v] z := by
  have hC := hS.2
  have hT := hC.1
  have t6 := hT.2.1
  obtain ⟨h60, hV, h6⟩ := hC.2.2.2.2.2.1
  by_cases hk : 0 ≤ kk ∧ kk ≤ nI n - 1
  · obtain ⟨k, hk0, e⟩ := card_in h60 hk
    subst e
    have hB := hC.2.2.2.2.2.2.1
    obtain ⟨b1, b2, b3, b4, b5, b6, b7, b8, b9, b10, ⟨p, hp, e9, e2⟩, b12⟩ := hB.1 k hk0
    have nz : ¬ zP z 9 k = 0 := by omega
    by_cases hq : TA z 14 k = v
    · refine ans0 hS (r := 0) (rn_i (full := cd_68) t6.1 (ok_n rfl) rfl (fun K hK' => hK' 0 _ _ _ ⟨_, _, X_cardOf_ok 10 hT n k h6 h60 hk0, ⟨fun c2 => absurd c2 nz, fun c2 => ⟨b3, ⟨fun c6 => ⟨rfl, rfl⟩, fun c6 => absurd (b10.trans hq) c6⟩⟩⟩⟩)) (fun zz hW hw => ?_)
      have r := M_strike_ok 9 zz (VZ zz) (AZ zz) hW.1 k n hW.2.1 hk0 h60 v hv
      have eA : u2 (AZ zz) 14 k v = AZ zz := by
        funext a b
        rw [u2_v]
        by_cases e : a = 14 ∧ b = k
        · rw [if_pos e, e.1, e.2, hw 14 (by decide)]; exact hq.symm
        · rw [if_neg e]
      rw [eA, if_pos (by rw [hw 14 (by decide)]; exact hq)] at r
      exact r
    · have hFr : Fr (fun a j => (a = zP z 9 k ∧ j = 10) ∨ (a = 34 + p ∧ j = 2)) (fun _ _ => False) z (sI (sI z (zP z 9 k) 10 v) (34 + p) 2 1) := ⟨Nat.le_refl _, fun _ _ => ⟨rfl, rfl⟩, fun a j _ w => (sI_n (fun q => w (Or.inr q))).trans (sI_n (fun q => w (Or.inl q))), fun _ _ _ _ => rfl⟩
      have hKp : Kp z (sI (sI z (zP z 9 k) 10 v) (34 + p) 2 1) := ⟨rfl, rfl, rfl, rfl, fun a j a1 a2 => ⟨(sI_n (by omega)).trans (sI_n (by omega)), rfl⟩⟩
      have hA7 : ∀ q, q < 7 → u2 (TA z) 14 k v q = TA z q := fun q hq => u2_n (by omega)
      have hC1 : Cls (sI (sI z (zP z 9 k) 10 v) (34 + p) 2 1) (u2 (TA z) 14 k v) (FZ z) (VZ z) n R := by
        obtain ⟨c1, c2, c3, c4, c5, c6, c7, c8, c9, c10⟩ := hC
        have h75 := c1.1
        obtain ⟨v1, v2, v3, v4, v5⟩ := c8
        refine ⟨L_CT hFr (fun a j w q => by omega) (fun a j w => w.elim) c1, CS_A hA7 (L_CS hFr h75 (fun a j w q => by omega) (fun a j w => w.elim) c2), RG_A hA7 (L_RG hFr h75 (fun a j w q => by omega) (fun a j w => w.elim) c3), L_RW hFr h75 (fun a j w q => by omega) c4, L_AN hFr h75 (fun a j w q => by omega) c5, ⟨c6.1, c6.2.1, ((sI_n (by omega)).trans (sI_n (by omega))).trans c6.2.2⟩, ⟨fun j hj => ?_, fun a b hab hb => ?_⟩, ⟨?_, ?_, ?_, fun a b => ?_, fun j hj => ?_⟩, ?_, fun p' hp' => ?_⟩
        · refine BC_t hFr (c7.1 j hj) (fun i i1 i2 w => by omega) (fun n2 i w => ?_) (fun _ _ w => w) (fun q q1 q2 => by rw [u2_n (by omega)]) (fun i hi => by rw [u2_n (by omega)]) ?_
          · have := (CB_S c7).1 j hj
            have w : (zP z 9 j + 1 = zP z 9 k ∧ i = 10) ∨ (zP z 9 j + 1 = 34 + p ∧ i = 2) := w
            by_cases e : j = k
            · subst e; omega
            · have := CB_ne c7 hj hk0 e
              omega
          · have := (CB_S c7).1 j hj
            rw [u2_v]
            show zI (sI (sI z (zP z 9 k) 10 v) (34 + p) 2 1) (zP z 9 j) 10 = _
            by_cases e : j = k
            · rw [e, if_pos ⟨rfl, rfl⟩, sI_n (by omega), sI_e]
            · have := CB_ne c7 hj hk0 e
              rw [if_neg (fun w => e w.2), sI_n (by omega), sI_n (by omega)]
              exact (c7.1 j hj).2.2.2.2.2.2.2.2.2.1
        · rw [u2_n (by decide)]; exact c7.2 a b hab hb
        · rw [hA7 0 (by omega), hA7 1 (by omega), hA7 2 (by omega)]; exact v1
        · rw [u2_n (by decide)]; exact v2
        · rw [u2_n (by decide)]; exact v3
        · rw [rgF_e (hA7 4 (by omega)) (hA7 5 (by omega)) (hA7 6 (by omega))]; exact v4 a b
        · rw [u2_v]
          by_cases e : j = k
          · rw [if_pos ⟨rfl, e⟩]; exact hv
          · rw [if_neg (fun w => e w.2)]; exact v5 j hj
        · unfold DAY
          rw [u2_n (by decide)]; exact c9
        · have el : lpF (u2 (TA z) 14 k v) n p' = lpF (TA z) n p' := lpF_A n p' (u2_n (by decide)) (u2_n (by decide))
          by_cases e : p' = p
          · subst e
            refine ⟨?_, Or.inr sI_e, fun w => absurd (sI_e.symm.trans w) nz1⟩
            rw [el]
            exact LK_F (z := z) (cid := zP z 9) _ (zP z (34 + p') 0) (fun _ _ => rfl) (c10 p' hp').1
          · refine PL_o hFr h75 hp' c7 el (fun _ _ => rfl) ⟨hA7, fun j hj => ?_⟩ (fun j hj => ?_) (fun w => by omega) (fun _ w => w) (c10 p' hp')
            · have nk : j ≠ k := fun w => by
                have := ((lpF_mem _ n p' j).mp hj).2
                rw [w, e9] at this
                exact e ((nI_eq (by omega) (by omega)).mp this).symm
              exact ⟨fun q q1 q2 => by rw [u2_v, if_neg (fun w => nk w.2)], fun i hi => by rw [u2_n (by decide)]⟩
            · have nk : j ≠ k := fun w => by
                have := ((lpF_mem _ n p' j).mp hj).2
                rw [w, e9] at this
                exact e ((nI_eq (by omega) (by omega)).mp this).symm
              have jn := ((lpF_mem _ n p' j).mp hj).1
              have := CB_ne c7 jn hk0 nk
              have := (CB_S c7).1 j jn
              refine ⟨fun i w => by omega, fun n2 i w => ?_, fun _ w => w⟩
              have := CB_ne3 c7 hk0 jn n2
              omega
      have tp := (hT.2.2.2.1.2.2 p hp).2
      refine op_g (Kp_MT hKp hS.1) (r := 1) (V' := VZ z) (A' := u2 (AZ (sI (sI z (zP z 9 k) 10 v) (34 + p) 2 1)) 14 k v) (rn_i (full := cd_68) t6.1 (ok_n rfl) rfl (fun K hK' => hK' 0 _ _ _ ⟨_, _, X_cardOf_ok 10 hT n k h6 h60 hk0, ⟨fun c2 => absurd c2 nz, fun c2 => ⟨b3, ⟨fun c6 => absurd (b10.symm.trans c6) hq, fun c6 => ⟨⟨b3, hv⟩, ⟨b3, ⟨⟨?_, Or.inr rfl⟩, ⟨rfl, ?_⟩⟩⟩⟩⟩⟩⟩⟩)) ?_ hC1 ?_ ?_ rfl rfl rfl rfl (Nat.le_add_right _ _) (Nat.le_add_right _ _)
      · show tg z (zP z (zP z 9 k) 2) = 13
        rw [e2]; exact tp
      · show sI (sI z (zP z 9 k) 10 v) (zP z (zP z 9 k) 2) 2 1 = _
        rw [e2]
      · have r := M_strike_ok 9 (sI (sI z (zP z 9 k) 10 v) (34 + p) 2 1) (VZ (sI (sI z (zP z 9 k) 10 v) (34 + p) 2 1)) (AZ (sI (sI z (zP z 9 k) 10 v) (34 + p) 2 1)) (Kp_MT hKp hS.1) k n (by rw [Kp_VZ hKp]; exact hV) hk0 h60 v hv
        rw [if_neg (by rw [(sim_w hKp) 14 (by decide)]; exact hq), Kp_VZ hKp] at r
        rw [Kp_VZ hKp]
        exact r
      · rw [trw_u _ _ _ (by decide)]
        exact congrArg (fun A => u2 A 14 k v) (Kp_TA hKp)
      · rw [fz_u _ _ _ (by decide)]
        exact Kp_FZ hKp
  · exact fnd0 hS 0 (rn_i (full := cd_68) t6.1 (ok_n rfl) rfl (fun K hK' => hK' 0 _ _ _ ⟨_, _, X_cardOf_no 10 hT n h6 h60 kk hk, ⟨fun c2 => ⟨_, _, X_rB 9 hT, rfl, rfl⟩, fun c2 => absurd rfl c2⟩⟩)) (fun zz hW hw => M_strike_bad 9 zz (VZ zz) (AZ zz) hW.1 kk v (fun w => hk (by rw [hW.2.1] at w; exact w)))
end Ops17
