/-! Calls of both: holes count. Own work. -/
/-- the heap behind i holes -/
def hzF (z : ZS) (w0 : Nat) (w : Int64) : Nat → ZS
  | 0 => z
  | i + 1 => sI (sI (hzF z w0 w i) 18 (w0 + i) (hcF w i)) 17 1 (nI (w0 + i + 1))
theorem hz_o (z : ZS) (w0 : Nat) (w : Int64) : ∀ i, (hzF z w0 w i).1 = z.1 ∧ (hzF z w0 w i).2.1 = z.2.1 ∧ (hzF z w0 w i).2.2.1 = z.2.2.1 ∧ (hzF z w0 w i).2.2.2.1 = z.2.2.2.1 ∧ (∀ a j, a ≠ 17 → a ≠ 18 → zI (hzF z w0 w i) a j = zI z a j) ∧ zP (hzF z w0 w i) = zP z
  | 0 => ⟨rfl, rfl, rfl, rfl, fun _ _ _ _ => rfl, rfl⟩
  | i + 1 => by
    obtain ⟨h1, h2, h3, h4, h5, h6⟩ := hz_o z w0 w i
    exact ⟨h1, h2, h3, h4, fun a j a1 a2 => by
      show zI (sI (sI (hzF z w0 w i) 18 (w0 + i) (hcF w i)) 17 1 (nI (w0 + i + 1))) a j = _
      rw [sI_n (fun q => a1 q.1), sI_n (fun q => a2 q.1)]; exact h5 a j a1 a2, h6⟩
theorem hz_v (z : ZS) (w0 : Nat) (w : Int64) (h17 : zI z 17 1 = nI w0) : ∀ i, zI (hzF z w0 w i) 17 1 = nI (w0 + i) ∧ ∀ j, zI (hzF z w0 w i) 18 j = if w0 ≤ j ∧ j < w0 + i then hcF w (j - w0) else zI z 18 j
  | 0 => ⟨h17, fun j => by rw [if_neg (by omega)]; rfl⟩
  | i + 1 => by
    obtain ⟨h1, h2⟩ := hz_v z w0 w h17 i
    refine ⟨sI_e, fun j => ?_⟩
    show zI (sI (sI (hzF z w0 w i) 18 (w0 + i) (hcF w i)) 17 1 (nI (w0 + i + 1))) 18 j = _
    rw [sI_n (by omega)]
    by_cases e : j = w0 + i
    · rw [e, sI_e, if_pos (by omega), show w0 + i - w0 = i by omega]
    · rw [sI_n (fun q => e q.2), h2 j]
      by_cases e2 : w0 ≤ j ∧ j < w0 + i
      · rw [if_pos e2, if_pos (by omega)]
      · rw [if_neg e2, if_neg (by omega)]
theorem wr_7 (A : Nat → Nat → Int32) (w : Int64) (n0 : Nat) : ∀ k, (∀ j, wrF A w n0 k 7 j = if n0 ≤ j ∧ j < n0 + k then hlF w (j - n0) else A 7 j) ∧ (∀ q, q ≠ 7 → wrF A w n0 k q = A q)
  | 0 => ⟨fun j => by rw [if_neg (by omega)]; rfl, fun _ _ => rfl⟩
  | k + 1 => by
    obtain ⟨h1, h2⟩ := wr_7 A w n0 k
    refine ⟨fun j => ?_, fun q hq => ?_⟩
    · show (if 7 = 7 ∧ j = n0 + k then hlF w k else wrF A w n0 k 7 j) = _
      by_cases e : j = n0 + k
      · rw [if_pos ⟨rfl, e⟩, if_pos (by omega), e, show n0 + k - n0 = k by omega]
      · rw [if_neg (fun q => e q.2), h1 j]
        by_cases e2 : n0 ≤ j ∧ j < n0 + k
        · rw [if_pos e2, if_pos (by omega)]
        · rw [if_neg e2, if_neg (by omega)]
    · funext j
      show (if q = 7 ∧ j = n0 + k then hlF w k else wrF A w n0 k q j) = _
      rw [if_neg (fun w => hq w.1), h2 q hq]
theorem fz_0 (A : Nat → Nat → Int32) (j : Nat) : fzF A (3 * j) = A 17 j := by unfold fzF; rw [if_pos (by omega), show 3 * j / 3 = j by omega]
theorem fz_1 (A : Nat → Nat → Int32) (j : Nat) : fzF A (3 * j + 1) = A 7 j := by unfold fzF; rw [if_neg (by omega), if_pos (by omega), show (3 * j + 1) / 3 = j by omega]
theorem fz_2 (A : Nat → Nat → Int32) (j : Nat) : fzF A (3 * j + 2) = A 16 j := by unfold fzF; rw [if_neg (by omega), if_neg (by omega), show (3 * j + 2) / 3 = j by omega]
section Ops9
variable {z : ZS} {n R : Nat}
theorem op_holes (hS : Sim z n R) (w : Int64) (m : Int32) : Op2 i_X_holes i_M_holes [.long w, .int m] z := by
  have hC := hS.2
  have hT := hC.1
  have t6 := hT.2.1
  have t17 := hT.2.2.2.2.2.1
  obtain ⟨⟨w0, w1, w2, w3, w4⟩, t, u1, u2, u3, u4⟩ := hC.2.2.2.1
  by_cases h0 : 0 ≤ m
  · by_cases h8 : m ≤ 8
    · obtain ⟨k, hk, e⟩ := rng_nI (x := m) (N := 8) (by decide) ⟨h0, h8⟩
      subst e
      have ea : zI z 17 1 + nI k = nI (w0 + k) := by rw [w3, nI_add]
      by_cases hf : w0 + k ≤ 18
      · obtain ⟨o1, o2, o3, o4, o5, o6⟩ := hz_o z w0 w k
        obtain ⟨v1, v2⟩ := hz_v z w0 w w3 k
        have hKp : Kp z (hzF z w0 w k) := ⟨o1, o2, o3, o4, fun a j a1 a2 => ⟨o5 a j (by omega) (by omega), by rw [o6]⟩⟩
        have hFr : Fr (fun a _ => a = 17 ∨ a = 18) (fun _ _ => False) z (hzF z w0 w k) := Kp_Fr o1 o3 o4 (fun a j q => o5 a j (fun e => q (Or.inl e)) (fun e => q (Or.inr e))) (fun a j _ => by rw [o6])
        obtain ⟨q1, q2⟩ := wr_7 (AZ (hzF z w0 w k)) w w0 k
        have hC1 : Cls (hzF z w0 w k) (TA z) (fzF (wrF (AZ (hzF z w0 w k)) w w0 k)) (upd (VZ z) 8 (nI (w0 + k))) n R := by
          refine Cls_rw hFr (fun a j w => by omega) hC ⟨⟨w0 + k, hf, rfl, v1, fun j hj => ?_⟩, t, u1, u2, by rw [o5 19 1 (by omega) (by omega)]; exact u3, fun j hj => ?_⟩ (fun j hj => ?_) rfl rfl
          · rw [fz_1, q1, v2, Kp_AZ hKp 7 (by decide)]
            by_cases e : w0 ≤ j ∧ j < w0 + k
            · rw [if_pos e, if_pos e, hc_hl w _ (by omega)]; exact ⟨rfl, hl_bd w _⟩
            · rw [if_neg e, if_neg e]
              have := w4 j (by omega)
              rw [show FZ z (3 * j + 1) = AZ z 7 j from fz_1 (AZ z) j] at this
              exact this
          · rw [fz_2, q2 16 (by decide), Kp_AZ hKp 16 (by decide), o5 20 j (by omega) (by omega), u4 j hj]
            exact fz_2 (AZ z) j
          · rw [fz_0, q2 17 (by decide), Kp_AZ hKp 17 (by decide)]
            exact (fz_0 (AZ z) (j + 1)).symm
        refine op_g (Kp_MT hKp hS.1) (r := nI (w0 + k)) (V' := upd (VZ z) 8 (nI (w0 + k))) (A' := wrF (AZ (hzF z w0 w k)) w w0 k) (rn_i (full := cd_63) t6.1 (ok_n rfl) rfl (fun K hK' => hK' 0 _ _ _ ⟨fun c1 => ⟨fun c2 => ⟨⟨t6.1, t6.2.2.2.2.2.2.1⟩, ⟨t17.1, ⟨fun c5 => ?_, fun c5 => absurd ?_ c5⟩⟩⟩, fun c2 => absurd h8 c2⟩, fun c1 => absurd h0 c1⟩)) ?_ hC1 ?_ rfl rfl rfl rfl rfl (by show (hzF z w0 w k).1 ≤ _; rw [o1]; exact Nat.le_add_right _ _) (by show (hzF z w0 w k).2.1 ≤ _; rw [o2]; exact Nat.le_add_right _ _)
        · refine loop_up (P := fun i => K 48 [.ref 6, .long w, .null, .int (nI k), .int (nI i)] [] (hzF z w0 w i)) k (fun i hi ih => ?_) 0 (by omega)
          obtain ⟨g1, g2, g3, g4, g5, g6⟩ := hz_o z w0 w i
          obtain ⟨y1, y2⟩ := hz_v z w0 w w3 i
          have t6' : tg (hzF z w0 w i) 6 = 16 ∧ zP (hzF z w0 w i) 6 6 = 17 := ⟨by rw [show tg (hzF z w0 w i) = tg z from g3]; exact t6.1, by rw [g6]; exact t6.2.2.2.2.2.2.1⟩
          have t17' : tg (hzF z w0 w i) 17 = 15 := by rw [show tg (hzF z w0 w i) = tg z from g3]; exact t17.1
          by_cases hik : i < k
          · have ih := ih hik
            rw [nI_succ i] at ih
            have ra := W_append 10 (hzF z w0 w i) 17 18 18 (w0 + i) (hcF w i) t17' (by rw [g6]; exact t17.2.1) (by rw [show tg (hzF z w0 w i) = tg z from g3]; exact t17.2.2.1) (by rw [show ln (hzF z w0 w i) = ln z from g4]; exact t17.2.2.2) y1 (by omega) (by omega) (by omega)
            exact hK' 26 _ _ _ ⟨fun c1 => absurd c1 (nI_ge hik (by omega)), fun c1 => ⟨t6', ⟨_, _, ra, ih⟩⟩⟩
          · have : i = k := by omega
            subst this
            refine hK' 26 _ _ _ ⟨fun c1 => ⟨t6', ⟨t17', ⟨?_, rfl⟩⟩⟩, fun c1 => absurd (Int32.le_refl _) c1⟩
            show some (Value.int (zI (hzF z w0 w i) 17 1)) = _
            rw [y1]
        · show zI z 17 1 + nI k ≤ 18
          rw [ea]; exact nI_le (b := 18) hf (by decide)
        · have r := M_holes_ok 10 (hzF z w0 w k) (VZ (hzF z w0 w k)) (AZ (hzF z w0 w k)) (Kp_MT hKp hS.1) w k w0 hk (by rw [Kp_VZ hKp]; exact w2) hf
          rw [Kp_VZ hKp] at r ⊢
          exact r
        · rw [← Kp_TA hKp]
          exact trw_w (fun j hj => q2 j hj.2)
      · refine fnd1 hS 4 (rn_i (full := cd_63) t6.1 (ok_n rfl) rfl (fun K hK' => hK' 0 _ _ _ ⟨fun c1 => ⟨fun c2 => ⟨⟨t6.1, t6.2.2.2.2.2.2.1⟩, ⟨t17.1, ⟨fun c5 => absurd ?_ (nI_ge (a := 18) (b := w0 + k) (by omega) (by omega)), fun c5 => ⟨_, _, X_rF 9 hT, rfl, rfl⟩⟩⟩⟩, fun c2 => absurd h8 c2⟩, fun c1 => absurd h0 c1⟩)) (fun zz hK hW => M_holes_full 10 zz (VZ zz) (AZ zz) hW.1 w k w0 hk (by rw [Kp_VZ hK]; exact w2) w1 (by omega))
        have c5 : zI z 17 1 + nI k ≤ 18 := c5
        rw [ea] at c5; exact c5
    · exact fnd0 hS 0 (rn_i (full := cd_63) t6.1 (ok_n rfl) rfl (fun K hK' => hK' 0 _ _ _ ⟨fun c1 => ⟨fun c2 => absurd c2 h8, fun c2 => ⟨_, _, X_rB 9 hT, rfl, rfl⟩⟩, fun c1 => absurd h0 c1⟩)) (fun zz hW hw => M_holes_big 10 zz (VZ zz) (AZ zz) hW.1 w m h0 h8)
  · exact fnd0 hS 3 (rn_i (full := cd_63) t6.1 (ok_n rfl) rfl (fun K hK' => hK' 0 _ _ _ ⟨fun c1 => absurd c1 h0, fun c1 => ⟨_, _, X_rS 9 hT, rfl, rfl⟩⟩)) (fun zz hW hw => M_holes_neg 10 zz (VZ zz) (AZ zz) hW.1 w m h0)
end Ops9
