/-! The model's ask and adjustedAt. Own work. -/
def adF (st due : Int32) : Int32 := if st = 0 then due else if st = -1 then due + 2 else if st ≤ due + 2 then st else due + 2
def askF (A : Nat → Nat → Int32) (k : Nat) (w : Int32) : Int32 := if w = 0 then A 8 k else if w = 1 then A 9 k else if w = 2 then A 10 k else if w = 3 then (if A 14 k = 0 then 0 else 1) else if w = 4 then A 11 k else plF A k
section MAdj
variable (d : Nat) (z0 : ZS) (V : Nat → Int32) (A : Nat → Nat → Int32)
theorem M_adjustedAt (hM : MT z0) (k c h : Nat) (hk : k < 60) (hc : c < 4) (hh : h < 18) (hck : A 11 k = nI c) (g : Int32) : Rn (d + 3) i_M_adjustedAt [.ref 46, .int (nI k), .int g, .int (nI h)] (mz z0 V A) (some (.int (adF (A 15 (18 * k + h)) (A 2 (18 * c + h) + gvF g (A 3 (18 * c + h)))))) (mz z0 V A) := by
  have hi : vp_in (nI k) 60 := vp_in_nI hk (by decide)
  have hcl : (nI k).toNatClampNeg = k := nI_clamp (by omega)
  have h11 : A 11 (nI k).toNatClampNeg = nI c := by rw [hcl]; exact hck
  have cp : ((18 : Int32) * nI k + nI h).toNatClampNeg = 18 * k + h := by rw [ix18]; exact nI_clamp (by omega)
  have cq : ((18 : Int32) * A 11 (nI k).toNatClampNeg + nI h).toNatClampNeg = 18 * c + h := by rw [h11, ix18]; exact nI_clamp (by omega)
  have hg : Rn (d + 2) i_M_givenAt [.ref 46, .int g, .int (A 11 (nI k).toNatClampNeg), .int (nI h)] (mz z0 V A) (some (.int (gvF g (A 3 (18 * c + h))))) (mz z0 V A) := by rw [h11]; exact M_givenAt d z0 V A hM g c h hc hh
  refine rn_i (full := cd_141) hM.1 trivial rfl (fun K hK => hK 0 _ _ _ ⟨mt_g hM 11 (by decide), ⟨mt_l hM 11 (by decide) hi, ⟨mt_g hM 15 (by decide), ⟨mt_l hM 15 (by decide) ?_, ⟨mt_g hM 2 (by decide), ⟨mt_l hM 2 (by decide) ?_, ⟨_, _, hg, ⟨fun c5 => ⟨?_, rfl⟩, fun c5 => ⟨fun c7 => ⟨?_, rfl⟩, fun c7 => ⟨fun c9 => ⟨?_, rfl⟩, fun c9 => ⟨?_, rfl⟩⟩⟩⟩⟩⟩⟩⟩⟩⟩⟩)
  · rw [ix18]; exact vp_in_nI (by show _ < 1080; omega) (by decide)
  · show vp_in ((18 : Int32) * A 11 (nI k).toNatClampNeg + nI h) 72
    rw [h11, ix18]; exact vp_in_nI (by omega) (by decide)
  · have c5 : A 15 ((18 : Int32) * nI k + nI h).toNatClampNeg = 0 := c5
    show some (Value.int (A 2 ((18 : Int32) * A 11 (nI k).toNatClampNeg + nI h).toNatClampNeg + gvF g (A 3 (18 * c + h)))) = _
    rw [cp] at c5
    rw [cq]; unfold adF; rw [if_pos c5]
  · have c5 : ¬ A 15 ((18 : Int32) * nI k + nI h).toNatClampNeg = 0 := c5
    have c7 : A 15 ((18 : Int32) * nI k + nI h).toNatClampNeg = -1 := c7
    show some (Value.int (A 2 ((18 : Int32) * A 11 (nI k).toNatClampNeg + nI h).toNatClampNeg + gvF g (A 3 (18 * c + h)) + 2)) = _
    rw [cp] at c5 c7
    rw [cq]; unfold adF; rw [if_neg c5, if_pos c7]
  · have c5 : ¬ A 15 ((18 : Int32) * nI k + nI h).toNatClampNeg = 0 := c5
    have c7 : ¬ A 15 ((18 : Int32) * nI k + nI h).toNatClampNeg = -1 := c7
    have c9 : A 15 ((18 : Int32) * nI k + nI h).toNatClampNeg ≤ A 2 ((18 : Int32) * A 11 (nI k).toNatClampNeg + nI h).toNatClampNeg + gvF g (A 3 (18 * c + h)) + 2 := c9
    show some (Value.int (A 15 ((18 : Int32) * nI k + nI h).toNatClampNeg)) = _
    rw [cp] at c5 c7 c9 ⊢
    rw [cq] at c9
    unfold adF; rw [if_neg c5, if_neg c7, if_pos c9]
  · have c5 : ¬ A 15 ((18 : Int32) * nI k + nI h).toNatClampNeg = 0 := c5
    have c7 : ¬ A 15 ((18 : Int32) * nI k + nI h).toNatClampNeg = -1 := c7
    have c9 : ¬ A 15 ((18 : Int32) * nI k + nI h).toNatClampNeg ≤ A 2 ((18 : Int32) * A 11 (nI k).toNatClampNeg + nI h).toNatClampNeg + gvF g (A 3 (18 * c + h)) + 2 := c9
    show some (Value.int (A 2 ((18 : Int32) * A 11 (nI k).toNatClampNeg + nI h).toNatClampNeg + gvF g (A 3 (18 * c + h)) + 2)) = _
    rw [cp] at c5 c7 c9
    rw [cq] at c9 ⊢
    unfold adF; rw [if_neg c5, if_neg c7, if_neg c9]
theorem M_ask_bad (hM : MT z0) (k w : Int32) (hb : ¬ ((0 ≤ k ∧ k ≤ V 10 - 1) ∧ (0 ≤ w ∧ w ≤ 5))) : Rn (d + 3) i_M_ask [.ref 46, .int k, .int w] (mz z0 V A) (some (.int (-100001))) (mz z0 V (cnt A 1)) :=
  rn_i (full := cd_130) hM.1 trivial rfl (fun K hK => hK 0 _ _ _ ⟨_, _, M_isCard _ z0 V A hM _, ⟨fun c2 => ⟨_, _, M_fB _ z0 V A hM, rfl, rfl⟩, fun c2 => ⟨_, _, M_in _ _ _ _ _, ⟨fun c6 => ⟨_, _, M_fB _ z0 V A hM, rfl, rfl⟩, fun c6 => absurd ⟨b1_f c2, b1_f c6⟩ hb⟩⟩⟩⟩)
theorem M_ask_none (hM : MT z0) (k n : Nat) (hn : V 10 = nI n) (hk : k < n) (h60 : n ≤ 60) (w : Int32) (hw : 0 ≤ w ∧ w ≤ 5) (h3 : ¬ w ≤ 3) (h2 : A 8 k = 2) : Rn (d + 3) i_M_ask [.ref 46, .int (nI k), .int w] (mz z0 V A) (some (.int (-100002))) (mz z0 V (cnt A 2)) := by
  have hi : vp_in (nI k) 60 := vp_in_nI (by omega) (by decide)
  have hcl : (nI k).toNatClampNeg = k := nI_clamp (by omega)
  refine rn_i (full := cd_130) hM.1 trivial rfl (fun K hK => hK 0 _ _ _ ⟨_, _, M_isCard _ z0 V A hM _, ⟨fun c2 => absurd (card_rng hn hk h60) (b1_t c2), fun c2 => ⟨_, _, M_in _ _ _ _ _, ⟨fun c6 => absurd hw (b1_t c6), fun c6 => ⟨fun c9 => absurd c9 h3, fun c9 => ⟨mt_g hM 8 (by decide), ⟨mt_l hM 8 (by decide) hi, ⟨fun c30 => ⟨_, _, M_fN _ z0 V A hM, rfl, rfl⟩, fun c30 => absurd ?_ c30⟩⟩⟩⟩⟩⟩⟩⟩)
  show A 8 (nI k).toNatClampNeg = 2
  rw [hcl]; exact h2
theorem M_ask_ok (hM : MT z0) (k n : Nat) (hn : V 10 = nI n) (hk : k < n) (h60 : n ≤ 60) (hC : CK A k) (w : Int32) (hw : 0 ≤ w ∧ w ≤ 5) (h2 : w ≤ 3 ∨ ¬ A 8 k = 2) : Rn (d + 3) i_M_ask [.ref 46, .int (nI k), .int w] (mz z0 V A) (some (.int (askF A k w))) (mz z0 V A) := by
  have hi : vp_in (nI k) 60 := vp_in_nI (by omega) (by decide)
  have hcl : (nI k).toNatClampNeg = k := nI_clamp (by omega)
  have tI : ∀ j : Nat, j < 5 → (w.toInt = (j : Int) ↔ w = nI j) := fun j hj => ⟨fun q => toInt_inj (by rw [q, nI_toInt (by omega)]), fun q => by rw [q, nI_toInt (by omega)]⟩
  have t0 : w.toInt = 0 ↔ w = 0 := tI 0 (by decide)
  have t1 : w.toInt = 0 + 1 ↔ w = 1 := by rw [show (0 + 1 : Int) = ((1 : Nat) : Int) by decide]; exact tI 1 (by decide)
  have t2 : w.toInt = 0 + 1 + 1 ↔ w = 2 := by rw [show (0 + 1 + 1 : Int) = ((2 : Nat) : Int) by decide]; exact tI 2 (by decide)
  have t3 : w.toInt = 0 + 1 + 1 + 1 ↔ w = 3 := by rw [show (0 + 1 + 1 + 1 : Int) = ((3 : Nat) : Int) by decide]; exact tI 3 (by decide)
  have t4 : w.toInt = 0 + 1 + 1 + 1 + 1 ↔ w = 4 := by rw [show (0 + 1 + 1 + 1 + 1 : Int) = ((4 : Nat) : Int) by decide]; exact tI 4 (by decide)
  have r0 : w = 0 → some (Value.int (A 8 (nI k).toNatClampNeg)) = some (.int (askF A k w)) := fun q => by unfold askF; rw [if_pos q, hcl]
  have r1 : ¬ w = 0 → w = 1 → some (Value.int (A 9 (nI k).toNatClampNeg)) = some (.int (askF A k w)) := fun q0 q => by unfold askF; rw [if_neg q0, if_pos q, hcl]
  have r2 : ¬ w = 0 → ¬ w = 1 → w = 2 → some (Value.int (A 10 (nI k).toNatClampNeg)) = some (.int (askF A k w)) := fun q0 q1 q => by unfold askF; rw [if_neg q0, if_neg q1, if_pos q, hcl]
  have r3 : ¬ w = 0 → ¬ w = 1 → ¬ w = 2 → w = 3 → A 14 (nI k).toNatClampNeg = 0 → some (Value.int 0) = some (.int (askF A k w)) := fun q0 q1 q2 q h => by rw [hcl] at h; unfold askF; rw [if_neg q0, if_neg q1, if_neg q2, if_pos q, if_pos h]
  have r3' : ¬ w = 0 → ¬ w = 1 → ¬ w = 2 → w = 3 → ¬ A 14 (nI k).toNatClampNeg = 0 → some (Value.int 1) = some (.int (askF A k w)) := fun q0 q1 q2 q h => by rw [hcl] at h; unfold askF; rw [if_neg q0, if_neg q1, if_neg q2, if_pos q, if_neg h]
  have r4 : ¬ w = 0 → ¬ w = 1 → ¬ w = 2 → ¬ w = 3 → w = 4 → some (Value.int (A 11 (nI k).toNatClampNeg)) = some (.int (askF A k w)) := fun q0 q1 q2 q3 q => by unfold askF; rw [if_neg q0, if_neg q1, if_neg q2, if_neg q3, if_pos q, hcl]
  have r5 : ¬ w = 0 → ¬ w = 1 → ¬ w = 2 → ¬ w = 3 → ¬ w = 4 → some (Value.int (plF A k)) = some (.int (askF A k w)) := fun q0 q1 q2 q3 q => by unfold askF; rw [if_neg q0, if_neg q1, if_neg q2, if_neg q3, if_neg q]
  have pl := M_playedOf d z0 V A hM k (by omega) hC
  have n0 : ∀ {P Q : Prop}, (P ↔ Q) → ¬ P → ¬ Q := fun h n q => n (h.mpr q)
  refine rn_i (full := cd_130) hM.1 trivial rfl (fun K hK => hK 0 _ _ _ ⟨_, _, M_isCard _ z0 V A hM _, ⟨fun c2 => absurd (card_rng hn hk h60) (b1_t c2), fun c2 => ⟨_, _, M_in _ _ _ _ _, ⟨fun c6 => absurd hw (b1_t c6), fun c6 => ⟨fun c9 =>
    ⟨fun c10 => ⟨mt_g hM 8 (by decide), ⟨mt_l hM 8 (by decide) hi, ⟨r0 (t0.mp c10), rfl⟩⟩⟩,
     fun c10 => ⟨fun c13 => ⟨mt_g hM 9 (by decide), ⟨mt_l hM 9 (by decide) hi, ⟨r1 (n0 t0 c10) (t1.mp c13), rfl⟩⟩⟩,
     fun c13 => ⟨fun c16 => ⟨mt_g hM 10 (by decide), ⟨mt_l hM 10 (by decide) hi, ⟨r2 (n0 t0 c10) (n0 t1 c13) (t2.mp c16), rfl⟩⟩⟩,
     fun c16 => ⟨fun c19 => ⟨mt_g hM 14 (by decide), ⟨mt_l hM 14 (by decide) hi, ⟨fun c21 => ⟨r3 (n0 t0 c10) (n0 t1 c13) (n0 t2 c16) (t3.mp c19) c21, rfl⟩, fun c21 => ⟨r3' (n0 t0 c10) (n0 t1 c13) (n0 t2 c16) (t3.mp c19) c21, rfl⟩⟩⟩⟩,
     fun c19 => ⟨fun c24 => ⟨mt_g hM 11 (by decide), ⟨mt_l hM 11 (by decide) hi, ⟨r4 (n0 t0 c10) (n0 t1 c13) (n0 t2 c16) (n0 t3 c19) (t4.mp c24), rfl⟩⟩⟩,
     fun c24 => ⟨_, _, pl, ⟨r5 (n0 t0 c10) (n0 t1 c13) (n0 t2 c16) (n0 t3 c19) (n0 t4 c24), rfl⟩⟩⟩⟩⟩⟩⟩,
   fun c9 => ⟨mt_g hM 8 (by decide), ⟨mt_l hM 8 (by decide) hi, ⟨fun c30 => absurd ?_ (h2.resolve_left c9), fun c30 =>
    ⟨fun c10 => ⟨mt_g hM 8 (by decide), ⟨mt_l hM 8 (by decide) hi, ⟨r0 (t0.mp c10), rfl⟩⟩⟩,
     fun c10 => ⟨fun c13 => ⟨mt_g hM 9 (by decide), ⟨mt_l hM 9 (by decide) hi, ⟨r1 (n0 t0 c10) (t1.mp c13), rfl⟩⟩⟩,
     fun c13 => ⟨fun c16 => ⟨mt_g hM 10 (by decide), ⟨mt_l hM 10 (by decide) hi, ⟨r2 (n0 t0 c10) (n0 t1 c13) (t2.mp c16), rfl⟩⟩⟩,
     fun c16 => ⟨fun c19 => ⟨mt_g hM 14 (by decide), ⟨mt_l hM 14 (by decide) hi, ⟨fun c21 => ⟨r3 (n0 t0 c10) (n0 t1 c13) (n0 t2 c16) (t3.mp c19) c21, rfl⟩, fun c21 => ⟨r3' (n0 t0 c10) (n0 t1 c13) (n0 t2 c16) (t3.mp c19) c21, rfl⟩⟩⟩⟩,
     fun c19 => ⟨fun c24 => ⟨mt_g hM 11 (by decide), ⟨mt_l hM 11 (by decide) hi, ⟨r4 (n0 t0 c10) (n0 t1 c13) (n0 t2 c16) (n0 t3 c19) (t4.mp c24), rfl⟩⟩⟩,
     fun c24 => ⟨_, _, pl, ⟨r5 (n0 t0 c10) (n0 t1 c13) (n0 t2 c16) (n0 t3 c19) (n0 t4 c24), rfl⟩⟩⟩⟩⟩⟩⟩⟩⟩⟩⟩⟩⟩⟩⟩)
  have c30 : A 8 (nI k).toNatClampNeg = 2 := c30
  rw [hcl] at c30; exact c30
end MAdj
