/-! The model's questions: adjusted mark half joined number raw last makes given. Own work. -/
def MW (z0 : ZS) (V : Nat → Int32) (A : Nat → Nat → Int32) (n R : Nat) : Prop := MT z0 ∧ V 10 = nI n ∧ n ≤ 60 ∧ V 4 = nI R ∧ R ≤ 30 ∧ (∀ k, k < n → WK A k) ∧ SL A
/-- the book of all cards -/
def fB (A : Nat → Nat → Int32) (n R : Nat) : Bk := bkA A (oF (A 10) n) n R n
theorem cnt_b {A A' : Nat → Nat → Int32} (h : AgB A A') (j : Nat) : AgB (cnt A j) (cnt A' j) := fun q hq => by
  funext i
  show (if q = 17 ∧ i = j then A' 17 j + 1 else A' q i) = if q = 17 ∧ i = j then A 17 j + 1 else A q i
  rw [h 17 (by decide), h q hq]
theorem nzB : ¬ (-100001 : Int32) = 0 := by decide
theorem nzK : ¬ (-100003 : Int32) = 0 := by decide
theorem nzV : ¬ (-100006 : Int32) = 0 := by decide
theorem nz1 : ¬ (1 : Int32) = 0 := by decide
section MQue
variable (d : Nat) (z0 : ZS) (V : Nat → Int32) (A : Nat → Nat → Int32) (n R : Nat)
theorem M_wb (hW : MW z0 V A n R) : ∃ (V' : Nat → Int32) (A' : Nat → Nat → Int32), Rn (d + 10) i_M_writeBook [.ref 46] (mz z0 V A) none (mz z0 V' A') ∧ Ag V V' ∧ AgB A A' ∧ BR A' n (oF (A 10) n) (fB A n R) ∧ V' 10 = nI n := by
  obtain ⟨h1, h2, h3, h4, h5, h6, h7⟩ := hW
  obtain ⟨V', A', r, a, b, c⟩ := M_writeBook d z0 V A h1 n h2 h3 R h4 h5 h6 h7
  exact ⟨V', A', r, a, b, c, (a 10 (by decide) (by decide) (by decide)).trans h2⟩
theorem M_mark_bad (hM : MT z0) (k : Int32) (hb : ¬ (0 ≤ k ∧ k ≤ V 10 - 1)) : Rn (d + 11) i_M_mark [.ref 46, .int k] (mz z0 V A) (some (.int (-100001))) (mz z0 V (cnt A 1)) :=
  rn_i (full := cd_151) hM.1 (ok_n rfl) rfl (fun K hK => hK 0 _ _ _ ⟨_, _, M_isCard _ z0 V A hM _, ⟨fun c2 => ⟨_, _, M_fB _ z0 V A hM, rfl, rfl⟩, fun c2 => absurd (b1_f c2) hb⟩⟩)
theorem M_mark_void (hW : MW z0 V A n R) (k : Nat) (hk : k < n) (hv : ¬ A 14 k = 0) : Rn (d + 11) i_M_mark [.ref 46, .int (nI k)] (mz z0 V A) (some (.int (-100006))) (mz z0 V (cnt A 6)) := by
  obtain ⟨hM, hn, h60, _⟩ := hW
  have vk : vp_in (nI k) 60 := vp_in_nI (by omega) (by decide)
  have ck : (nI k).toNatClampNeg = k := nI_clamp (by omega)
  refine rn_i (full := cd_151) hM.1 (ok_n rfl) rfl (fun K hK => hK 0 _ _ _ ⟨_, _, M_isCard _ z0 V A hM _, ⟨fun c2 => absurd (card_rng hn hk h60) (b1_t c2), fun c2 => ⟨mt_g hM 14 (by decide), ⟨mt_l hM 14 (by decide) vk, ⟨fun c6 => absurd ?_ hv, fun c6 => ⟨_, _, M_fV _ z0 V A hM, rfl, rfl⟩⟩⟩⟩⟩⟩)
  have c6 : A 14 (nI k).toNatClampNeg = 0 := c6
  rw [ck] at c6; exact c6
theorem M_mark_none (hW : MW z0 V A n R) (k : Nat) (hk : k < n) (hv : A 14 k = 0) (hb : (fB A n R).1 k = none) : ∃ (V' : Nat → Int32) (A' : Nat → Nat → Int32), Rn (d + 11) i_M_mark [.ref 46, .int (nI k)] (mz z0 V A) (some (.int (-100002))) (mz z0 V' A') ∧ Ag V V' ∧ AgB (cnt A 2) A' := by
  obtain ⟨V1, A1, r, g1, g2, g3, g4⟩ := M_wb d z0 V A n R hW
  obtain ⟨hM, hn, h60, _⟩ := hW
  have vk : vp_in (nI k) 60 := vp_in_nI (by omega) (by decide)
  have ck : (nI k).toNatClampNeg = k := nI_clamp (by omega)
  refine ⟨V1, cnt A1 2, rn_i (full := cd_151) hM.1 (ok_n rfl) rfl (fun K hK => hK 0 _ _ _ ⟨_, _, M_isCard _ z0 V A hM _, ⟨fun c2 => absurd (card_rng hn hk h60) (b1_t c2), fun c2 => ⟨mt_g hM 14 (by decide), ⟨mt_l hM 14 (by decide) vk, ⟨fun c6 => ⟨_, _, r, ⟨mt_g hM 19 (by decide), ⟨mt_l hM 19 (by decide) vk, ⟨fun c9 => ⟨_, _, M_fN _ z0 V1 A1 hM, rfl, rfl⟩, fun c9 => absurd ?_ c9⟩⟩⟩⟩, fun c6 => absurd ?_ c6⟩⟩⟩⟩⟩), g1, cnt_b g2 2⟩
  · show A1 19 (nI k).toNatClampNeg = 0
    rw [ck]; exact (g3.2.1 k hk).mpr hb
  · show A 14 (nI k).toNatClampNeg = 0
    rw [ck]; exact hv
theorem M_mark_ok (hW : MW z0 V A n R) (k : Nat) (hk : k < n) (hv : A 14 k = 0) (v : Int32) (hb : (fB A n R).1 k = some v) : ∃ (V' : Nat → Int32) (A' : Nat → Nat → Int32), Rn (d + 11) i_M_mark [.ref 46, .int (nI k)] (mz z0 V A) (some (.int v)) (mz z0 V' A') ∧ Ag V V' ∧ AgB A A' := by
  obtain ⟨V1, A1, r, g1, g2, g3, g4⟩ := M_wb d z0 V A n R hW
  obtain ⟨hM, hn, h60, _⟩ := hW
  have vk : vp_in (nI k) 60 := vp_in_nI (by omega) (by decide)
  have ck : (nI k).toNatClampNeg = k := nI_clamp (by omega)
  refine ⟨V1, A1, rn_i (full := cd_151) hM.1 (ok_n rfl) rfl (fun K hK => hK 0 _ _ _ ⟨_, _, M_isCard _ z0 V A hM _, ⟨fun c2 => absurd (card_rng hn hk h60) (b1_t c2), fun c2 => ⟨mt_g hM 14 (by decide), ⟨mt_l hM 14 (by decide) vk, ⟨fun c6 => ⟨_, _, r, ⟨mt_g hM 19 (by decide), ⟨mt_l hM 19 (by decide) vk, ⟨fun c9 => ?_, fun c9 => ⟨mt_g hM 20 (by decide), ⟨mt_l hM 20 (by decide) vk, ⟨?_, rfl⟩⟩⟩⟩⟩⟩⟩, fun c6 => absurd ?_ c6⟩⟩⟩⟩⟩), g1, g2⟩
  · have c9 : A1 19 (nI k).toNatClampNeg = 0 := c9
    rw [ck] at c9
    have := (g3.2.1 k hk).mp c9
    rw [hb] at this; cases this
  · show some (Value.int (A1 20 (nI k).toNatClampNeg)) = _
    rw [ck, g3.2.2.1 k v hk hb]
  · show A 14 (nI k).toNatClampNeg = 0
    rw [ck]; exact hv
/-- what is wrong with a card as a SHORT -/
def nsF (A : Nat → Nat → Int32) (k : Nat) : Int32 := if A 8 k = 1 then (if A 14 k = 0 then 0 else -100006) else -100003
theorem M_notShort_bad (hM : MT z0) (k : Int32) (hb : ¬ (0 ≤ k ∧ k ≤ V 10 - 1)) : Rn (d + 3) i_M_notShort [.ref 46, .int k] (mz z0 V A) (some (.int (-100001))) (mz z0 V A) :=
  rn_i (full := cd_152) hM.1 (ok_n rfl) rfl (fun K hK => hK 0 _ _ _ ⟨_, _, M_isCard _ z0 V A hM _, ⟨fun c2 => ⟨rfl, rfl⟩, fun c2 => absurd (b1_f c2) hb⟩⟩)
theorem M_notShort (hM : MT z0) (hn : V 10 = nI n) (h60 : n ≤ 60) (k : Nat) (hk : k < n) : Rn (d + 3) i_M_notShort [.ref 46, .int (nI k)] (mz z0 V A) (some (.int (nsF A k))) (mz z0 V A) := by
  have vk : vp_in (nI k) 60 := vp_in_nI (by omega) (by decide)
  have ck : (nI k).toNatClampNeg = k := nI_clamp (by omega)
  refine rn_i (full := cd_152) hM.1 (ok_n rfl) rfl (fun K hK => hK 0 _ _ _ ⟨_, _, M_isCard _ z0 V A hM _, ⟨fun c2 => absurd (card_rng hn hk h60) (b1_t c2), fun c2 => ⟨mt_g hM 8 (by decide), ⟨mt_l hM 8 (by decide) vk, ⟨fun c5 => ⟨mt_g hM 14 (by decide), ⟨mt_l hM 14 (by decide) vk, ⟨fun c7 => ⟨?_, rfl⟩, fun c7 => ⟨?_, rfl⟩⟩⟩⟩, fun c5 => ⟨?_, rfl⟩⟩⟩⟩⟩⟩)
  · have c5 : A 8 (nI k).toNatClampNeg = 1 := c5
    have c7 : A 14 (nI k).toNatClampNeg = 0 := c7
    rw [ck] at c5 c7
    unfold nsF; rw [if_pos c5, if_pos c7]
  · have c5 : A 8 (nI k).toNatClampNeg = 1 := c5
    have c7 : ¬ A 14 (nI k).toNatClampNeg = 0 := c7
    rw [ck] at c5 c7
    unfold nsF; rw [if_pos c5, if_neg c7]
  · have c5 : ¬ A 8 (nI k).toNatClampNeg = 1 := c5
    rw [ck] at c5
    unfold nsF; rw [if_neg c5]
theorem M_half_bad (hM : MT z0) (k : Int32) (hb : ¬ (0 ≤ k ∧ k ≤ V 10 - 1)) : Rn (d + 11) i_M_half [.ref 46, .int k] (mz z0 V A) (some (.int (-100001))) (mz z0 V (cnt A 1)) :=
  rn_i (full := cd_153) hM.1 (ok_n rfl) rfl (fun K hK => hK 0 _ _ _ ⟨_, _, M_notShort_bad (d + 7) z0 V A hM _ hb, ⟨fun c2 => absurd c2 nzB, fun c2 => ⟨_, _, M_notShort_bad (d + 7) z0 V A hM _ hb, ⟨_, _, M_fB _ z0 V A hM, rfl, rfl⟩⟩⟩⟩)
theorem M_half_kind (hW : MW z0 V A n R) (k : Nat) (hk : k < n) (h1 : ¬ A 8 k = 1) : Rn (d + 11) i_M_half [.ref 46, .int (nI k)] (mz z0 V A) (some (.int (-100003))) (mz z0 V (cnt A 3)) := by
  obtain ⟨hM, hn, h60, _⟩ := hW
  have ns := M_notShort (d + 7) z0 V A n hM hn h60 k hk
  rw [show nsF A k = -100003 by unfold nsF; rw [if_neg h1]] at ns
  exact rn_i (full := cd_153) hM.1 (ok_n rfl) rfl (fun K hK => hK 0 _ _ _ ⟨_, _, ns, ⟨fun c2 => absurd c2 nzK, fun c2 => ⟨_, _, ns, ⟨_, _, M_fK _ z0 V A hM, rfl, rfl⟩⟩⟩⟩)
theorem M_half_void (hW : MW z0 V A n R) (k : Nat) (hk : k < n) (h1 : A 8 k = 1) (hv : ¬ A 14 k = 0) : Rn (d + 11) i_M_half [.ref 46, .int (nI k)] (mz z0 V A) (some (.int (-100006))) (mz z0 V (cnt A 6)) := by
  obtain ⟨hM, hn, h60, _⟩ := hW
  have ns := M_notShort (d + 7) z0 V A n hM hn h60 k hk
  rw [show nsF A k = -100006 by unfold nsF; rw [if_pos h1, if_neg hv]] at ns
  exact rn_i (full := cd_153) hM.1 (ok_n rfl) rfl (fun K hK => hK 0 _ _ _ ⟨_, _, ns, ⟨fun c2 => absurd c2 nzV, fun c2 => ⟨_, _, ns, ⟨_, _, M_fV _ z0 V A hM, rfl, rfl⟩⟩⟩⟩)
theorem M_half_none (hW : MW z0 V A n R) (k : Nat) (hk : k < n) (h1 : A 8 k = 1) (hv : A 14 k = 0) (hb : (fB A n R).2.1 k = none) : ∃ (V' : Nat → Int32) (A' : Nat → Nat → Int32), Rn (d + 11) i_M_half [.ref 46, .int (nI k)] (mz z0 V A) (some (.int (-100002))) (mz z0 V' A') ∧ Ag V V' ∧ AgB (cnt A 2) A' := by
  obtain ⟨V1, A1, r, g1, g2, g3, g4⟩ := M_wb d z0 V A n R hW
  obtain ⟨hM, hn, h60, _⟩ := hW
  have vk : vp_in (nI k) 60 := vp_in_nI (by omega) (by decide)
  have ck : (nI k).toNatClampNeg = k := nI_clamp (by omega)
  have ns := M_notShort (d + 7) z0 V A n hM hn h60 k hk
  rw [show nsF A k = 0 by unfold nsF; rw [if_pos h1, if_pos hv]] at ns
  refine ⟨V1, cnt A1 2, rn_i (full := cd_153) hM.1 (ok_n rfl) rfl (fun K hK => hK 0 _ _ _ ⟨_, _, ns, ⟨fun c2 => ⟨_, _, r, ⟨mt_g hM 21 (by decide), ⟨mt_l hM 21 (by decide) vk, ⟨fun c5 => ⟨_, _, M_fN _ z0 V1 A1 hM, rfl, rfl⟩, fun c5 => absurd ?_ c5⟩⟩⟩⟩, fun c2 => absurd rfl c2⟩⟩), g1, cnt_b g2 2⟩
  show A1 21 (nI k).toNatClampNeg = 0
  rw [ck]; exact (g3.2.2.2.1 k hk).mpr hb
theorem M_half_ok (hW : MW z0 V A n R) (k : Nat) (hk : k < n) (h1 : A 8 k = 1) (hv : A 14 k = 0) (v : Int32) (hb : (fB A n R).2.1 k = some v) : ∃ (V' : Nat → Int32) (A' : Nat → Nat → Int32), Rn (d + 11) i_M_half [.ref 46, .int (nI k)] (mz z0 V A) (some (.int v)) (mz z0 V' A') ∧ Ag V V' ∧ AgB A A' := by
  obtain ⟨V1, A1, r, g1, g2, g3, g4⟩ := M_wb d z0 V A n R hW
  obtain ⟨hM, hn, h60, _⟩ := hW
  have vk : vp_in (nI k) 60 := vp_in_nI (by omega) (by decide)
  have ck : (nI k).toNatClampNeg = k := nI_clamp (by omega)
  have ns := M_notShort (d + 7) z0 V A n hM hn h60 k hk
  rw [show nsF A k = 0 by unfold nsF; rw [if_pos h1, if_pos hv]] at ns
  refine ⟨V1, A1, rn_i (full := cd_153) hM.1 (ok_n rfl) rfl (fun K hK => hK 0 _ _ _ ⟨_, _, ns, ⟨fun c2 => ⟨_, _, r, ⟨mt_g hM 21 (by decide), ⟨mt_l hM 21 (by decide) vk, ⟨fun c5 => ?_, fun c5 => ⟨mt_g hM 22 (by decide), ⟨mt_l hM 22 (by decide) vk, ⟨?_, rfl⟩⟩⟩⟩⟩⟩⟩, fun c2 => absurd rfl c2⟩⟩), g1, g2⟩
  · have c5 : A1 21 (nI k).toNatClampNeg = 0 := c5
    rw [ck] at c5
    have := (g3.2.2.2.1 k hk).mp c5
    rw [hb] at this; cases this
  · show some (Value.int (A1 22 (nI k).toNatClampNeg)) = _
    rw [ck, g3.2.2.2.2.1 k v hk hb]
theorem M_joined_bad (hM : MT z0) (k : Int32) (hb : ¬ (0 ≤ k ∧ k ≤ V 10 - 1)) : Rn (d + 11) i_M_joined [.ref 46, .int k] (mz z0 V A) (some (.int (-100001))) (mz z0 V (cnt A 1)) :=
  rn_i (full := cd_154) hM.1 (ok_n rfl) rfl (fun K hK => hK 0 _ _ _ ⟨_, _, M_notShort_bad (d + 7) z0 V A hM _ hb, ⟨fun c2 => absurd c2 nzB, fun c2 => ⟨_, _, M_notShort_bad (d + 7) z0 V A hM _ hb, ⟨_, _, M_fB _ z0 V A hM, rfl, rfl⟩⟩⟩⟩)
theorem M_joined_kind (hW : MW z0 V A n R) (k : Nat) (hk : k < n) (h1 : ¬ A 8 k = 1) : Rn (d + 11) i_M_joined [.ref 46, .int (nI k)] (mz z0 V A) (some (.int (-100003))) (mz z0 V (cnt A 3)) := by
  obtain ⟨hM, hn, h60, _⟩ := hW
  have ns := M_notShort (d + 7) z0 V A n hM hn h60 k hk
  rw [show nsF A k = -100003 by unfold nsF; rw [if_neg h1]] at ns
  exact rn_i (full := cd_154) hM.1 (ok_n rfl) rfl (fun K hK => hK 0 _ _ _ ⟨_, _, ns, ⟨fun c2 => absurd c2 nzK, fun c2 => ⟨_, _, ns, ⟨_, _, M_fK _ z0 V A hM, rfl, rfl⟩⟩⟩⟩)
theorem M_joined_void (hW : MW z0 V A n R) (k : Nat) (hk : k < n) (h1 : A 8 k = 1) (hv : ¬ A 14 k = 0) : Rn (d + 11) i_M_joined [.ref 46, .int (nI k)] (mz z0 V A) (some (.int (-100006))) (mz z0 V (cnt A 6)) := by
  obtain ⟨hM, hn, h60, _⟩ := hW
  have ns := M_notShort (d + 7) z0 V A n hM hn h60 k hk
  rw [show nsF A k = -100006 by unfold nsF; rw [if_pos h1, if_neg hv]] at ns
  exact rn_i (full := cd_154) hM.1 (ok_n rfl) rfl (fun K hK => hK 0 _ _ _ ⟨_, _, ns, ⟨fun c2 => absurd c2 nzV, fun c2 => ⟨_, _, ns, ⟨_, _, M_fV _ z0 V A hM, rfl, rfl⟩⟩⟩⟩)
theorem M_joined_none (hW : MW z0 V A n R) (k : Nat) (hk : k < n) (h1 : A 8 k = 1) (hv : A 14 k = 0) (hb : (fB A n R).2.2 k = none) : ∃ (V' : Nat → Int32) (A' : Nat → Nat → Int32), Rn (d + 11) i_M_joined [.ref 46, .int (nI k)] (mz z0 V A) (some (.int (-100002))) (mz z0 V' A') ∧ Ag V V' ∧ AgB (cnt A 2) A' := by
  obtain ⟨V1, A1, r, g1, g2, g3, g4⟩ := M_wb d z0 V A n R hW
  obtain ⟨hM, hn, h60, _⟩ := hW
  have vk : vp_in (nI k) 60 := vp_in_nI (by omega) (by decide)
  have ck : (nI k).toNatClampNeg = k := nI_clamp (by omega)
  have ns := M_notShort (d + 7) z0 V A n hM hn h60 k hk
  rw [show nsF A k = 0 by unfold nsF; rw [if_pos h1, if_pos hv]] at ns
  refine ⟨V1, cnt A1 2, rn_i (full := cd_154) hM.1 (ok_n rfl) rfl (fun K hK => hK 0 _ _ _ ⟨_, _, ns, ⟨fun c2 => ⟨_, _, r, ⟨mt_g hM 24 (by decide), ⟨mt_l hM 24 (by decide) vk, ⟨fun c5 => ⟨_, _, M_fN _ z0 V1 A1 hM, rfl, rfl⟩, fun c5 => absurd ?_ c5⟩⟩⟩⟩, fun c2 => absurd rfl c2⟩⟩), g1, cnt_b g2 2⟩
  show A1 24 (nI k).toNatClampNeg < 0
  rw [ck, g3.2.2.2.2.2.2.1 k hk, hb]; decide
theorem M_joined_ok (hW : MW z0 V A n R) (k : Nat) (hk : k < n) (h1 : A 8 k = 1) (hv : A 14 k = 0) (j : Nat) (hb : (fB A n R).2.2 k = some j) : ∃ (V' : Nat → Int32) (A' : Nat → Nat → Int32), Rn (d + 11) i_M_joined [.ref 46, .int (nI k)] (mz z0 V A) (some (.int (nI j))) (mz z0 V' A') ∧ Ag V V' ∧ AgB A A' := by
  obtain ⟨V1, A1, r, g1, g2, g3, g4⟩ := M_wb d z0 V A n R hW
  obtain ⟨hM, hn, h60, _⟩ := hW
  have vk : vp_in (nI k) 60 := vp_in_nI (by omega) (by decide)
  have ck : (nI k).toNatClampNeg = k := nI_clamp (by omega)
  have ns := M_notShort (d + 7) z0 V A n hM hn h60 k hk
  rw [show nsF A k = 0 by unfold nsF; rw [if_pos h1, if_pos hv]] at ns
  have hj := g3.2.2.2.2.2.2.2 k j hk hb
  have e24 : A1 24 (nI k).toNatClampNeg = nI j := by rw [ck, g3.2.2.2.2.2.2.1 k hk, hb]; rfl
  refine ⟨V1, A1, rn_i (full := cd_154) hM.1 (ok_n rfl) rfl (fun K hK => hK 0 _ _ _ ⟨_, _, ns, ⟨fun c2 => ⟨_, _, r, ⟨mt_g hM 24 (by decide), ⟨mt_l hM 24 (by decide) vk, ⟨fun c5 => ?_, fun c5 => ⟨mt_g hM 24 (by decide), ⟨mt_l hM 24 (by decide) vk, ⟨?_, rfl⟩⟩⟩⟩⟩⟩⟩, fun c2 => absurd rfl c2⟩⟩), g1, g2⟩
  · have c5 : A1 24 (nI k).toNatClampNeg < 0 := c5
    rw [e24] at c5
    exact absurd c5 (nI_pos (by omega))
  · show some (Value.int (A1 24 (nI k).toNatClampNeg)) = _
    rw [e24]
theorem M_adjusted_bad (hM : MT z0) (k h : Int32) (hb : ¬ (0 ≤ k ∧ k ≤ V 10 - 1)) : Rn (d + 11) i_M_adjusted [.ref 46, .int k, .int h] (mz z0 V A) (some (.int (-100001))) (mz z0 V (cnt A 1)) :=
  rn_i (full := cd_150) hM.1 (ok_n rfl) rfl (fun K hK => hK 0 _ _ _ ⟨_, _, M_isCard _ z0 V A hM _, ⟨fun c2 => ⟨_, _, M_fB _ z0 V A hM, rfl, rfl⟩, fun c2 => absurd (b1_f c2) hb⟩⟩)
theorem M_adjusted_kind (hW : MW z0 V A n R) (k : Nat) (hk : k < n) (h : Int32) (h2 : A 8 k = 2) : Rn (d + 11) i_M_adjusted [.ref 46, .int (nI k), .int h] (mz z0 V A) (some (.int (-100003))) (mz z0 V (cnt A 3)) := by
  obtain ⟨hM, hn, h60, _⟩ := hW
  have vk : vp_in (nI k) 60 := vp_in_nI (by omega) (by decide)
  have ck : (nI k).toNatClampNeg = k := nI_clamp (by omega)
  refine rn_i (full := cd_150) hM.1 (ok_n rfl) rfl (fun K hK => hK 0 _ _ _ ⟨_, _, M_isCard _ z0 V A hM _, ⟨fun c2 => absurd (card_rng hn hk h60) (b1_t c2), fun c2 => ⟨mt_g hM 8 (by decide), ⟨mt_l hM 8 (by decide) vk, ⟨fun c6 => ⟨_, _, M_fK _ z0 V A hM, rfl, rfl⟩, fun c6 => absurd ?_ c6⟩⟩⟩⟩⟩)
  show A 8 (nI k).toNatClampNeg = 2
  rw [ck]; exact h2
theorem M_adjusted_no (hW : MW z0 V A n R) (k : Nat) (hk : k < n) (h : Int32) (h2 : ¬ A 8 k = 2) (hb : ¬ (A 12 k ≤ h ∧ h < lastF A k)) : Rn (d + 11) i_M_adjusted [.ref 46, .int (nI k), .int h] (mz z0 V A) (some (.int (-100001))) (mz z0 V (cnt A 1)) := by
  obtain ⟨hM, hn, h60, _⟩ := hW
  have vk : vp_in (nI k) 60 := vp_in_nI (by omega) (by decide)
  have ck : (nI k).toNatClampNeg = k := nI_clamp (by omega)
  refine rn_i (full := cd_150) hM.1 (ok_n rfl) rfl (fun K hK => hK 0 _ _ _ ⟨_, _, M_isCard _ z0 V A hM _, ⟨fun c2 => absurd (card_rng hn hk h60) (b1_t c2), fun c2 => ⟨mt_g hM 8 (by decide), ⟨mt_l hM 8 (by decide) vk, ⟨fun c6 => absurd ?_ h2, fun c6 => ⟨_, _, M_hasHole (d + 8) z0 V A hM k (by omega) h, ⟨fun c10 => ⟨_, _, M_fB _ z0 V A hM, rfl, rfl⟩, fun c10 => absurd (b1_f c10) hb⟩⟩⟩⟩⟩⟩⟩)
  have c6 : A 8 (nI k).toNatClampNeg = 2 := c6
  rw [ck] at c6; exact c6
theorem M_adjusted_void (hW : MW z0 V A n R) (k : Nat) (hk : k < n) (h : Int32) (h2 : ¬ A 8 k = 2) (hb : A 12 k ≤ h ∧ h < lastF A k) (hv : ¬ A 14 k = 0) : Rn (d + 11) i_M_adjusted [.ref 46, .int (nI k), .int h] (mz z0 V A) (some (.int (-100006))) (mz z0 V (cnt A 6)) := by
  obtain ⟨hM, hn, h60, _⟩ := hW
  have vk : vp_in (nI k) 60 := vp_in_nI (by omega) (by decide)
  have ck : (nI k).toNatClampNeg = k := nI_clamp (by omega)
  refine rn_i (full := cd_150) hM.1 (ok_n rfl) rfl (fun K hK => hK 0 _ _ _ ⟨_, _, M_isCard _ z0 V A hM _, ⟨fun c2 => absurd (card_rng hn hk h60) (b1_t c2), fun c2 => ⟨mt_g hM 8 (by decide), ⟨mt_l hM 8 (by decide) vk, ⟨fun c6 => absurd ?_ h2, fun c6 => ⟨_, _, M_hasHole (d + 8) z0 V A hM k (by omega) h, ⟨fun c10 => absurd hb (b1_t c10), fun c10 => ⟨mt_g hM 14 (by decide), ⟨mt_l hM 14 (by decide) vk, ⟨fun c14 => absurd ?_ hv, fun c14 => ⟨_, _, M_fV _ z0 V A hM, rfl, rfl⟩⟩⟩⟩⟩⟩⟩⟩⟩⟩⟩)
  · have c6 : A 8 (nI k).toNatClampNeg = 2 := c6
    rw [ck] at c6; exact c6
  · have c14 : A 14 (nI k).toNatClampNeg = 0 := c14
    rw [ck] at c14; exact c14
theorem M_adjusted_ok (hW : MW z0 V A n R) (k c h : Nat) (hk : k < n) (hc : c < 4) (hh : h < 18) (hck : A 11 k = nI c) (h2 : ¬ A 8 k = 2) (hb : A 12 k ≤ nI h ∧ nI h < lastF A k) (hv : A 14 k = 0) : ∃ (V' : Nat → Int32) (A' : Nat → Nat → Int32), Rn (d + 11) i_M_adjusted [.ref 46, .int (nI k), .int (nI h)] (mz z0 V A) (some (.int (adF (A 15 (18 * k + h)) (A 2 (18 * c + h) + gvF (gfB (fB A n R) A (oF (A 10) n) n k c) (A 3 (18 * c + h)))))) (mz z0 V' A') ∧ Ag V V' ∧ AgB A A' := by
  obtain ⟨V1, A1, r, g1, g2, g3, g4⟩ := M_wb d z0 V A n R hW
  obtain ⟨hM, hn, h60, _⟩ := hW
  have vk : vp_in (nI k) 60 := vp_in_nI (by omega) (by decide)
  have ck : (nI k).toNatClampNeg = k := nI_clamp (by omega)
  obtain ⟨V2, A2, r2, q1, q2⟩ := M_givenFor (d + 3) z0 V1 A1 hM n g4 h60 _ _ g3 k c (by omega) hc (by rw [g2 11 (by decide)]; exact hck)
  rw [gfB_b g2] at r2
  have g' := AgB_t g2 (AgB_a q2)
  have r3 := M_adjustedAt (d + 7) z0 V2 A2 hM k c h (by omega) hc hh (by rw [g' 11 (by decide)]; exact hck) (gfB (fB A n R) A (oF (A 10) n) n k c)
  rw [g' 15 (by decide), g' 2 (by decide), g' 3 (by decide)] at r3
  refine ⟨V2, A2, rn_i (full := cd_150) hM.1 (ok_n rfl) rfl (fun K hK => hK 0 _ _ _ ⟨_, _, M_isCard _ z0 V A hM _, ⟨fun c2 => absurd (card_rng hn hk h60) (b1_t c2), fun c2 => ⟨mt_g hM 8 (by decide), ⟨mt_l hM 8 (by decide) vk, ⟨fun c6 => absurd ?_ h2, fun c6 => ⟨_, _, M_hasHole (d + 8) z0 V A hM k (by omega) _, ⟨fun c10 => absurd hb (b1_t c10), fun c10 => ⟨mt_g hM 14 (by decide), ⟨mt_l hM 14 (by decide) vk, ⟨fun c14 => ⟨_, _, r, ⟨_, _, r2, ⟨_, _, r3, rfl, rfl⟩⟩⟩, fun c14 => absurd ?_ c14⟩⟩⟩⟩⟩⟩⟩⟩⟩⟩), Ag_t g1 q1, g'⟩
  · have c6 : A 8 (nI k).toNatClampNeg = 2 := c6
    rw [ck] at c6; exact c6
  · show A 14 (nI k).toNatClampNeg = 0
    rw [ck]; exact hv
theorem M_number_bad (hM : MT z0) (p day : Int32) (hb : ¬ ((0 ≤ p ∧ p ≤ 11) ∧ 0 ≤ day ∧ day ≤ 9999)) : Rn (d + 11) i_M_number [.ref 46, .int p, .int day] (mz z0 V A) (some (.int (-100001))) (mz z0 V (cnt A 1)) :=
  rn_i (full := cd_156) hM.1 (ok_n rfl) rfl (fun K hK => hK 0 _ _ _ ⟨_, _, M_isAsked (d + 7) _ _ _, ⟨fun c2 => ⟨_, _, M_fB _ z0 V A hM, rfl, rfl⟩, fun c2 => absurd (b1_f c2) hb⟩⟩)
theorem M_number_ok (hW : MW z0 V A n R) (p day : Int32) (hb : (0 ≤ p ∧ p ≤ 11) ∧ 0 ≤ day ∧ day ≤ 9999) : ∃ (V' : Nat → Int32) (A' : Nat → Nat → Int32), Rn (d + 11) i_M_number [.ref 46, .int p, .int day] (mz z0 V A) (some (.int (numB (fB A n R) A (oF (A 10) n) n p day))) (mz z0 V' A') ∧ Ag V V' ∧ AgB A A' := by
  obtain ⟨V1, A1, r, g1, g2, g3, g4⟩ := M_wb d z0 V A n R hW
  obtain ⟨hM, hn, h60, _⟩ := hW
  obtain ⟨V2, A2, r2, q1, q2⟩ := M_numberOf (d + 5) z0 V1 A1 hM n g4 h60 _ _ g3 p day
  rw [numB_b g2] at r2
  exact ⟨V2, A2, rn_i (full := cd_156) hM.1 (ok_n rfl) rfl (fun K hK => hK 0 _ _ _ ⟨_, _, M_isAsked (d + 7) _ _ _, ⟨fun c2 => absurd hb (b1_t c2), fun c2 => ⟨_, _, r, ⟨_, _, r2, rfl, rfl⟩⟩⟩⟩), Ag_t g1 q1, AgB_t g2 (AgB_a q2)⟩
theorem M_last_bad (hM : MT z0) (p day : Int32) (hb : ¬ ((0 ≤ p ∧ p ≤ 11) ∧ 0 ≤ day ∧ day ≤ 9999)) : Rn (d + 11) i_M_last [.ref 46, .int p, .int day] (mz z0 V A) (some (.int (-100001))) (mz z0 V (cnt A 1)) :=
  rn_i (full := cd_158) hM.1 (ok_n rfl) rfl (fun K hK => hK 0 _ _ _ ⟨_, _, M_isAsked (d + 7) _ _ _, ⟨fun c2 => ⟨_, _, M_fB _ z0 V A hM, rfl, rfl⟩, fun c2 => absurd (b1_f c2) hb⟩⟩)
theorem M_last_ok (hW : MW z0 V A n R) (p day : Int32) (hb : (0 ≤ p ∧ p ≤ 11) ∧ 0 ≤ day ∧ day ≤ 9999) : ∃ (V' : Nat → Int32) (A' : Nat → Nat → Int32), Rn (d + 11) i_M_last [.ref 46, .int p, .int day] (mz z0 V A) (some (.int (nI (m20 (gM (fB A n R) A (oF (A 10) n) n p day))))) (mz z0 V' A') ∧ Ag V V' ∧ AgB A A' := by
  obtain ⟨V1, A1, r, g1, g2, g3, g4⟩ := M_wb d z0 V A n R hW
  obtain ⟨hM, hn, h60, _⟩ := hW
  obtain ⟨L, r2, _⟩ := M_last (d + 9) z0 V1 A1 hM n g4 h60 _ _ g3 p day
  rw [gM_b g2] at r2
  refine ⟨_, _, rn_i (full := cd_158) hM.1 (ok_n rfl) rfl (fun K hK => hK 0 _ _ _ ⟨_, _, M_isAsked (d + 7) _ _ _, ⟨fun c2 => absurd hb (b1_t c2), fun c2 => ⟨_, _, r, ⟨_, _, r2, ⟨hM.1, rfl, rfl⟩⟩⟩⟩⟩), ?_, ?_⟩
  · intro k a b c
    show (if k = 29 then _ else V1 k) = V k
    rw [if_neg a]; exact g1 k a b c
  · intro j hj
    show (if j = 25 then L else A1 j) = A j
    rw [if_neg (by omega)]; exact g2 j hj
theorem M_makes_bad (hM : MT z0) (p day i : Int32) (hb : ¬ ((0 ≤ p ∧ p ≤ 11) ∧ 0 ≤ day ∧ day ≤ 9999)) : Rn (d + 11) i_M_makes [.ref 46, .int p, .int day, .int i] (mz z0 V A) (some (.int (-100001))) (mz z0 V (cnt A 1)) :=
  rn_i (full := cd_159) hM.1 (ok_n rfl) rfl (fun K hK => hK 0 _ _ _ ⟨_, _, M_isAsked (d + 7) _ _ _, ⟨fun c2 => ⟨_, _, M_fB _ z0 V A hM, rfl, rfl⟩, fun c2 => absurd (b1_f c2) hb⟩⟩)
/-- how many make RAW, and the i-th of them -/
def mkN (b : Bk) (A : Nat → Nat → Int32) (O : Nat → Nat) (n : Nat) (p day : Int32) : Nat := tkN (m20 (gM b A O n p day))
def mkI (b : Bk) (A : Nat → Nat → Int32) (O : Nat → Nat) (n : Nat) (p day : Int32) (i : Nat) : Nat := (gM b A O n p day).getD ((sp (wl b (gM b A O n p day)) (m20 (gM b A O n p day))).getD i 0) 0
theorem mkN_le (b : Bk) (A : Nat → Nat → Int32) (O : Nat → Nat) (n : Nat) (p day : Int32) : mkN b A O n p day ≤ 8 := (tkN_le _ (by unfold m20; omega)).2
theorem M_makes_none (hW : MW z0 V A n R) (p day i : Int32) (hb : (0 ≤ p ∧ p ≤ 11) ∧ 0 ≤ day ∧ day ≤ 9999) (hi : ¬ (0 ≤ i ∧ i < nI (mkN (fB A n R) A (oF (A 10) n) n p day))) : ∃ (V' : Nat → Int32) (A' : Nat → Nat → Int32), Rn (d + 11) i_M_makes [.ref 46, .int p, .int day, .int i] (mz z0 V A) (some (.int (-100002))) (mz z0 V' A') ∧ Ag V V' ∧ AgB (cnt A 2) A' := by
  obtain ⟨V1, A1, r, g1, g2, g3, g4⟩ := M_wb d z0 V A n R hW
  obtain ⟨hM, hn, h60, _⟩ := hW
  obtain ⟨V2, A2, r2, q1, q2, _, h29, h31, h26⟩ := M_findMakers (d + 8) z0 V1 A1 hM n g4 h60 _ _ g3 p day
  rw [gM_b g2] at h31
  have h31 : V2 31 = nI (mkN (fB A n R) A (oF (A 10) n) n p day) := h31
  have le := mkN_le (fB A n R) A (oF (A 10) n) n p day
  refine ⟨V2, cnt A2 2, rn_i (full := cd_159) hM.1 (ok_n rfl) rfl (fun K hK => hK 0 _ _ _ ⟨_, _, M_isAsked (d + 7) _ _ _, ⟨fun c2 => absurd hb (b1_t c2), fun c2 => ⟨_, _, r, ⟨_, _, r2, ⟨hM.1, ⟨_, _, M_in (d + 9) _ _ _ _, ⟨fun c8 => ⟨_, _, M_fN _ z0 V2 A2 hM, rfl, rfl⟩, fun c8 => absurd ?_ hi⟩⟩⟩⟩⟩⟩⟩), Ag_t g1 q1, cnt_b (AgB_t g2 (AgB_a q2)) 2⟩
  have c8 : 0 ≤ i ∧ i ≤ V2 31 - 1 := b1_f c8
  refine ⟨c8.1, ?_⟩
  rw [h31] at c8
  generalize mkN (fB A n R) A (oF (A 10) n) n p day = m at c8 le ⊢
  have h0 := c8.1
  have h1 := c8.2
  rw [i32_le] at h0 h1
  rw [i32_lt, nI_toInt (by omega)]
  cases m with
  | zero => exact absurd h1 (by rw [show (nI 0 - 1 : Int32).toInt = -1 by decide]; rw [show ((0 : Int32)).toInt = 0 by decide] at h0; omega)
  | succ m => rw [nI_pred, nI_toInt (by omega)] at h1; omega
theorem M_makes_ok (hW : MW z0 V A n R) (p day : Int32) (i : Nat) (hb : (0 ≤ p ∧ p ≤ 11) ∧ 0 ≤ day ∧ day ≤ 9999) (hi : i < mkN (fB A n R) A (oF (A 10) n) n p day) : ∃ (V' : Nat → Int32) (A' : Nat → Nat → Int32), Rn (d + 11) i_M_makes [.ref 46, .int p, .int day, .int (nI i)] (mz z0 V A) (some (.int (nI (mkI (fB A n R) A (oF (A 10) n) n p day i)))) (mz z0 V' A') ∧ Ag V V' ∧ AgB A A' := by
  obtain ⟨V1, A1, r, g1, g2, g3, g4⟩ := M_wb d z0 V A n R hW
  obtain ⟨hM, hn, h60, _⟩ := hW
  obtain ⟨V2, A2, r2, q1, q2, _, h29, h31, h26⟩ := M_findMakers (d + 8) z0 V1 A1 hM n g4 h60 _ _ g3 p day
  rw [gM_b g2] at h31 h26
  have h31 : V2 31 = nI (mkN (fB A n R) A (oF (A 10) n) n p day) := h31
  have le := mkN_le (fB A n R) A (oF (A 10) n) n p day
  have vi : vp_in (nI i) 8 := vp_in_nI (by omega) (by decide)
  have ci : (nI i).toNatClampNeg = i := nI_clamp (by omega)
  refine ⟨V2, A2, rn_i (full := cd_159) hM.1 (ok_n rfl) rfl (fun K hK => hK 0 _ _ _ ⟨_, _, M_isAsked (d + 7) _ _ _, ⟨fun c2 => absurd hb (b1_t c2), fun c2 => ⟨_, _, r, ⟨_, _, r2, ⟨hM.1, ⟨_, _, M_in (d + 9) _ _ _ _, ⟨fun c8 => absurd ?_ (b1_t c8), fun c8 => ⟨mt_g hM 26 (by decide), ⟨mt_l hM 26 (by decide) vi, ⟨?_, rfl⟩⟩⟩⟩⟩⟩⟩⟩⟩⟩), Ag_t g1 q1, AgB_t g2 (AgB_a q2)⟩
  · show 0 ≤ nI i ∧ nI i ≤ V2 31 - 1
    rw [h31]
    generalize mkN (fB A n R) A (oF (A 10) n) n p day = m at hi le ⊢
    cases m with
    | zero => omega
    | succ m => rw [nI_pred]; exact ⟨nI_pos' (by omega), nI_le (by omega) (by omega)⟩
  · show some (Value.int (A2 26 (nI i).toNatClampNeg)) = _
    rw [ci, h26 i hi]; rfl
theorem M_given_bad (hM : MT z0) (p c day : Int32) (hb : ¬ (((0 ≤ p ∧ p ≤ 11) ∧ 0 ≤ day ∧ day ≤ 9999) ∧ 0 ≤ c ∧ c ≤ 3)) : Rn (d + 11) i_M_given [.ref 46, .int p, .int c, .int day] (mz z0 V A) (some (.int (-100001))) (mz z0 V (cnt A 1)) :=
  rn_i (full := cd_160) hM.1 (ok_n rfl) rfl (fun K hK => hK 0 _ _ _ ⟨_, _, M_isAsked (d + 7) _ _ _, ⟨fun c2 => ⟨_, _, M_fB _ z0 V A hM, rfl, rfl⟩, fun c2 => ⟨_, _, M_isCourse (d + 8) _ _, ⟨fun c6 => ⟨_, _, M_fB _ z0 V A hM, rfl, rfl⟩, fun c6 => absurd ⟨b1_f c2, b1_f c6⟩ hb⟩⟩⟩⟩)
theorem M_given_ok (hW : MW z0 V A n R) (p day : Int32) (c : Nat) (hc : c < 4) (hb : (0 ≤ p ∧ p ≤ 11) ∧ 0 ≤ day ∧ day ≤ 9999) : ∃ (V' : Nat → Int32) (A' : Nat → Nat → Int32), Rn (d + 11) i_M_given [.ref 46, .int p, .int (nI c), .int day] (mz z0 V A) (some (.int (gvT (numB (fB A n R) A (oF (A 10) n) n p day) A c))) (mz z0 V' A') ∧ Ag V V' ∧ AgB A A' := by
  obtain ⟨V1, A1, r, g1, g2, g3, g4⟩ := M_wb d z0 V A n R hW
  obtain ⟨hM, hn, h60, _⟩ := hW
  obtain ⟨V2, A2, r2, q1, q2⟩ := M_givenTo (d + 4) z0 V1 A1 hM n g4 h60 _ _ g3 p day c hc
  have e : gvT (numB (fB A n R) A1 (oF (A 10) n) n p day) A1 c = gvT (numB (fB A n R) A (oF (A 10) n) n p day) A c := by
    unfold gvT; rw [numB_b g2, parsF_eq (g2 2 (by decide)), g2 0 (by decide), g2 1 (by decide)]
  rw [e] at r2
  exact ⟨V2, A2, rn_i (full := cd_160) hM.1 (ok_n rfl) rfl (fun K hK => hK 0 _ _ _ ⟨_, _, M_isAsked (d + 7) _ _ _, ⟨fun c2 => absurd hb (b1_t c2), fun c2 => ⟨_, _, M_isCourse (d + 8) _ _, ⟨fun c6 => absurd (nI_rng (N := 3) (by omega) (by decide)) (b1_t c6), fun c6 => ⟨_, _, r, ⟨_, _, r2, rfl, rfl⟩⟩⟩⟩⟩⟩), Ag_t g1 q1, AgB_t g2 (AgB_a q2)⟩
theorem M_raw_bad (hM : MT z0) (p day l : Int32) (hb : ¬ ((0 ≤ p ∧ p ≤ 11) ∧ 0 ≤ day ∧ day ≤ 9999)) : Rn (d + 11) i_M_raw [.ref 46, .int p, .int day, .int l] (mz z0 V A) (some (.int (-100001))) (mz z0 V (cnt A 1)) :=
  rn_i (full := cd_157) hM.1 (ok_n rfl) rfl (fun K hK => hK 0 _ _ _ ⟨_, _, M_isAsked (d + 7) _ _ _, ⟨fun c2 => ⟨_, _, M_fB _ z0 V A hM, rfl, rfl⟩, fun c2 => absurd (b1_f c2) hb⟩⟩)
def orN : Option Int32 → Int32
  | none => -100002
  | some v => v
def orC (A : Nat → Nat → Int32) : Option Int32 → Nat → Nat → Int32
  | none => cnt A 2
  | some _ => A
theorem M_raw_low (hW : MW z0 V A n R) (p day l : Int32) (hl : ¬ l = 0) (hb : (0 ≤ p ∧ p ≤ 11) ∧ 0 ≤ day ∧ day ≤ 9999) : ∃ (V' : Nat → Int32) (A' : Nat → Nat → Int32), Rn (d + 11) i_M_raw [.ref 46, .int p, .int day, .int l] (mz z0 V A) (some (.int (orN (lowF (fB A n R) A (oF (A 10) n) n p day n)))) (mz z0 V' A') ∧ Ag V V' ∧ AgB (orC A (lowF (fB A n R) A (oF (A 10) n) n p day n)) A' := by
  obtain ⟨V1, A1, r, g1, g2, g3, g4⟩ := M_wb d z0 V A n R hW
  obtain ⟨hM, hn, h60, _⟩ := hW
  obtain ⟨V2, A2, r2, q1, q2, h34⟩ := M_lowOf (d + 6) z0 V1 A1 hM n g4 h60 _ _ g3 p day
  rw [lowF_b g2] at r2 h34
  have aV := Ag_t g1 q1
  have aA := AgB_t g2 (AgB_a q2)
  cases hlo : lowF (fB A n R) A (oF (A 10) n) n p day n with
  | none =>
    rw [hlo] at h34
    exact ⟨V2, cnt A2 2, rn_i (full := cd_157) hM.1 (ok_n rfl) rfl (fun K hK => hK 0 _ _ _ ⟨_, _, M_isAsked (d + 7) _ _ _, ⟨fun c2 => absurd hb (b1_t c2), fun c2 => ⟨_, _, r, ⟨_, _, r2, ⟨fun c7 => absurd c7 hl, fun c7 => ⟨hM.1, ⟨fun c14 => ⟨_, _, M_fN _ z0 V2 A2 hM, rfl, rfl⟩, fun c14 => absurd h34 c14⟩⟩⟩⟩⟩⟩⟩), aV, cnt_b aA 2⟩
  | some v =>
    rw [hlo] at h34 r2
    refine ⟨V2, A2, rn_i (full := cd_157) hM.1 (ok_n rfl) rfl (fun K hK => hK 0 _ _ _ ⟨_, _, M_isAsked (d + 7) _ _ _, ⟨fun c2 => absurd hb (b1_t c2), fun c2 => ⟨_, _, r, ⟨_, _, r2, ⟨fun c7 => absurd c7 hl, fun c7 => ⟨hM.1, ⟨fun c14 => absurd (h34.symm.trans c14) nz1, fun c14 => ⟨rfl, rfl⟩⟩⟩⟩⟩⟩⟩⟩), aV, aA⟩
theorem M_raw_raw (hW : MW z0 V A n R) (p day : Int32) (hb : (0 ≤ p ∧ p ≤ 11) ∧ 0 ≤ day ∧ day ≤ 9999) : ∃ (V' : Nat → Int32) (A' : Nat → Nat → Int32), Rn (d + 11) i_M_raw [.ref 46, .int p, .int day, .int 0] (mz z0 V A) (some (.int (orN (rawO (fB A n R) (gM (fB A n R) A (oF (A 10) n) n p day))))) (mz z0 V' A') ∧ Ag V V' ∧ AgB (orC A (rawO (fB A n R) (gM (fB A n R) A (oF (A 10) n) n p day))) A' := by
  obtain ⟨V1, A1, r, g1, g2, g3, g4⟩ := M_wb d z0 V A n R hW
  obtain ⟨hM, hn, h60, _⟩ := hW
  obtain ⟨V2, A2, r2, q1, q2, h34⟩ := M_lowOf (d + 6) z0 V1 A1 hM n g4 h60 _ _ g3 p day
  have h10 : V2 10 = nI n := (q1 10 (by decide) (by decide) (by decide)).trans g4
  have hB2 := BR_ag q2 g3
  have aA2 := AgB_t g2 (AgB_a q2)
  obtain ⟨V3, A3, r3, s1, s2, _, h29, h31, h26⟩ := M_findMakers (d + 8) z0 V2 A2 hM n h10 h60 _ _ hB2 p day
  have lt := fun j => gM_lt hB2 p day j
  rw [gM_b aA2] at h29 h31 h26 lt
  have e20 : A3 20 = A2 20 := s2 20 (by decide) (by decide) (by decide)
  have aV := Ag_t (Ag_t g1 q1) s1
  have aA := AgB_t aA2 (AgB_a s2)
  have tl := tkN_le (m20 (gM (fB A n R) A (oF (A 10) n) n p day)) (by unfold m20; omega)
  by_cases h0 : tkN (m20 (gM (fB A n R) A (oF (A 10) n) n p day)) = 0
  · have e : rawO (fB A n R) (gM (fB A n R) A (oF (A 10) n) n p day) = none := by unfold rawO; rw [if_pos h0]
    rw [e]
    refine ⟨V3, cnt A3 2, rn_i (full := cd_157) hM.1 (ok_n rfl) rfl (fun K hK => hK 0 _ _ _ ⟨_, _, M_isAsked (d + 7) _ _ _, ⟨fun c2 => absurd hb (b1_t c2), fun c2 => ⟨_, _, r, ⟨_, _, r2, ⟨fun c7 => ⟨_, _, r3, ⟨hM.1, ⟨fun c9 => ⟨_, _, M_fN _ z0 V3 A3 hM, rfl, rfl⟩, fun c9 => absurd ?_ c9⟩⟩⟩, fun c7 => absurd rfl c7⟩⟩⟩⟩⟩), aV, cnt_b aA 2⟩
    show V3 31 ≤ 0
    rw [h31, h0]; decide
  · have e : rawO (fB A n R) (gM (fB A n R) A (oF (A 10) n) n p day) = some (rwL (fB A n R) (gM (fB A n R) A (oF (A 10) n) n p day)) := by unfold rawO; rw [if_neg h0]
    rw [e]
    have rr := M_raw (d + 7) z0 V3 A3 hM (fB A n R) _ n h60 (fun j hj => by rw [e20]; exact lt j hj) h29 h31 h26 h0
    refine ⟨V3, A3, rn_i (full := cd_157) hM.1 (ok_n rfl) rfl (fun K hK => hK 0 _ _ _ ⟨_, _, M_isAsked (d + 7) _ _ _, ⟨fun c2 => absurd hb (b1_t c2), fun c2 => ⟨_, _, r, ⟨_, _, r2, ⟨fun c7 => ⟨_, _, r3, ⟨hM.1, ⟨fun c9 => ?_, fun c9 => ⟨_, _, rr, rfl, rfl⟩⟩⟩⟩, fun c7 => absurd rfl c7⟩⟩⟩⟩⟩), aV, aA⟩
    have c9 : V3 31 ≤ 0 := c9
    rw [h31] at c9
    exact absurd c9 (nI_nle (by omega) (by omega))
end MQue
