/-! The model's match place check count. Own work. -/
section MQ3
variable (d : Nat) (z0 : ZS) (V : Nat → Int32) (A : Nat → Nat → Int32) (n R : Nat)
theorem M_match_bad (hM : MT z0) (a b : Int32) (hb : ¬ ((0 ≤ a ∧ a ≤ V 10 - 1) ∧ (0 ≤ b ∧ b ≤ V 10 - 1))) : Rn (d + 11) i_M_match [.ref 46, .int a, .int b] (mz z0 V A) (some (.int (-100001))) (mz z0 V (cnt A 1)) :=
  rn_i (full := cd_166) hM.1 (ok_n rfl) rfl (fun K hK => hK 0 _ _ _ ⟨_, _, M_isCard _ z0 V A hM _, ⟨fun c2 => ⟨_, _, M_fB _ z0 V A hM, rfl, rfl⟩, fun c2 => ⟨_, _, M_isCard _ z0 V A hM _, ⟨fun c6 => ⟨_, _, M_fB _ z0 V A hM, rfl, rfl⟩, fun c6 => absurd ⟨b1_f c2, b1_f c6⟩ hb⟩⟩⟩⟩)
theorem M_match_kind (hW : MW z0 V A n R) (a b : Nat) (ha : a < n) (hb : b < n) (hx : ¬ (A 8 a = 0 ∧ A 8 b = 0 ∧ A 11 a = A 11 b)) : Rn (d + 11) i_M_match [.ref 46, .int (nI a), .int (nI b)] (mz z0 V A) (some (.int (-100003))) (mz z0 V (cnt A 3)) := by
  obtain ⟨hM, hn, h60, _⟩ := hW
  have va : vp_in (nI a) 60 := vp_in_nI (by omega) (by decide)
  have ca : (nI a).toNatClampNeg = a := nI_clamp (by omega)
  have vb : vp_in (nI b) 60 := vp_in_nI (by omega) (by decide)
  have cb : (nI b).toNatClampNeg = b := nI_clamp (by omega)
  refine rn_i (full := cd_166) hM.1 (ok_n rfl) rfl (fun K hK => hK 0 _ _ _ ⟨_, _, M_isCard _ z0 V A hM _, ⟨fun c2 => absurd (card_rng hn ha h60) (b1_t c2), fun c2 => ⟨_, _, M_isCard _ z0 V A hM _, ⟨fun c6 => absurd (card_rng hn hb h60) (b1_t c6),
    fun c6 => ⟨mt_g hM 8 (by decide), ⟨mt_l hM 8 (by decide) va, ⟨fun c10 => ⟨mt_g hM 8 (by decide), ⟨mt_l hM 8 (by decide) vb, ⟨fun c12 => ⟨mt_g hM 11 (by decide), ⟨mt_l hM 11 (by decide) va, ⟨mt_g hM 11 (by decide), ⟨mt_l hM 11 (by decide) vb, ⟨fun c15 => absurd ?_ hx,
          fun c15 => ⟨_, _, M_fK _ z0 V A hM, rfl, rfl⟩⟩⟩⟩⟩⟩,
        fun c12 => ⟨_, _, M_fK _ z0 V A hM, rfl, rfl⟩⟩⟩⟩,
      fun c10 => ⟨_, _, M_fK _ z0 V A hM, rfl, rfl⟩⟩⟩⟩⟩⟩⟩⟩)
  have c10 : A 8 (nI a).toNatClampNeg = 0 := c10
  have c12 : A 8 (nI b).toNatClampNeg = 0 := c12
  have c15 : A 11 (nI a).toNatClampNeg = A 11 (nI b).toNatClampNeg := c15
  rw [ca] at c10 c15; rw [cb] at c12 c15
  exact ⟨c10, c12, c15⟩
/-- who wins a hole -/
def wnB (b : Bk) (A : Nat → Nat → Int32) (O : Nat → Nat) (n x y c h : Nat) : Int32 := wnF (A 15 (18 * x + h)) (gvF (gfB b A O n x c) (A 3 (18 * c + h))) (A 15 (18 * y + h)) (gvF (gfB b A O n y c) (A 3 (18 * c + h)))
theorem M_match_ok (hW : MW z0 V A n R) (a b c : Nat) (ha : a < n) (hb : b < n) (h8a : A 8 a = 0) (h8b : A 8 b = 0) (hc : c < 4) (hca : A 11 a = nI c) (hcb : A 11 b = nI c) : ∃ (V' : Nat → Int32) (A' : Nat → Nat → Int32), Rn (d + 11) i_M_match [.ref 46, .int (nI a), .int (nI b)] (mz z0 V A) (some (.int (maF (wnB (fB A n R) A (oF (A 10) n) n a b c) 18 0 0))) (mz z0 V' A') ∧ Ag V V' ∧ AgB A A' := by
  obtain ⟨V1, A1, r, g1, g2, g3, g4⟩ := M_wb d z0 V A n R hW
  obtain ⟨hM, hn, h60, _⟩ := hW
  have va : vp_in (nI a) 60 := vp_in_nI (by omega) (by decide)
  have ca : (nI a).toNatClampNeg = a := nI_clamp (by omega)
  have vb : vp_in (nI b) 60 := vp_in_nI (by omega) (by decide)
  have cb : (nI b).toNatClampNeg = b := nI_clamp (by omega)
  obtain ⟨V2, A2, r2, q1, q2⟩ := M_givenFor (d + 3) z0 V1 A1 hM n g4 h60 _ _ g3 a c (by omega) hc (by rw [g2 11 (by decide)]; exact hca)
  have h10 : V2 10 = nI n := (q1 10 (by decide) (by decide) (by decide)).trans g4
  have g' := AgB_t g2 (AgB_a q2)
  obtain ⟨V3, A3, r3, s1, s2⟩ := M_givenFor (d + 3) z0 V2 A2 hM n h10 h60 _ _ (BR_ag q2 g3) b c (by omega) hc (by rw [g' 11 (by decide)]; exact hcb)
  rw [gfB_b g2] at r2
  rw [gfB_b g'] at r3
  have g'' := AgB_t g' (AgB_a s2)
  have wn : ∀ h, h < 18 → Rn (d + 10) i_M_winner [.ref 46, .int (nI a), .int (gfB (fB A n R) A (oF (A 10) n) n a c), .int (nI b), .int (gfB (fB A n R) A (oF (A 10) n) n b c), .int (nI h)] (mz z0 V3 A3) (some (.int (wnB (fB A n R) A (oF (A 10) n) n a b c h))) (mz z0 V3 A3) := by
    intro h hh
    have := M_winner (d + 7) z0 V3 A3 hM a b c h (by omega) (by omega) hc hh (by rw [g'' 11 (by decide)]; exact hca) (by rw [g'' 11 (by decide)]; exact hcb) (gfB (fB A n R) A (oF (A 10) n) n a c) (gfB (fB A n R) A (oF (A 10) n) n b c)
    rw [g'' 15 (by decide), g'' 3 (by decide)] at this
    exact this
  refine ⟨V3, A3, rn_i (full := cd_166) hM.1 (ok_n rfl) rfl (fun K hK => hK 0 _ _ _ ⟨_, _, M_isCard _ z0 V A hM _, ⟨fun c2 => absurd (card_rng hn ha h60) (b1_t c2), fun c2 => ⟨_, _, M_isCard _ z0 V A hM _, ⟨fun c6 => absurd (card_rng hn hb h60) (b1_t c6),
    fun c6 => ⟨mt_g hM 8 (by decide), ⟨mt_l hM 8 (by decide) va, ⟨fun c10 => ⟨mt_g hM 8 (by decide), ⟨mt_l hM 8 (by decide) vb, ⟨fun c12 => ⟨mt_g hM 11 (by decide), ⟨mt_l hM 11 (by decide) va, ⟨mt_g hM 11 (by decide), ⟨mt_l hM 11 (by decide) vb, ⟨fun c15 => ⟨_, _, r, ⟨_, _, r2, ⟨_, _, r3, ?_⟩⟩⟩,
          fun c15 => absurd ?_ c15⟩⟩⟩⟩⟩,
        fun c12 => absurd ?_ c12⟩⟩⟩,
      fun c10 => absurd ?_ c10⟩⟩⟩⟩⟩⟩⟩), Ag_t (Ag_t g1 q1) s1, g''⟩
  · generalize gfB (fB A n R) A (oF (A 10) n) n a c = ga at wn ⊢
    generalize gfB (fB A n R) A (oF (A 10) n) n b c = gb at wn ⊢
    generalize wnB (fB A n R) A (oF (A 10) n) n a b c = w at wn hK
    generalize hXX : maF w 18 0 0 = X at hK
    show K 86 [.ref 46, .int (nI a), .int (nI b), .int ga, .int gb, .int 0, .int (nI 0), .null] [] (mz z0 V3 A3)
    refine loop_up (P := fun h => ∀ (up : Int32) (v : Value), maF w (18 - h) up h = X → K 86 [.ref 46, .int (nI a), .int (nI b), .int ga, .int gb, .int up, .int (nI h), v] [] (mz z0 V3 A3)) 18 (fun h hh ih up v hm => ?_) 0 (by omega) 0 .null hXX
    by_cases h18 : h < 18
    · have ih := ih h18
      rw [show 18 - h = (18 - (h + 1)) + 1 by omega] at hm
      unfold maF at hm
      have nl : ¬ (18 : Int32) ≤ nI h := nI_ge (b := 18) h18 (by decide)
      refine hK 49 _ _ _ ⟨fun c1 => absurd c1 nl, fun c1 => ⟨_, _, wn h h18, ⟨fun c4 => ?_, fun c4 => ⟨fun c6 => ?_, fun c6 => ?_⟩⟩⟩⟩
      · have c4 : 17 - nI h < up + w h := c4
        rw [if_pos (Or.inl c4)] at hm
        subst hm; exact ⟨rfl, rfl⟩
      · have c4 : ¬ 17 - nI h < up + w h := c4
        have c6 : -(up + w h) ≤ 17 - nI h := c6
        rw [if_neg (fun q => q.elim c4 (fun q => q c6))] at hm
        have g := ih (up + w h) (.int (17 - nI h)) hm
        rw [nI_succ] at g
        exact g
      · have c6 : ¬ -(up + w h) ≤ 17 - nI h := c6
        rw [if_pos (Or.inr c6)] at hm
        subst hm; exact ⟨rfl, rfl⟩
    · have : h = 18 := by omega
      subst this
      refine hK 49 _ _ _ ⟨fun c1 => ⟨?_, rfl⟩, fun c1 => absurd (Int32.le_refl _) c1⟩
      subst hm; rfl
  · show A 11 (nI a).toNatClampNeg = A 11 (nI b).toNatClampNeg
    rw [ca, cb, hca, hcb]
  · show A 8 (nI b).toNatClampNeg = 0
    rw [cb]; exact h8b
  · show A 8 (nI a).toNatClampNeg = 0
    rw [ca]; exact h8a
def ahB (b : Bk) (A : Nat → Nat → Int32) (O : Nat → Nat) (n x y c : Nat) : Bool := ahS (pfB b A O n x c) (pfB b A O n y c) (decide (x < y)) 5 0
theorem ahB_b {A A' : Nat → Nat → Int32} (h : AgB A A') (b : Bk) (O : Nat → Nat) (n x y c : Nat) : ahB b A' O n x y c = ahB b A O n x y c := by
  unfold ahB
  rw [show pfB b A' O n x c = pfB b A O n x c from funext (fun _ => pfB_b h b O n x c _), show pfB b A' O n y c = pfB b A O n y c from funext (fun _ => pfB_b h b O n y c _)]
theorem M_isAhead (hM : MT z0) (hn : V 10 = nI n) (h60 : n ≤ 60) (O : Nat → Nat) (b : Bk) (hB : BR A n O b) (x y c : Nat) (hx : x < 60) (hy : y < 60) (hc : c < 4) (hcx : A 11 x = nI c) (hcy : A 11 y = nI c) (hCx : CK A x) (hCy : CK A y) : ∃ (V' : Nat → Int32) (A' : Nat → Nat → Int32), Rn (d + 9) i_M_isAhead [.ref 46, .int (nI x), .int (nI y)] (mz z0 V A) (some (.int (if ahB b A O n x y c = true then 1 else 0))) (mz z0 V' A') ∧ Ag V V' ∧ AgA A A' := by
  have q : Rq (d + 9) i_M_isAhead [.ref 46, .int (nI x), .int (nI y)] (mz z0 V A) (fun r z' => ∃ (V' : Nat → Int32) (A' : Nat → Nat → Int32), r = some (.int (if ahB b A O n x y c = true then 1 else 0)) ∧ z' = mz z0 V' A' ∧ Ag V V' ∧ AgA A A') := by
    refine rq_i (full := cd_167) hM.1 (fun r z' h => by obtain ⟨_, _, e, _⟩ := h; rw [e]; exact ok_b) rfl (fun K hK => hK 0 _ _ _ ?_)
    have pt : ∀ (V' : Nat → Int32) (A' : Nat → Nat → Int32), Ag V V' → AgA A A' → ∀ fm, fm ≤ 18 → ∃ (V1 : Nat → Int32) (A1 : Nat → Nat → Int32) (V2 : Nat → Int32) (A2 : Nat → Nat → Int32), Rn (d + 8) i_M_pointsFrom [.ref 46, .int (nI x), .int (nI fm)] (mz z0 V' A') (some (.int (pfB b A O n x c fm))) (mz z0 V1 A1) ∧ Rn (d + 8) i_M_pointsFrom [.ref 46, .int (nI y), .int (nI fm)] (mz z0 V1 A1) (some (.int (pfB b A O n y c fm))) (mz z0 V2 A2) ∧ Ag V V2 ∧ AgA A A2 := by
      intro V' A' hV hA fm hfm
      obtain ⟨V1, A1, r1, a1, aa1⟩ := M_pointsFrom d z0 V' A' n hM ((hV 10 (by decide) (by decide) (by decide)).trans hn) h60 O b (BR_ag hA hB) x c fm hx hc (by rw [hA 11 (by decide) (by decide) (by decide)]; exact hcx) (CK_ag hA hCx) hfm
      have hV1 := Ag_t hV a1
      have hA1 := AgA_t hA aa1
      obtain ⟨V2, A2, r2, a2, aa2⟩ := M_pointsFrom d z0 V1 A1 n hM ((hV1 10 (by decide) (by decide) (by decide)).trans hn) h60 O b (BR_ag hA1 hB) y c fm hy hc (by rw [hA1 11 (by decide) (by decide) (by decide)]; exact hcy) (CK_ag hA1 hCy) hfm
      rw [pfB_b (AgB_a hA)] at r1
      rw [pfB_b (AgB_a hA1)] at r2
      exact ⟨V1, A1, V2, A2, r1, r2, Ag_t hV1 a2, AgA_t hA1 aa2⟩
    have fin : ahB b A O n x y c = ahS (pfB b A O n x c) (pfB b A O n y c) (decide (x < y)) 5 0 := rfl
    generalize pfB b A O n x c = pa at pt fin
    generalize pfB b A O n y c = pb at pt fin
    generalize ahB b A O n x y c = X at fin hK
    refine loop_up (P := fun k => ∀ (V' : Nat → Int32) (A' : Nat → Nat → Int32) (v4 v5 v6 : Value), Ag V V' → AgA A A' → X = ahS pa pb (decide (x < y)) (5 - k) k → K 2 [.ref 46, .int (nI x), .int (nI y), .int (nI k), v4, v5, v6] [] (mz z0 V' A')) 5 (fun k hk ih V' A' v4 v5 v6 hV hA hX => ?_) 0 (by omega) V A .null .null .null (Ag_r V) (AgA_r A) fin
    have k5 : k = 0 ∨ k = 1 ∨ k = 2 ∨ k = 3 ∨ k = 4 ∨ k = 5 := by omega
    rcases k5 with e | e | e | e | e | e <;> subst e
    · obtain ⟨V1, A1, V2, A2, r1, r2, w1, w2⟩ := pt V' A' hV hA 0 (by decide)
      have ih := ih (by decide)
      have hX : X = if pa 0 = pb 0 then ahS pa pb (decide (x < y)) 4 1 else decide (¬ pa 0 ≤ pb 0) := hX
      refine hK 2 _ _ _ ⟨fun c1 => absurd c1 (show ¬ (5 : Int32) ≤ nI 0 by decide), fun c1 => ⟨fun c5 => ⟨_, _, r1, ⟨_, _, r2, ⟨fun c8 => ?_, fun c8 => ⟨fun c10 => ?_, fun c10 => ?_⟩⟩⟩⟩, fun c5 => absurd rfl c5⟩⟩
      · have c8 : pa 0 = pb 0 := c8
        rw [if_pos c8] at hX
        exact ih V2 A2 _ _ _ w1 w2 hX
      · have c8 : ¬ pa 0 = pb 0 := c8
        have c10 : pa 0 ≤ pb 0 := c10
        rw [if_neg c8] at hX
        refine ⟨V2, A2, ?_, rfl, w1, w2⟩
        rw [hX, if_neg (fun w => absurd c10 (of_decide_eq_true w))]
      · have c8 : ¬ pa 0 = pb 0 := c8
        have c10 : ¬ pa 0 ≤ pb 0 := c10
        rw [if_neg c8] at hX
        refine ⟨V2, A2, ?_, rfl, w1, w2⟩
        rw [hX, if_pos (decide_eq_true c10)]
    · obtain ⟨V1, A1, V2, A2, r1, r2, w1, w2⟩ := pt V' A' hV hA 9 (by decide)
      have ih := ih (by decide)
      have hX : X = if pa 9 = pb 9 then ahS pa pb (decide (x < y)) 3 2 else decide (¬ pa 9 ≤ pb 9) := hX
      refine hK 2 _ _ _ ⟨fun c1 => absurd c1 (show ¬ (5 : Int32) ≤ nI 1 by decide), fun c1 => ⟨fun c5 => absurd c5 (show ¬ nI 1 = nI 0 by decide), fun c5 => ⟨fun c13 => ⟨_, _, r1, ⟨_, _, r2, ⟨fun c8 => ?_, fun c8 => ⟨fun c10 => ?_, fun c10 => ?_⟩⟩⟩⟩, fun c13 => absurd rfl c13⟩⟩⟩
      · have c8 : pa 9 = pb 9 := c8
        rw [if_pos c8] at hX
        exact ih V2 A2 _ _ _ w1 w2 hX
      · have c8 : ¬ pa 9 = pb 9 := c8
        have c10 : pa 9 ≤ pb 9 := c10
        rw [if_neg c8] at hX
        refine ⟨V2, A2, ?_, rfl, w1, w2⟩
        rw [hX, if_neg (fun w => absurd c10 (of_decide_eq_true w))]
      · have c8 : ¬ pa 9 = pb 9 := c8
        have c10 : ¬ pa 9 ≤ pb 9 := c10
        rw [if_neg c8] at hX
        refine ⟨V2, A2, ?_, rfl, w1, w2⟩
        rw [hX, if_pos (decide_eq_true c10)]
    · obtain ⟨V1, A1, V2, A2, r1, r2, w1, w2⟩ := pt V' A' hV hA 12 (by decide)
      have ih := ih (by decide)
      have hX : X = if pa 12 = pb 12 then ahS pa pb (decide (x < y)) 2 3 else decide (¬ pa 12 ≤ pb 12) := hX
      refine hK 2 _ _ _ ⟨fun c1 => absurd c1 (show ¬ (5 : Int32) ≤ nI 2 by decide), fun c1 => ⟨fun c5 => absurd c5 (show ¬ nI 2 = nI 0 by decide), fun c5 => ⟨fun c13 => absurd c13 (show ¬ nI 2 = nI 1 by decide), fun c13 => ⟨fun c21 => ⟨_, _, r1, ⟨_, _, r2, ⟨fun c8 => ?_, fun c8 => ⟨fun c10 => ?_, fun c10 => ?_⟩⟩⟩⟩, fun c21 => absurd rfl c21⟩⟩⟩⟩
      · have c8 : pa 12 = pb 12 := c8
        rw [if_pos c8] at hX
        exact ih V2 A2 _ _ _ w1 w2 hX
      · have c8 : ¬ pa 12 = pb 12 := c8
        have c10 : pa 12 ≤ pb 12 := c10
        rw [if_neg c8] at hX
        refine ⟨V2, A2, ?_, rfl, w1, w2⟩
        rw [hX, if_neg (fun w => absurd c10 (of_decide_eq_true w))]
      · have c8 : ¬ pa 12 = pb 12 := c8
        have c10 : ¬ pa 12 ≤ pb 12 := c10
        rw [if_neg c8] at hX
        refine ⟨V2, A2, ?_, rfl, w1, w2⟩
        rw [hX, if_pos (decide_eq_true c10)]
    · obtain ⟨V1, A1, V2, A2, r1, r2, w1, w2⟩ := pt V' A' hV hA 15 (by decide)
      have ih := ih (by decide)
      have hX : X = if pa 15 = pb 15 then ahS pa pb (decide (x < y)) 1 4 else decide (¬ pa 15 ≤ pb 15) := hX
      refine hK 2 _ _ _ ⟨fun c1 => absurd c1 (show ¬ (5 : Int32) ≤ nI 3 by decide), fun c1 => ⟨fun c5 => absurd c5 (show ¬ nI 3 = nI 0 by decide), fun c5 => ⟨fun c13 => absurd c13 (show ¬ nI 3 = nI 1 by decide), fun c13 => ⟨fun c21 => absurd c21 (show ¬ nI 3 = nI 2 by decide), fun c21 => ⟨fun c29 => ⟨_, _, r1, ⟨_, _, r2, ⟨fun c8 => ?_, fun c8 => ⟨fun c10 => ?_, fun c10 => ?_⟩⟩⟩⟩, fun c29 => absurd rfl c29⟩⟩⟩⟩⟩
      · have c8 : pa 15 = pb 15 := c8
        rw [if_pos c8] at hX
        exact ih V2 A2 _ _ _ w1 w2 hX
      · have c8 : ¬ pa 15 = pb 15 := c8
        have c10 : pa 15 ≤ pb 15 := c10
        rw [if_neg c8] at hX
        refine ⟨V2, A2, ?_, rfl, w1, w2⟩
        rw [hX, if_neg (fun w => absurd c10 (of_decide_eq_true w))]
      · have c8 : ¬ pa 15 = pb 15 := c8
        have c10 : ¬ pa 15 ≤ pb 15 := c10
        rw [if_neg c8] at hX
        refine ⟨V2, A2, ?_, rfl, w1, w2⟩
        rw [hX, if_pos (decide_eq_true c10)]
    · obtain ⟨V1, A1, V2, A2, r1, r2, w1, w2⟩ := pt V' A' hV hA 17 (by decide)
      have ih := ih (by decide)
      have hX : X = if pa 17 = pb 17 then ahS pa pb (decide (x < y)) 0 5 else decide (¬ pa 17 ≤ pb 17) := hX
      refine hK 2 _ _ _ ⟨fun c1 => absurd c1 (show ¬ (5 : Int32) ≤ nI 4 by decide), fun c1 => ⟨fun c5 => absurd c5 (show ¬ nI 4 = nI 0 by decide), fun c5 => ⟨fun c13 => absurd c13 (show ¬ nI 4 = nI 1 by decide), fun c13 => ⟨fun c21 => absurd c21 (show ¬ nI 4 = nI 2 by decide), fun c21 => ⟨fun c29 => absurd c29 (show ¬ nI 4 = nI 3 by decide), fun c29 => ⟨_, _, r1, ⟨_, _, r2, ⟨fun c8 => ?_, fun c8 => ⟨fun c10 => ?_, fun c10 => ?_⟩⟩⟩⟩⟩⟩⟩⟩⟩
      · have c8 : pa 17 = pb 17 := c8
        rw [if_pos c8] at hX
        exact ih V2 A2 _ _ _ w1 w2 hX
      · have c8 : ¬ pa 17 = pb 17 := c8
        have c10 : pa 17 ≤ pb 17 := c10
        rw [if_neg c8] at hX
        refine ⟨V2, A2, ?_, rfl, w1, w2⟩
        rw [hX, if_neg (fun w => absurd c10 (of_decide_eq_true w))]
      · have c8 : ¬ pa 17 = pb 17 := c8
        have c10 : ¬ pa 17 ≤ pb 17 := c10
        rw [if_neg c8] at hX
        refine ⟨V2, A2, ?_, rfl, w1, w2⟩
        rw [hX, if_pos (decide_eq_true c10)]
    · have hX : X = decide (x < y) := hX
      refine hK 2 _ _ _ ⟨fun c1 => ⟨fun c2 => ?_, fun c2 => ?_⟩, fun c1 => absurd (Int32.le_refl _) c1⟩
      · have c2 : y ≤ x := (nI_leI (by omega) (by omega)).mp c2
        refine ⟨V', A', ?_, rfl, hV, hA⟩
        rw [hX, if_neg (fun w => by have := of_decide_eq_true w; omega)]
      · have c2 := nI_leN (by omega) (by omega) c2
        refine ⟨V', A', ?_, rfl, hV, hA⟩
        rw [hX, if_pos (decide_eq_true c2)]
  obtain ⟨r, z', h, V', A', e1, e2, h1, h2⟩ := q
  subst e1; subst e2
  exact ⟨V', A', h, h1, h2⟩
theorem M_place_bad (hM : MT z0) (k : Int32) (hb : ¬ (0 ≤ k ∧ k ≤ V 10 - 1)) : Rn (d + 11) i_M_place [.ref 46, .int k] (mz z0 V A) (some (.int (-100001))) (mz z0 V (cnt A 1)) :=
  rn_i (full := cd_168) hM.1 (ok_n rfl) rfl (fun K hK => hK 0 _ _ _ ⟨_, _, M_isCard _ z0 V A hM _, ⟨fun c2 => ⟨_, _, M_fB _ z0 V A hM, rfl, rfl⟩, fun c2 => absurd (b1_f c2) hb⟩⟩)
theorem M_place_kind (hW : MW z0 V A n R) (k : Nat) (hk : k < n) (h2 : ¬ A 8 k = 0) : Rn (d + 11) i_M_place [.ref 46, .int (nI k)] (mz z0 V A) (some (.int (-100003))) (mz z0 V (cnt A 3)) := by
  obtain ⟨hM, hn, h60, _⟩ := hW
  have vk : vp_in (nI k) 60 := vp_in_nI (by omega) (by decide)
  have ck : (nI k).toNatClampNeg = k := nI_clamp (by omega)
  refine rn_i (full := cd_168) hM.1 (ok_n rfl) rfl (fun K hK => hK 0 _ _ _ ⟨_, _, M_isCard _ z0 V A hM _, ⟨fun c2 => absurd (card_rng hn hk h60) (b1_t c2), fun c2 => ⟨mt_g hM 8 (by decide), ⟨mt_l hM 8 (by decide) vk, ⟨fun c6 => absurd ?_ h2, fun c6 => ⟨_, _, M_fK _ z0 V A hM, rfl, rfl⟩⟩⟩⟩⟩⟩)
  have c6 : A 8 (nI k).toNatClampNeg = 0 := c6
  rw [ck] at c6; exact c6
/-- k is a rival of card x -/
def rvB (A : Nat → Nat → Int32) (x k : Nat) : Bool := decide (k ≠ x ∧ A 8 k = 0 ∧ A 11 k = A 11 x ∧ A 10 k = A 10 x)
def plcF (b : Bk) (A : Nat → Nat → Int32) (O : Nat → Nat) (n x c : Nat) : Nat → Int32
  | 0 => 1
  | k + 1 => plcF b A O n x c k + (if rvB A x k = true ∧ ahB b A O n k x c = true then 1 else 0)
theorem M_place_ok (hW : MW z0 V A n R) (x c : Nat) (hx : x < n) (h8 : A 8 x = 0) (hc : c < 4) (hcx : A 11 x = nI c) : ∃ (V' : Nat → Int32) (A' : Nat → Nat → Int32), Rn (d + 11) i_M_place [.ref 46, .int (nI x)] (mz z0 V A) (some (.int (plcF (fB A n R) A (oF (A 10) n) n x c n))) (mz z0 V' A') ∧ Ag V V' ∧ AgB A A' := by
  obtain ⟨V1, A1, r, g1, g2, g3, g4⟩ := M_wb d z0 V A n R hW
  obtain ⟨hM, hn, h60, _, _, hWK, _⟩ := hW
  have vx : vp_in (nI x) 60 := vp_in_nI (by omega) (by decide)
  have cx : (nI x).toNatClampNeg = x := nI_clamp (by omega)
  have kx : ∀ k, k < n → A 8 k = 0 → CK A k := fun k hk h => (hWK k hk).elim (fun w => by rw [h] at w; exact absurd w (by decide)) (fun w => w.2.1)
  have q : Rq (d + 11) i_M_place [.ref 46, .int (nI x)] (mz z0 V A) (fun r z' => ∃ (V' : Nat → Int32) (A' : Nat → Nat → Int32), r = some (.int (plcF (fB A n R) A (oF (A 10) n) n x c n)) ∧ z' = mz z0 V' A' ∧ Ag V1 V' ∧ AgA A1 A') := by
    refine rq_i (full := cd_168) hM.1 (fun _ _ _ => ok_n rfl) rfl (fun K hK => hK 0 _ _ _ ⟨_, _, M_isCard _ z0 V A hM _, ⟨fun c2 => absurd (card_rng hn hx h60) (b1_t c2), fun c2 => ⟨mt_g hM 8 (by decide), ⟨mt_l hM 8 (by decide) vx, ⟨fun c6 => ⟨_, _, r, ?_⟩, fun c6 => absurd ?_ c6⟩⟩⟩⟩⟩)
    · refine loop_up (P := fun k => ∀ (V' : Nat → Int32) (A' : Nat → Nat → Int32) (v4 : Value), Ag V1 V' → AgA A1 A' → K 39 [.ref 46, .int (nI x), .int (plcF (fB A n R) A (oF (A 10) n) n x c k), .int (nI k), v4] [] (mz z0 V' A')) n (fun k hk ih V' A' v4 hV hA => ?_) 0 (by omega) V1 A1 .null (Ag_r V1) (AgA_r A1)
      have h10 : V' 10 = nI n := (hV 10 (by decide) (by decide) (by decide)).trans g4
      have g' := AgB_t g2 (AgB_a hA)
      by_cases hkn : k < n
      · have ih := ih hkn
        rw [nI_succ] at ih
        have vk : vp_in (nI k) 60 := vp_in_nI (by omega) (by decide)
        have ck : (nI k).toNatClampNeg = k := nI_clamp (by omega)
        have c1' : ¬ V' 10 ≤ nI k := by rw [h10]; exact nI_ge hkn (by omega)
        have stay : ¬ rvB A x k = true → ∀ v4 : Value, K 39 [.ref 46, .int (nI x), .int (plcF (fB A n R) A (oF (A 10) n) n x c k + 0), .int (nI k + 1), v4] [] (mz z0 V' A') := by
          intro h v4
          have g := ih V' A' v4 hV hA
          unfold plcF at g
          rw [if_neg (fun w => h w.1)] at g
          exact g
        have ah : rvB A x k = true → ∃ (V2 : Nat → Int32) (A2 : Nat → Nat → Int32), Rn (d + 10) i_M_isAhead [.ref 46, .int (nI k), .int (nI x)] (mz z0 V' A') (some (.int (if ahB (fB A n R) A (oF (A 10) n) n k x c = true then 1 else 0))) (mz z0 V2 A2) ∧ Ag V1 V2 ∧ AgA A1 A2 := by
          intro h
          have h := of_decide_eq_true h
          obtain ⟨V2, A2, w, u1, u2⟩ := M_isAhead (d + 1) z0 V' A' n hM h10 h60 _ _ (BR_ag hA g3) k x c (by omega) (by omega) hc (by rw [g' 11 (by decide), h.2.2.1]; exact hcx) (by rw [g' 11 (by decide)]; exact hcx) (CK_b g' (kx k hkn h.2.1)) (CK_b g' (kx x hx h8))
          rw [ahB_b g'] at w
          exact ⟨V2, A2, w, Ag_t hV u1, AgA_t hA u2⟩
        by_cases hrv : rvB A x k = true
        · obtain ⟨V2, A2, w, u1, u2⟩ := ah hrv
          have h := of_decide_eq_true hrv
          refine hK 23 _ _ _ ⟨hM.1, ⟨fun c1 => absurd c1 c1', fun c1 => ⟨fun c3 => absurd ((nI_eq (by omega) (by omega)).mp c3) h.1,
            fun c3 => ⟨mt_g hM 8 (by decide), ⟨mt_l hM 8 (by decide) vk, ⟨fun c11 => ⟨mt_g hM 11 (by decide), ⟨mt_l hM 11 (by decide) vk, ⟨mt_g hM 11 (by decide), ⟨mt_l hM 11 (by decide) vx, ⟨fun c14 => ⟨mt_g hM 10 (by decide), ⟨mt_l hM 10 (by decide) vk, ⟨mt_g hM 10 (by decide), ⟨mt_l hM 10 (by decide) vx, ⟨fun c17 => ⟨fun c18 => absurd c18 nz1,
                    fun c18 => ⟨_, _, w, ⟨fun c21 => ?_, fun c21 => ?_⟩⟩⟩,
                  fun c17 => absurd ?_ c17⟩⟩⟩⟩⟩,
                fun c14 => absurd ?_ c14⟩⟩⟩⟩⟩,
              fun c11 => absurd ?_ c11⟩⟩⟩⟩⟩⟩
          · have g := ih V2 A2 (.int 1) u1 u2
            unfold plcF at g
            rw [if_neg (fun w => b1_t c21 w.2)] at g
            exact g
          · have g := ih V2 A2 (.int 1) u1 u2
            unfold plcF at g
            rw [if_pos ⟨hrv, b1_f c21⟩] at g
            exact g
          · show A' 10 (nI k).toNatClampNeg = A' 10 (nI x).toNatClampNeg
            rw [ck, cx, g' 10 (by decide)]; exact h.2.2.2
          · show A' 11 (nI k).toNatClampNeg = A' 11 (nI x).toNatClampNeg
            rw [ck, cx, g' 11 (by decide)]; exact h.2.2.1
          · show A' 8 (nI k).toNatClampNeg = 0
            rw [ck, g' 8 (by decide)]; exact h.2.1
        · have st := stay hrv (.int 0)
          refine hK 23 _ _ _ ⟨hM.1, ⟨fun c1 => absurd c1 c1', fun c1 => ⟨fun c3 => ⟨fun c4 => st, fun c4 => absurd rfl c4⟩,
            fun c3 => ⟨mt_g hM 8 (by decide), ⟨mt_l hM 8 (by decide) vk, ⟨fun c11 => ⟨mt_g hM 11 (by decide), ⟨mt_l hM 11 (by decide) vk, ⟨mt_g hM 11 (by decide), ⟨mt_l hM 11 (by decide) vx, ⟨fun c14 => ⟨mt_g hM 10 (by decide), ⟨mt_l hM 10 (by decide) vk, ⟨mt_g hM 10 (by decide), ⟨mt_l hM 10 (by decide) vx, ⟨fun c17 => absurd ?_ hrv,
                  fun c17 => ⟨fun c24 => st, fun c24 => absurd rfl c24⟩⟩⟩⟩⟩⟩,
                fun c14 => ⟨fun c30 => st, fun c30 => absurd rfl c30⟩⟩⟩⟩⟩⟩,
              fun c11 => ⟨fun c36 => st, fun c36 => absurd rfl c36⟩⟩⟩⟩⟩⟩⟩
          have c3 : ¬ nI k = nI x := c3
          have c11 : A' 8 (nI k).toNatClampNeg = 0 := c11
          have c14 : A' 11 (nI k).toNatClampNeg = A' 11 (nI x).toNatClampNeg := c14
          have c17 : A' 10 (nI k).toNatClampNeg = A' 10 (nI x).toNatClampNeg := c17
          rw [ck, g' 8 (by decide)] at c11
          rw [ck, cx, g' 11 (by decide)] at c14
          rw [ck, cx, g' 10 (by decide)] at c17
          exact decide_eq_true ⟨fun e => c3 (by rw [e]), c11, c14, c17⟩
      · have : k = n := by omega
        subst this
        refine hK 23 _ _ _ ⟨hM.1, ⟨fun c1 => ⟨V', A', rfl, rfl, hV, hA⟩, fun c1 => absurd ?_ c1⟩⟩
        show V' 10 ≤ nI k
        rw [h10]; exact Int32.le_refl _
    · show A 8 (nI x).toNatClampNeg = 0
      rw [cx]; exact h8
  obtain ⟨r, z', h, V', A', e1, e2, h1, h2⟩ := q
  subst e1; subst e2
  exact ⟨V', A', h, Ag_t g1 h1, AgB_t g2 (AgB_a h2)⟩
theorem MW_19 {z0 : ZS} {V : Nat → Int32} {A : Nat → Nat → Int32} {n R : Nat} (h : MW z0 V A n R) : MW z0 (upd V 19 0) A n R := h
theorem M_check_bad (hM : MT z0) (p day : Int32) (hb : ¬ ((0 ≤ p ∧ p ≤ 11) ∧ 0 ≤ day ∧ day ≤ 9999)) : Rn (d + 11) i_M_check [.ref 46, .int p, .int day] (mz z0 V A) (some (.int (-100001))) (mz z0 (upd V 19 0) (cnt A 1)) := by
  refine rn_i (full := cd_170) hM.1 (ok_n rfl) rfl (fun K hK => hK 0 _ _ _ ⟨hM.1, ⟨hM.1, ?_⟩⟩)
  rw [mz_sV]
  exact ⟨_, _, M_isAsked (d + 7) _ _ _, ⟨fun c2 => ⟨_, _, M_fB _ z0 (upd V 19 0) A hM, rfl, rfl⟩, fun c2 => absurd (b1_f c2) hb⟩⟩
def dueF (b : Bk) (A : Nat → Nat → Int32) (O : Nat → Nat) (n : Nat) (p day : Int32) (i : Nat) : Int32 := if i < mkN b A O n p day then nI (mkI b A O n p day i) else numB b A O n p day
theorem M_check_ok (hW : MW z0 V A n R) (p day : Int32) (t : Nat) (ht : V 19 = nI t) (h20 : t ≤ 20) (hb : (0 ≤ p ∧ p ≤ 11) ∧ 0 ≤ day ∧ day ≤ 9999) : ∃ (V' : Nat → Int32) (A' : Nat → Nat → Int32), Rn (d + 11) i_M_check [.ref 46, .int p, .int day] (mz z0 V A) (some (.int (ckF (dueF (fB A n R) A (oF (A 10) n) n p day) (A 16) t (mkN (fB A n R) A (oF (A 10) n) n p day) (mkN (fB A n R) A (oF (A 10) n) n p day + 1) 0))) (mz z0 V' A') ∧ Ag (upd V 19 0) V' ∧ AgB A A' := by
  obtain ⟨V1, A1, r, g1, g2, g3, g4⟩ := M_wb d z0 (upd V 19 0) A n R (MW_19 hW)
  obtain ⟨hM, hn, h60, _⟩ := hW
  obtain ⟨V2, A2, r2, q1, q2⟩ := M_numberOf (d + 5) z0 V1 A1 hM n g4 h60 _ _ g3 p day
  have h10 : V2 10 = nI n := (q1 10 (by decide) (by decide) (by decide)).trans g4
  have g' := AgB_t g2 (AgB_a q2)
  obtain ⟨V3, A3, r3, s1, s2, _, h29, h31, h26⟩ := M_findMakers (d + 8) z0 V2 A2 hM n h10 h60 _ _ (BR_ag q2 g3) p day
  rw [gM_b g'] at h31 h26
  rw [numB_b g2] at r2
  have g'' := AgB_t g' (AgB_a s2)
  have le := mkN_le (fB A n R) A (oF (A 10) n) n p day
  refine ⟨V3, A3, rn_i (full := cd_170) hM.1 (ok_n rfl) rfl (fun K hK => hK 0 _ _ _ ⟨hM.1, ⟨hM.1, ?_⟩⟩), Ag_t (Ag_t g1 q1) s1, g''⟩
  rw [mz_sV]
  refine ⟨_, _, M_isAsked (d + 7) _ _ _, ⟨fun c2 => absurd hb (b1_t c2), fun c2 => ⟨_, _, r, ⟨_, _, r2, ⟨_, _, r3, ?_⟩⟩⟩⟩⟩
  have h31 : V3 31 = nI (mkN (fB A n R) A (oF (A 10) n) n p day) := h31
  have h26 : ∀ j, j < mkN (fB A n R) A (oF (A 10) n) n p day → A3 26 j = nI (mkI (fB A n R) A (oF (A 10) n) n p day j) := h26
  have dl : ∀ i, i < mkN (fB A n R) A (oF (A 10) n) n p day → dueF (fB A n R) A (oF (A 10) n) n p day i = A3 26 i := fun i hi => by unfold dueF; rw [if_pos hi, h26 i hi]
  have dn : dueF (fB A n R) A (oF (A 10) n) n p day (mkN (fB A n R) A (oF (A 10) n) n p day) = numB (fB A n R) A (oF (A 10) n) n p day := by unfold dueF; rw [if_neg (Nat.lt_irrefl _)]
  generalize dueF (fB A n R) A (oF (A 10) n) n p day = due at dl dn hK ⊢
  generalize numB (fB A n R) A (oF (A 10) n) n p day = num at dn ⊢
  generalize mkN (fB A n R) A (oF (A 10) n) n p day = m at dl dn h31 le hK ⊢
  show K 46 [.ref 46, .int p, .int day, .int (V 19), .int num, .int (nI 0), .null] [] (mz z0 V3 A3)
  rw [ht]
  generalize hXX : ckF due (A 16) t m (m + 1) 0 = X at hK
  have e16 : A3 16 = A 16 := g'' 16 (by decide)
  refine loop_up (P := fun i => ∀ v : Value, ckF due (A 16) t m (m + 1 - i) i = X → K 46 [.ref 46, .int p, .int day, .int (nI t), .int num, .int (nI i), v] [] (mz z0 V3 A3)) (m + 1) (fun i hi ih v hc => ?_) 0 (by omega) .null hXX
  by_cases him : i < m + 1
  · have ih := ih him
    rw [nI_succ] at ih
    rw [show m + 1 - i = (m + 1 - (i + 1)) + 1 by omega] at hc
    unfold ckF at hc
    have ci : (nI i).toNatClampNeg = i := nI_clamp (by omega)
    have c1' : ¬ V3 31 < nI i := by rw [h31]; exact nI_nlt (by omega) (by omega)
    have v8 : i < m → vp_in (nI i) 8 := fun h => vp_in_nI (by omega) (by decide)
    have v20 : ¬ nI t ≤ nI i → vp_in (nI i) 20 := fun h => vp_in_nI (by have := nI_leN (by omega) (by omega) h; omega) (by decide)
    have im : ¬ V3 31 ≤ nI i → i < m := fun h => by rw [h31] at h; exact nI_leN (by omega) (by omega) h
    have mi : V3 31 ≤ nI i → i = m := fun h => by
      rw [h31] at h
      have := (nI_leI (by omega) (by omega)).mp h
      omega
    refine hK 27 _ _ _ ⟨hM.1, ⟨fun c1 => absurd c1 c1', fun c1 => ⟨hM.1, ⟨fun c5 => ⟨fun c6 => ?_,
      fun c6 => ⟨mt_g hM 16 (by decide), ⟨mt_l hM 16 (by decide) (v20 c6), ⟨fun c9 => ?_, fun c9 => ?_⟩⟩⟩⟩,
      fun c5 => ⟨mt_g hM 26 (by decide), ⟨mt_l hM 26 (by decide) (v8 (im c5)), ⟨fun c13 => ?_,
        fun c13 => ⟨mt_g hM 16 (by decide), ⟨mt_l hM 16 (by decide) (v20 c13), ⟨fun c16 => ?_, fun c16 => ?_⟩⟩⟩⟩⟩⟩⟩⟩⟩⟩
    · have c6 : t ≤ i := (nI_leI (by omega) (by omega)).mp c6
      rw [if_pos c6] at hc
      subst hc; exact ⟨rfl, rfl⟩
    · have c6 := nI_leN (by omega) (by omega) c6
      have c9 : A3 16 (nI i).toNatClampNeg = num := c9
      rw [ci, e16] at c9
      rw [if_neg (by omega), if_pos (by rw [mi c5, dn, ← mi c5]; exact c9)] at hc
      exact ih _ hc
    · have c6 := nI_leN (by omega) (by omega) c6
      have c9 : ¬ A3 16 (nI i).toNatClampNeg = num := c9
      rw [ci, e16] at c9
      rw [if_neg (by omega), if_neg (by rw [mi c5, dn, ← mi c5]; exact c9)] at hc
      subst hc; exact ⟨rfl, rfl⟩
    · have c13 : t ≤ i := (nI_leI (by omega) (by omega)).mp c13
      rw [if_pos c13] at hc
      subst hc; exact ⟨rfl, rfl⟩
    · have c13 := nI_leN (by omega) (by omega) c13
      have c16 : A3 16 (nI i).toNatClampNeg = A3 26 (nI i).toNatClampNeg := c16
      rw [ci, e16] at c16
      rw [if_neg (by omega), if_pos (by rw [dl i (im c5)]; exact c16)] at hc
      exact ih _ hc
    · have c13 := nI_leN (by omega) (by omega) c13
      have c16 : ¬ A3 16 (nI i).toNatClampNeg = A3 26 (nI i).toNatClampNeg := c16
      rw [ci, e16] at c16
      rw [if_neg (by omega), if_neg (by rw [dl i (im c5)]; exact c16)] at hc
      subst hc; exact ⟨rfl, rfl⟩
  · have : i = m + 1 := by omega
    subst this
    rw [show m + 1 - (m + 1) = 0 by omega] at hc
    have hc : (if t ≤ m + 1 then (0 : Int32) else 99) = _ := hc
    have e1 : V3 31 + 1 = nI (m + 1) := by rw [h31, nI_succ]
    refine hK 27 _ _ _ ⟨hM.1, ⟨fun c1 => ⟨hM.1, ⟨fun c2 => ?_, fun c2 => ?_⟩⟩, fun c1 => absurd ?_ c1⟩⟩
    · have c2 : nI t ≤ V3 31 + 1 := c2
      rw [e1] at c2
      have c2 : t ≤ m + 1 := (nI_leI (by omega) (by omega)).mp c2
      rw [if_pos c2] at hc
      subst hc; exact ⟨rfl, rfl⟩
    · have c2 : ¬ nI t ≤ V3 31 + 1 := c2
      rw [e1] at c2
      have c2 := nI_leN (by omega) (by omega) c2
      rw [if_neg (by omega)] at hc
      subst hc; exact ⟨rfl, rfl⟩
    · show V3 31 < nI (m + 1)
      rw [h31]; exact nI_lt (by omega) (by omega)
theorem M_count_bad (hM : MT z0) (w : Int32) (hb : ¬ (0 ≤ w ∧ w ≤ 5)) : Rn (d + 11) i_M_count [.ref 46, .int w] (mz z0 V A) (some (.int (-100001))) (mz z0 V (cnt A 1)) :=
  rn_i (full := cd_171) hM.1 (ok_n rfl) rfl (fun K hK => hK 0 _ _ _ ⟨_, _, M_in (d + 9) _ _ _ _, ⟨fun c2 => ⟨_, _, M_fB _ z0 V A hM, rfl, rfl⟩, fun c2 => absurd (b1_f c2) hb⟩⟩)
theorem M_count_4 (hM : MT z0) : Rn (d + 11) i_M_count [.ref 46, .int 4] (mz z0 V A) (some (.int (V 8))) (mz z0 V A) :=
  rn_i (full := cd_171) hM.1 (ok_n rfl) rfl (fun K hK => hK 0 _ _ _ ⟨_, _, M_in (d + 9) _ _ _ _, ⟨fun c2 => absurd c2 (show ¬ (if (0 : Int32) ≤ 4 ∧ (4 : Int32) ≤ 5 then (1 : Int32) else 0) = 0 by decide), fun c2 => ⟨fun c5 => ⟨fun c6 => ⟨hM.1, rfl, rfl⟩, fun c6 => absurd rfl c6⟩, fun c5 => absurd rfl c5⟩⟩⟩)
theorem M_count_5 (hM : MT z0) : Rn (d + 11) i_M_count [.ref 46, .int 5] (mz z0 V A) (some (.int (V 19))) (mz z0 V A) :=
  rn_i (full := cd_171) hM.1 (ok_n rfl) rfl (fun K hK => hK 0 _ _ _ ⟨_, _, M_in (d + 9) _ _ _ _, ⟨fun c2 => absurd c2 (show ¬ (if (0 : Int32) ≤ 5 ∧ (5 : Int32) ≤ 5 then (1 : Int32) else 0) = 0 by decide), fun c2 => ⟨fun c5 => absurd c5 (show ¬ (5 : Int32) = 4 by decide), fun c5 => ⟨fun c9 => ⟨fun c10 => absurd c10 (show ¬ (5 : Int32) = 4 by decide), fun c10 => ⟨hM.1, rfl, rfl⟩⟩, fun c9 => absurd rfl c9⟩⟩⟩⟩)
/-- how many of the first k pass q -/
def cq (q : Nat → Bool) : Nat → Int32
  | 0 => 0
  | k + 1 => cq q k + (if q k = true then 1 else 0)
def qC (b : Bk) (A : Nat → Nat → Int32) (w k : Nat) : Bool := match w with
  | 0 => true
  | 1 => decide (¬ A 14 k = 0)
  | 2 => (b.1 k).isSome
  | _ => decide ((b.2.1 k).isSome = true ∧ b.2.2 k = none)
theorem M_count_0 (hW : MW z0 V A n R) : ∃ (V' : Nat → Int32) (A' : Nat → Nat → Int32), Rn (d + 11) i_M_count [.ref 46, .int 0] (mz z0 V A) (some (.int (cq (qC (fB A n R) A 0) n))) (mz z0 V' A') ∧ Ag V V' ∧ AgB A A' := by
  obtain ⟨V1, A1, r, g1, g2, g3, g4⟩ := M_wb d z0 V A n R hW
  obtain ⟨hM, hn, h60, _⟩ := hW
  refine ⟨V1, A1, rn_i (full := cd_171) hM.1 (ok_n rfl) rfl (fun K hK => hK 0 _ _ _ ⟨_, _, M_in (d + 9) _ _ _ _, ⟨fun c2 => absurd c2 (show ¬ (if (0 : Int32) ≤ 0 ∧ (0 : Int32) ≤ 5 then (1 : Int32) else 0) = 0 by decide), fun c2 => ⟨fun c5 => absurd c5 (show ¬ (0 : Int32) = 4 by decide), fun c5 => ⟨fun c9 => absurd c9 (show ¬ (0 : Int32) = 5 by decide), fun c9 => ⟨_, _, r, ?_⟩⟩⟩⟩⟩), g1, g2⟩
  refine loop_up (P := fun k => ∀ v4 : Value, K 51 [.ref 46, .int 0, .int (cq (qC (fB A n R) A 0) k), .int (nI k), v4] [] (mz z0 V1 A1)) n (fun k hk ih v4 => ?_) 0 (by omega) .null
  by_cases hkn : k < n
  · have ih := ih hkn
    rw [nI_succ] at ih
    have vk : vp_in (nI k) 60 := vp_in_nI (by omega) (by decide)
    have ck : (nI k).toNatClampNeg = k := nI_clamp (by omega)
    have c1' : ¬ V1 10 ≤ nI k := by rw [g4]; exact nI_ge hkn (by omega)
    have inc : qC (fB A n R) A 0 k = true → ∀ v4 : Value, K 51 [.ref 46, .int 0, .int (cq (qC (fB A n R) A 0) k + 1), .int (nI k + 1), v4] [] (mz z0 V1 A1) := fun h v4 => by
      have g := ih v4
      unfold cq at g
      rw [if_pos h] at g; exact g
    have stay : ¬ qC (fB A n R) A 0 k = true → ∀ v4 : Value, K 51 [.ref 46, .int 0, .int (cq (qC (fB A n R) A 0) k + 0), .int (nI k + 1), v4] [] (mz z0 V1 A1) := fun h v4 => by
      have g := ih v4
      unfold cq at g
      rw [if_neg h] at g; exact g
    refine hK 30 _ _ _ ⟨hM.1, ⟨fun c1 => absurd c1 c1', fun c1 => ⟨fun c3 => ⟨fun c4 => absurd c4 nz1, fun c4 => inc rfl _⟩, fun c3 => absurd rfl c3⟩⟩⟩
  · have : k = n := by omega
    subst this
    refine hK 30 _ _ _ ⟨hM.1, ⟨fun c1 => ⟨rfl, rfl⟩, fun c1 => absurd ?_ c1⟩⟩
    show V1 10 ≤ nI k
    rw [g4]; exact Int32.le_refl _
theorem M_count_1 (hW : MW z0 V A n R) : ∃ (V' : Nat → Int32) (A' : Nat → Nat → Int32), Rn (d + 11) i_M_count [.ref 46, .int 1] (mz z0 V A) (some (.int (cq (qC (fB A n R) A 1) n))) (mz z0 V' A') ∧ Ag V V' ∧ AgB A A' := by
  obtain ⟨V1, A1, r, g1, g2, g3, g4⟩ := M_wb d z0 V A n R hW
  obtain ⟨hM, hn, h60, _⟩ := hW
  refine ⟨V1, A1, rn_i (full := cd_171) hM.1 (ok_n rfl) rfl (fun K hK => hK 0 _ _ _ ⟨_, _, M_in (d + 9) _ _ _ _, ⟨fun c2 => absurd c2 (show ¬ (if (0 : Int32) ≤ 1 ∧ (1 : Int32) ≤ 5 then (1 : Int32) else 0) = 0 by decide), fun c2 => ⟨fun c5 => absurd c5 (show ¬ (1 : Int32) = 4 by decide), fun c5 => ⟨fun c9 => absurd c9 (show ¬ (1 : Int32) = 5 by decide), fun c9 => ⟨_, _, r, ?_⟩⟩⟩⟩⟩), g1, g2⟩
  refine loop_up (P := fun k => ∀ v4 : Value, K 51 [.ref 46, .int 1, .int (cq (qC (fB A n R) A 1) k), .int (nI k), v4] [] (mz z0 V1 A1)) n (fun k hk ih v4 => ?_) 0 (by omega) .null
  by_cases hkn : k < n
  · have ih := ih hkn
    rw [nI_succ] at ih
    have vk : vp_in (nI k) 60 := vp_in_nI (by omega) (by decide)
    have ck : (nI k).toNatClampNeg = k := nI_clamp (by omega)
    have c1' : ¬ V1 10 ≤ nI k := by rw [g4]; exact nI_ge hkn (by omega)
    have inc : qC (fB A n R) A 1 k = true → ∀ v4 : Value, K 51 [.ref 46, .int 1, .int (cq (qC (fB A n R) A 1) k + 1), .int (nI k + 1), v4] [] (mz z0 V1 A1) := fun h v4 => by
      have g := ih v4
      unfold cq at g
      rw [if_pos h] at g; exact g
    have stay : ¬ qC (fB A n R) A 1 k = true → ∀ v4 : Value, K 51 [.ref 46, .int 1, .int (cq (qC (fB A n R) A 1) k + 0), .int (nI k + 1), v4] [] (mz z0 V1 A1) := fun h v4 => by
      have g := ih v4
      unfold cq at g
      rw [if_neg h] at g; exact g
    refine hK 30 _ _ _ ⟨hM.1, ⟨fun c1 => absurd c1 c1', fun c1 => ⟨fun c3 => absurd c3 (show ¬ (1 : Int32) = 0 by decide), fun c3 => ⟨fun c7 => ⟨mt_g hM 14 (by decide), ⟨mt_l hM 14 (by decide) vk, ⟨fun c9 => ⟨fun c10 => absurd c10 (show ¬ (1 : Int32) = 2 by decide), fun c10 => ⟨fun c28 => absurd c28 (show ¬ (1 : Int32) = 3 by decide), fun c28 => ⟨fun c37 => stay (?_) _, fun c37 => absurd rfl c37⟩⟩⟩, fun c9 => ⟨fun c40 => absurd c40 nz1, fun c40 => inc (?_) _⟩⟩⟩⟩, fun c7 => absurd rfl c7⟩⟩⟩⟩
    · have c9 : A1 14 (nI k).toNatClampNeg = 0 := c9
      rw [ck, g2 14 (by decide)] at c9
      exact fun w => of_decide_eq_true w c9
    · have c9 : ¬ A1 14 (nI k).toNatClampNeg = 0 := c9
      rw [ck, g2 14 (by decide)] at c9
      exact decide_eq_true c9
  · have : k = n := by omega
    subst this
    refine hK 30 _ _ _ ⟨hM.1, ⟨fun c1 => ⟨rfl, rfl⟩, fun c1 => absurd ?_ c1⟩⟩
    show V1 10 ≤ nI k
    rw [g4]; exact Int32.le_refl _
theorem M_count_2 (hW : MW z0 V A n R) : ∃ (V' : Nat → Int32) (A' : Nat → Nat → Int32), Rn (d + 11) i_M_count [.ref 46, .int 2] (mz z0 V A) (some (.int (cq (qC (fB A n R) A 2) n))) (mz z0 V' A') ∧ Ag V V' ∧ AgB A A' := by
  obtain ⟨V1, A1, r, g1, g2, g3, g4⟩ := M_wb d z0 V A n R hW
  obtain ⟨hM, hn, h60, _⟩ := hW
  refine ⟨V1, A1, rn_i (full := cd_171) hM.1 (ok_n rfl) rfl (fun K hK => hK 0 _ _ _ ⟨_, _, M_in (d + 9) _ _ _ _, ⟨fun c2 => absurd c2 (show ¬ (if (0 : Int32) ≤ 2 ∧ (2 : Int32) ≤ 5 then (1 : Int32) else 0) = 0 by decide), fun c2 => ⟨fun c5 => absurd c5 (show ¬ (2 : Int32) = 4 by decide), fun c5 => ⟨fun c9 => absurd c9 (show ¬ (2 : Int32) = 5 by decide), fun c9 => ⟨_, _, r, ?_⟩⟩⟩⟩⟩), g1, g2⟩
  refine loop_up (P := fun k => ∀ v4 : Value, K 51 [.ref 46, .int 2, .int (cq (qC (fB A n R) A 2) k), .int (nI k), v4] [] (mz z0 V1 A1)) n (fun k hk ih v4 => ?_) 0 (by omega) .null
  by_cases hkn : k < n
  · have ih := ih hkn
    rw [nI_succ] at ih
    have vk : vp_in (nI k) 60 := vp_in_nI (by omega) (by decide)
    have ck : (nI k).toNatClampNeg = k := nI_clamp (by omega)
    have c1' : ¬ V1 10 ≤ nI k := by rw [g4]; exact nI_ge hkn (by omega)
    have inc : qC (fB A n R) A 2 k = true → ∀ v4 : Value, K 51 [.ref 46, .int 2, .int (cq (qC (fB A n R) A 2) k + 1), .int (nI k + 1), v4] [] (mz z0 V1 A1) := fun h v4 => by
      have g := ih v4
      unfold cq at g
      rw [if_pos h] at g; exact g
    have stay : ¬ qC (fB A n R) A 2 k = true → ∀ v4 : Value, K 51 [.ref 46, .int 2, .int (cq (qC (fB A n R) A 2) k + 0), .int (nI k + 1), v4] [] (mz z0 V1 A1) := fun h v4 => by
      have g := ih v4
      unfold cq at g
      rw [if_neg h] at g; exact g
    refine hK 30 _ _ _ ⟨hM.1, ⟨fun c1 => absurd c1 c1', fun c1 => ⟨fun c3 => absurd c3 (show ¬ (2 : Int32) = 0 by decide), fun c3 => ⟨fun c7 => absurd c7 (show ¬ (2 : Int32) = 1 by decide), fun c7 => ⟨fun c43 => ⟨mt_g hM 19 (by decide), ⟨mt_l hM 19 (by decide) vk, ⟨fun c45 => ⟨fun c46 => absurd c46 (show ¬ (2 : Int32) = 3 by decide), fun c46 => ⟨fun c55 => stay (?_) _, fun c55 => absurd rfl c55⟩⟩, fun c45 => ⟨fun c58 => absurd c58 nz1, fun c58 => inc (?_) _⟩⟩⟩⟩, fun c43 => absurd rfl c43⟩⟩⟩⟩⟩
    · have c45 : A1 19 (nI k).toNatClampNeg = 0 := c45
      rw [ck, g3.2.1 k hkn] at c45
      show ¬ ((fB A n R).1 k).isSome = true
      rw [c45]; decide
    · have c45 : ¬ A1 19 (nI k).toNatClampNeg = 0 := c45
      rw [ck, g3.2.1 k hkn] at c45
      exact Option.isSome_iff_ne_none.mpr c45
  · have : k = n := by omega
    subst this
    refine hK 30 _ _ _ ⟨hM.1, ⟨fun c1 => ⟨rfl, rfl⟩, fun c1 => absurd ?_ c1⟩⟩
    show V1 10 ≤ nI k
    rw [g4]; exact Int32.le_refl _
theorem M_count_3 (hW : MW z0 V A n R) : ∃ (V' : Nat → Int32) (A' : Nat → Nat → Int32), Rn (d + 11) i_M_count [.ref 46, .int 3] (mz z0 V A) (some (.int (cq (qC (fB A n R) A 3) n))) (mz z0 V' A') ∧ Ag V V' ∧ AgB A A' := by
  obtain ⟨V1, A1, r, g1, g2, g3, g4⟩ := M_wb d z0 V A n R hW
  obtain ⟨hM, hn, h60, _⟩ := hW
  refine ⟨V1, A1, rn_i (full := cd_171) hM.1 (ok_n rfl) rfl (fun K hK => hK 0 _ _ _ ⟨_, _, M_in (d + 9) _ _ _ _, ⟨fun c2 => absurd c2 (show ¬ (if (0 : Int32) ≤ 3 ∧ (3 : Int32) ≤ 5 then (1 : Int32) else 0) = 0 by decide), fun c2 => ⟨fun c5 => absurd c5 (show ¬ (3 : Int32) = 4 by decide), fun c5 => ⟨fun c9 => absurd c9 (show ¬ (3 : Int32) = 5 by decide), fun c9 => ⟨_, _, r, ?_⟩⟩⟩⟩⟩), g1, g2⟩
  refine loop_up (P := fun k => ∀ v4 : Value, K 51 [.ref 46, .int 3, .int (cq (qC (fB A n R) A 3) k), .int (nI k), v4] [] (mz z0 V1 A1)) n (fun k hk ih v4 => ?_) 0 (by omega) .null
  by_cases hkn : k < n
  · have ih := ih hkn
    rw [nI_succ] at ih
    have vk : vp_in (nI k) 60 := vp_in_nI (by omega) (by decide)
    have ck : (nI k).toNatClampNeg = k := nI_clamp (by omega)
    have c1' : ¬ V1 10 ≤ nI k := by rw [g4]; exact nI_ge hkn (by omega)
    have inc : qC (fB A n R) A 3 k = true → ∀ v4 : Value, K 51 [.ref 46, .int 3, .int (cq (qC (fB A n R) A 3) k + 1), .int (nI k + 1), v4] [] (mz z0 V1 A1) := fun h v4 => by
      have g := ih v4
      unfold cq at g
      rw [if_pos h] at g; exact g
    have stay : ¬ qC (fB A n R) A 3 k = true → ∀ v4 : Value, K 51 [.ref 46, .int 3, .int (cq (qC (fB A n R) A 3) k + 0), .int (nI k + 1), v4] [] (mz z0 V1 A1) := fun h v4 => by
      have g := ih v4
      unfold cq at g
      rw [if_neg h] at g; exact g
    refine hK 30 _ _ _ ⟨hM.1, ⟨fun c1 => absurd c1 c1', fun c1 => ⟨fun c3 => absurd c3 (show ¬ (3 : Int32) = 0 by decide), fun c3 => ⟨fun c7 => absurd c7 (show ¬ (3 : Int32) = 1 by decide), fun c7 => ⟨fun c43 => absurd c43 (show ¬ (3 : Int32) = 2 by decide), fun c43 => ⟨fun c61 => ⟨mt_g hM 23 (by decide), ⟨mt_l hM 23 (by decide) vk, ⟨fun c63 => ⟨fun c64 => stay (?_) _, fun c64 => absurd rfl c64⟩, fun c63 => ⟨fun c67 => absurd c67 nz1, fun c67 => inc (?_) _⟩⟩⟩⟩, fun c61 => absurd rfl c61⟩⟩⟩⟩⟩⟩
    · have c63 : A1 23 (nI k).toNatClampNeg = 0 := c63
      rw [ck, g3.2.2.2.2.2.1 k hkn] at c63
      exact fun w => b1_t c63 (of_decide_eq_true w)
    · have c63 : ¬ A1 23 (nI k).toNatClampNeg = 0 := c63
      rw [ck, g3.2.2.2.2.2.1 k hkn] at c63
      exact decide_eq_true (b1_f c63)
  · have : k = n := by omega
    subst this
    refine hK 30 _ _ _ ⟨hM.1, ⟨fun c1 => ⟨rfl, rfl⟩, fun c1 => absurd ?_ c1⟩⟩
    show V1 10 ≤ nI k
    rw [g4]; exact Int32.le_refl _
end MQ3
