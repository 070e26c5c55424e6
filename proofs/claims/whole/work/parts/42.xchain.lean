/-! The chain of marked cards: gather, rawTo, markedBefore, rawFor, lowFor, numberFor. Own work. -/
/-- the i-th card's id of a list, 0 behind its end -/
def hdi (cid : Nat → Nat) (l : List Nat) (i : Nat) : Nat := if i < l.length then cid (l.getD i 0) else 0
/-- the cards of l lead from one to the next -/
def CH (z : ZS) (cid : Nat → Nat) (b : Bk) (D : Nat → Int32) (l : List Nat) : Prop := ∀ i, i < l.length → tg z (cid (l.getD i 0)) = 11 ∧ ¬ cid (l.getD i 0) = 0 ∧ zI z (cid (l.getD i 0)) 0 = nI (l.getD i 0) ∧ zI z (cid (l.getD i 0)) 4 = D (l.getD i 0) ∧ zI z (cid (l.getD i 0)) 12 = mv b (l.getD i 0) ∧ zP z (cid (l.getD i 0)) 15 = hdi cid l (i + 1) ∧ zI z (cid (l.getD i 0)) 16 = nI (l.length - i)
def CHr (z : ZS) (cid : Nat → Nat) (b : Bk) (l : List Nat) : Prop := ∀ i, i < l.length → zI z (cid (l.getD i 0)) 17 = orN (rawO b (l.drop i))
theorem mkA_tk : ∀ j, j < 21 → mkA j = nI (tkN j) := by decide
theorem tkA_ls : ∀ j, j < 21 → tkA j = lsF j := by decide
/-- the static arrays -/
def ST (z : ZS) : Prop := (tg z 2 = 3 ∧ ln z 2 = 21 ∧ ∀ j, j < 21 → zI z 2 j = mkA j) ∧ (tg z 3 = 3 ∧ ln z 3 = 21 ∧ ∀ j, j < 21 → zI z 3 j = tkA j)
theorem B_making (d : Nat) (z : ZS) (h : ST z) (j : Nat) (hj : j < 21) : Rn (d + 1) i_B_making [.int (nI j)] z (some (.int (nI (tkN j)))) z := by
  obtain ⟨⟨h1, h2, h3⟩, _⟩ := h
  have cj : (nI j).toNatClampNeg = j := nI_clamp (by omega)
  refine rn_i (full := cd_10) trivial (ok_n rfl) rfl (fun K hK => hK 0 _ _ _ ⟨fun c1 => absurd c1 (nI_pos (by omega)), fun c1 => ⟨by rw [h1]; rfl, ⟨fun c4 => absurd ?_ (nI_ge (a := j) (b := 21) hj (by decide)), fun c4 => ⟨⟨h1, by rw [h2]; exact vp_in_nI hj (by decide)⟩, ⟨?_, rfl⟩⟩⟩⟩⟩)
  · have c4 : nI (ln z 2) ≤ nI j := c4
    rw [h2] at c4; exact c4
  · show some (Value.int (zI z 2 (nI j).toNatClampNeg)) = _
    rw [cj, h3 j hj, mkA_tk j hj]
theorem B_takenOff (d : Nat) (z : ZS) (h : ST z) (j : Nat) (hj : j < 21) : Rn (d + 1) i_B_takenOff [.int (nI j)] z (some (.int (lsF j))) z := by
  obtain ⟨_, h1, h2, h3⟩ := h
  have cj : (nI j).toNatClampNeg = j := nI_clamp (by omega)
  refine rn_i (full := cd_11) trivial (ok_n rfl) rfl (fun K hK => hK 0 _ _ _ ⟨fun c1 => absurd c1 (nI_pos (by omega)), fun c1 => ⟨by rw [h1]; rfl, ⟨fun c4 => absurd ?_ (nI_ge (a := j) (b := 21) hj (by decide)), fun c4 => ⟨⟨h1, by rw [h2]; exact vp_in_nI hj (by decide)⟩, ⟨?_, rfl⟩⟩⟩⟩⟩)
  · have c4 : nI (ln z 3) ≤ nI j := c4
    rw [h2] at c4; exact c4
  · show some (Value.int (zI z 3 (nI j).toNatClampNeg)) = _
    rw [cj, h3 j hj, tkA_ls j hj]
theorem D_lastToHere (d : Nat) (z : ZS) (x n : Nat) (hx : tg z x = 11) (h : zI z x 16 = nI n) (hn : n < 2 ^ 31) : Rn (d + 1) i_D_lastToHere [.ref x] z (some (.int (nI (min 20 n)))) z := by
  refine rn_i (full := cd_18) hx (ok_n rfl) rfl (fun K hK => hK 0 _ _ _ ⟨hx, ⟨fun c2 => ⟨?_, rfl⟩, fun c2 => ⟨hx, ⟨?_, rfl⟩⟩⟩⟩)
  · have c2 : 20 ≤ zI z x 16 := c2
    rw [h, show (20 : Int32) = nI 20 from rfl, nI_leI (by omega) hn] at c2
    rw [show min 20 n = 20 by omega]; rfl
  · have c2 : ¬ 20 ≤ zI z x 16 := c2
    rw [h, show (20 : Int32) = nI 20 from rfl, nI_leI (by omega) hn] at c2
    show some (Value.int (zI z x 16)) = _
    rw [h, show min 20 n = n by omega]
theorem sp_s (w : Nat → Int32) (k a b : Nat) (h : a < b) (hb : b < (sp w k).length) : w ((sp w k).getD a 0) ≤ w ((sp w k).getD b 0) := by
  rw [gd_el _ a (by omega), gd_el _ b hb]
  have := List.pairwise_iff_getElem.mp (sp_pw w k) a b (by omega) hb h
  rcases this with q | q
  · exact Int32.le_of_lt q
  · rw [q.1]; exact Int32.le_refl _
section XGa
variable (d : Nat) (z : ZS) (cid : Nat → Nat) (b : Bk) (D : Nat → Int32) (l : List Nat)
theorem B_gather (hT : BT z) (hS : ST z) (hC : CH z cid b D l) (h60 : l.length ≤ 60) (q0 : Int32) (M0 N0 : Nat → Int32) : ∃ (M N : Nat → Int32), Rn (d + 2) i_B_gather [.ref 14, .ref (hdi cid l 0)] (bz z q0 M0 N0) none (bz z (nI (tkN (m20 l))) M N) ∧ RB M N (wl b l) (fun c => nI (l.getD c 0)) (fun j => (sp (wl b l) (m20 l)).getD j 0) (tkN (m20 l)) := by
  have hm20 : m20 l ≤ 20 ∧ m20 l ≤ l.length := by unfold m20; omega
  have tk := tkN_le (m20 l) hm20.1
  by_cases h0 : l.length = 0
  · have e : tkN (m20 l) = 0 := (tkN_0 _).mpr (by omega)
    have eh : hdi cid l 0 = 0 := by unfold hdi; rw [if_neg (by omega)]
    rw [e, eh]
    refine ⟨M0, N0, rn_i (full := cd_7) hT.1 (ok_n rfl) rfl (fun K hK => hK 0 _ _ _ ⟨hT.1, ⟨fun c2 => ⟨rfl, ?_⟩, fun c2 => absurd rfl c2⟩⟩), fun j hj => by omega⟩
    show sI (bz z q0 M0 N0) 14 2 0 = _
    rw [bz_q]; rfl
  · obtain ⟨a1, a2, a3, a4, a5, a6, a7⟩ := hC 0 (by omega)
    have eh : hdi cid l 0 = cid (l.getD 0 0) := by unfold hdi; rw [if_pos (by omega)]
    have SB : ∀ q M N, ST (bz z q M N) := fun q M N => hS
    have BB : ∀ q M N, BT (bz z q M N) := fun q M N => hT
    have r1 : ∀ q M N, Rn (d + 1) i_D_lastToHere [.ref (cid (l.getD 0 0))] (bz z q M N) (some (.int (nI (m20 l)))) (bz z q M N) := fun q M N => by
      have := D_lastToHere d (bz z q M N) (cid (l.getD 0 0)) (l.length - 0) a1 (by rw [bz_c hT a1]; exact a7) (by omega)
      exact this
    have r2 : ∀ q M N, Rn (d + 1) i_B_making [.int (nI (m20 l))] (bz z q M N) (some (.int (nI (tkN (m20 l))))) (bz z q M N) := fun q M N => B_making d _ (SB q M N) (m20 l) (by omega)
    have key : Rq (d + 2) i_B_gather [.ref 14, .ref (hdi cid l 0)] (bz z q0 M0 N0) (fun r z' => ∃ M N, r = none ∧ z' = bz z (nI (tkN (m20 l))) M N ∧ RB M N (wl b l) (fun c => nI (l.getD c 0)) (fun j => (sp (wl b l) (m20 l)).getD j 0) (tkN (m20 l))) := by
      rw [eh]
      refine rq_i (full := cd_7) hT.1 (fun _ _ _ => ok_n rfl) rfl (fun K hK => hK 0 _ _ _ ⟨hT.1, ?_⟩)
      show brs _ _ _
      refine ⟨fun c2 => absurd c2 a2, fun c2 => ?_⟩
      have es : sI (bz z q0 M0 N0) 14 2 0 = bz z (nI (min (tkN (m20 l)) 0)) M0 N0 := by rw [bz_q, Nat.min_zero]; rfl
      have r1' : Rn (d + 1) i_D_lastToHere [.ref (cid (l.getD 0 0))] (sI (bz z q0 M0 N0) 14 2 0) (some (.int (nI (m20 l)))) (bz z (nI (min (tkN (m20 l)) 0)) M0 N0) := by rw [es]; exact r1 _ _ _
      refine ⟨_, _, r1', ⟨_, _, r2 _ _ _, ?_⟩⟩
      refine loop_up (P := fun i => ∀ (M N : Nat → Int32), RB M N (wl b l) (fun c => nI (l.getD c 0)) (fun j => (sp (wl b l) i).getD j 0) (min (tkN (m20 l)) i) → K 26 [.ref 14, .ref (cid (l.getD 0 0)), .int (nI (m20 l)), .int (nI (tkN (m20 l))), .ref (hdi cid l i), .int (nI i)] [] (bz z (nI (min (tkN (m20 l)) i)) M N)) (m20 l) (fun i hi ih M N hR => ?_) 0 (by omega) M0 N0 (fun j hj => by omega) |> (fun g => by rw [eh] at g; exact g)
      by_cases him : i < m20 l
      · have ih := ih him
        obtain ⟨b1, b2, b3, b4, b5, b6, b7⟩ := hC i (by omega)
        have ei : hdi cid l i = cid (l.getD i 0) := by unfold hdi; rw [if_pos (by omega)]
        rw [ei]
        by_cases ht : tkN (m20 l) = 0
        · have r3 : Rn (d + 1) i_B_offer [.ref 14, .ref (cid (l.getD i 0)), .int (nI (tkN (m20 l)))] (bz z (nI (min (tkN (m20 l)) i)) M N) none (bz z (nI (min (tkN (m20 l)) i)) M N) := by
            rw [ht]
            exact rn_i (full := cd_9) hT.1 (ok_n rfl) rfl (fun K hK => hK 0 _ _ _ ⟨fun c1 => ⟨rfl, rfl⟩, fun c1 => absurd (show nI 0 < 1 by decide) c1⟩)
          refine hK 16 _ _ _ ⟨fun c1 => absurd c1 (nI_ge him (by omega)), fun c1 => ⟨fun c3 => absurd c3 b2, fun c3 => ⟨_, _, r3, ⟨b1, ?_⟩⟩⟩⟩
          have g := ih M N (fun j hj => by omega)
          rw [nI_succ, show min (tkN (m20 l)) (i + 1) = min (tkN (m20 l)) i by omega] at g
          show K 26 [.ref 14, .ref (cid (l.getD 0 0)), .int (nI (m20 l)), .int (nI (tkN (m20 l))), .ref (zP z (cid (l.getD i 0)) 15), .int (nI i + 1)] [] _
          rw [b6]; exact g
        · have sl : (sp (wl b l) i).length = i := sp_len _ i
          obtain ⟨M', N', r3, hR'⟩ := B_offer d z (wl b l) (fun c => nI (l.getD c 0)) hT (cid (l.getD i 0)) i (tkN (m20 l)) (by omega) tk.2 b1 b5 b3 (sp (wl b l) i) (sp_s _ i) M N (by rw [sl]; exact hR)
          rw [sl] at r3 hR'
          refine hK 16 _ _ _ ⟨fun c1 => absurd c1 (nI_ge him (by omega)), fun c1 => ⟨fun c3 => absurd c3 b2, fun c3 => ⟨_, _, r3, ⟨b1, ?_⟩⟩⟩⟩
          have g := ih M' N' hR'
          rw [nI_succ] at g
          show K 26 [.ref 14, .ref (cid (l.getD 0 0)), .int (nI (m20 l)), .int (nI (tkN (m20 l))), .ref (zP z (cid (l.getD i 0)) 15), .int (nI i + 1)] [] _
          rw [b6]; exact g
      · have : i = m20 l := by omega
        subst this
        have e : min (tkN (m20 l)) (m20 l) = tkN (m20 l) := by omega
        rw [e] at hR ⊢
        exact hK 16 _ _ _ ⟨fun c1 => ⟨M, N, rfl, rfl, hR⟩, fun c1 => absurd (Int32.le_refl _) c1⟩
    obtain ⟨r, z', h, M, N, e1, e2, hR⟩ := key
    subst e1; subst e2
    exact ⟨M, N, h, hR⟩
theorem B_rawTo (hT : BT z) (hS : ST z) (hC : CH z cid b D l) (h60 : l.length ≤ 60) (h0 : 0 < l.length) (q0 : Int32) (M0 N0 : Nat → Int32) : ∃ (q : Int32) (M N : Nat → Int32), Rn (d + 3) i_B_rawTo [.ref 14, .ref (hdi cid l 0)] (bz z q0 M0 N0) (some (.int (orN (rawO b l)))) (bz z q M N) := by
  obtain ⟨M, N, r, hR⟩ := B_gather d z cid b D l hT hS hC h60 q0 M0 N0
  have hm20 : m20 l ≤ 20 ∧ m20 l ≤ l.length := by unfold m20; omega
  have tk := tkN_le (m20 l) hm20.1
  obtain ⟨a1, a2, a3, a4, a5, a6, a7⟩ := hC 0 h0
  have eh : hdi cid l 0 = cid (l.getD 0 0) := by unfold hdi; rw [if_pos h0]
  by_cases ht : tkN (m20 l) = 0
  · have e : rawO b l = none := by unfold rawO; rw [if_pos ht]
    rw [e]
    refine ⟨_, M, N, rn_i (full := cd_8) hT.1 (ok_n rfl) rfl (fun K hK => hK 0 _ _ _ ⟨_, _, r, ⟨hT.1, ⟨fun c3 => ⟨rfl, rfl⟩, fun c3 => absurd ?_ c3⟩⟩⟩)⟩
    show nI (tkN (m20 l)) < 1
    rw [ht]; decide
  · have e : rawO b l = some (rwL b l) := by unfold rawO; rw [if_neg ht]
    rw [e]
    have n1 : ¬ nI (tkN (m20 l)) < 1 := by rw [show (1 : Int32) = nI 1 from rfl]; exact nI_nlt (by omega) (by omega)
    have s1 : 1 ≤ nI (tkN (m20 l)) := by rw [show (1 : Int32) = nI 1 from rfl]; exact nI_le (by omega) (by omega)
    have s2 : ¬ 2 * nI (tkN (m20 l)) = 0 := by
      rw [show (2 : Int32) = nI 2 from rfl, pk_mul]; exact nI_ne0 (by omega) (by omega)
    refine ⟨nI (tkN (m20 l)), M, N, rn_i (full := cd_8) hT.1 (ok_n rfl) rfl (fun K hK => hK 0 _ _ _ ⟨_, _, r, ⟨hT.1, ⟨fun c3 => absurd c3 n1, fun c3 => ⟨fun c5 => absurd (eh ▸ c5) a2, fun c5 => ?_⟩⟩⟩⟩)⟩
    refine loop_up (P := fun k => K 24 [.ref 14, .ref (hdi cid l 0), .int (sw (wl b l) (sp (wl b l) (m20 l)) k), .int (nI k)] [] (bz z (nI (tkN (m20 l))) M N)) (tkN (m20 l)) (fun k hk ih => ?_) 0 (by omega)
    have fin : ∀ s, s = sw (wl b l) (sp (wl b l) (m20 l)) (tkN (m20 l)) → (if 540 < rnd s (nI (tkN (m20 l))) - lsF (m20 l) then (540 : Int32) else rnd s (nI (tkN (m20 l))) - lsF (m20 l)) = rwL b l := by
      intro s hs
      unfold rwL rawS
      rw [← hs]
      generalize rnd s (nI (tkN (m20 l))) - lsF (m20 l) = v
      by_cases h1 : v < 540
      · rw [if_pos h1, if_neg (fun w => by rw [i32_lt] at h1 w; omega)]
      · rw [if_neg h1]
        by_cases h2 : 540 < v
        · rw [if_pos h2]
        · rw [if_neg h2, i32_eq]; rw [i32_lt] at h1 h2; omega
    have r1 := D_lastToHere (d + 1) (bz z (nI (tkN (m20 l))) M N) (cid (l.getD 0 0)) (l.length - 0) a1 (by rw [bz_c hT a1]; exact a7) (by omega)
    have r1 : Rn (d + 2) i_D_lastToHere [.ref (hdi cid l 0)] (bz z (nI (tkN (m20 l))) M N) (some (.int (nI (m20 l)))) (bz z (nI (tkN (m20 l))) M N) := by rw [eh]; exact r1
    have r2 := B_takenOff (d + 1) (bz z (nI (tkN (m20 l))) M N) hS (m20 l) (by omega)
    by_cases hkt : k < tkN (m20 l)
    · have ih := ih hkt
      rw [nI_succ] at ih
      have ck : (nI k).toNatClampNeg = k := nI_clamp (by omega)
      refine hK 15 _ _ _ ⟨hT.1, ⟨fun c2 => absurd c2 (nI_ge hkt (by omega)), fun c2 => ⟨fun c9 => absurd c9 (nI_ge (b := 8) (by omega) (by decide)), fun c9 => ⟨⟨hT.1, hT.2.1⟩, ⟨⟨hT.2.2.2.1.1, ?_⟩, ?_⟩⟩⟩⟩⟩
      · show vp_in (nI k) (ln z 15)
        rw [hT.2.2.2.1.2]; exact vp_in_nI (by omega) (by decide)
      · show K 24 [.ref 14, .ref (hdi cid l 0), .int (sw (wl b l) (sp (wl b l) (m20 l)) k + M (nI k).toNatClampNeg), .int (nI k + 1)] [] (bz z (nI (tkN (m20 l))) M N)
        rw [ck, (hR k hkt).1]; exact ih
    · have : k = tkN (m20 l) := by omega
      subst this
      refine hK 15 _ _ _ ⟨hT.1, ⟨fun c2 => ⟨hT.1, ⟨_, _, X_rounded d _ _ _ s1 s2, ⟨_, _, r1, ⟨_, _, r2, ⟨_, _, J_min (d + 1) _ _ _, ⟨?_, rfl⟩⟩⟩⟩⟩⟩, fun c2 => absurd (Int32.le_refl _) c2⟩⟩
      show some (Value.int (if 540 < _ then _ else _)) = _
      exact congrArg (fun v => some (Value.int v)) (fin _ rfl)
/-- where markedBefore stops -/
def stp0 (D : Nat → Int32) (day : Int32) (l : List Nat) (i : Nat) : Prop := i ≤ l.length ∧ (∀ j, j < i → day ≤ D (l.getD j 0)) ∧ (i < l.length → D (l.getD i 0) < day)
theorem stp0_ex (D : Nat → Int32) (day : Int32) (l : List Nat) : ∃ i, stp0 D day l i := by
  have key : ∀ m i, i + m = l.length → (∀ j, j < i → day ≤ D (l.getD j 0)) → ∃ i, stp0 D day l i := by
    intro m
    induction m with
    | zero => intro i hi h; exact ⟨i, by omega, h, fun w => by omega⟩
    | succ m ih =>
      intro i hi h
      by_cases hd : D (l.getD i 0) < day
      · exact ⟨i, by omega, h, fun _ => hd⟩
      · refine ih (i + 1) (by omega) (fun j hj => ?_)
        by_cases e : j = i
        · rw [e]; exact Int32.not_lt.mp hd
        · exact h j (by omega)
  exact key l.length 0 (by omega) (fun j hj => by omega)
theorem P_markedBefore (hC : CH z cid b D l) (p : Nat) (hp : tg z p = 13) (h1 : zP z p 1 = hdi cid l 0) (day : Int32) (i0 : Nat) (hi0 : stp0 D day l i0) : Rn (d + 1) i_P_markedBefore [.ref p, .int day] z (some (.ref (hdi cid l i0))) z := by
  refine rn_i (full := cd_45) hp (ok_n rfl) rfl (fun K hK => hK 0 _ _ _ ⟨hp, ?_⟩)
  show K 5 [.ref p, .int day, .ref (zP z p 1)] [] z
  rw [h1]
  refine loop_up (P := fun i => K 5 [.ref p, .int day, .ref (hdi cid l i)] [] z) i0 (fun i hi ih => ?_) 0 (by omega)
  by_cases hil : i < l.length
  · obtain ⟨b1, b2, b3, b4, b5, b6, b7⟩ := hC i hil
    have ei : hdi cid l i = cid (l.getD i 0) := by unfold hdi; rw [if_pos hil]
    rw [ei]
    refine hK 3 _ _ _ ⟨fun c1 => absurd c1 b2, fun c1 => ⟨b1, ⟨fun c4 => ⟨?_, rfl⟩, fun c4 => ⟨b1, ?_⟩⟩⟩⟩
    · have c4 : zI z (cid (l.getD i 0)) 4 < day := c4
      rw [b4] at c4
      have : i = i0 := by
        rcases Nat.lt_or_ge i i0 with w | w
        · have := hi0.2.1 i w
          exact absurd this (Int32.not_le.mpr c4)
        · omega
      rw [← this, ei]
    · have c4 : ¬ zI z (cid (l.getD i 0)) 4 < day := c4
      rw [b4] at c4
      have : i < i0 := by
        rcases Nat.lt_or_ge i i0 with w | w
        · exact w
        · have e : i = i0 := by omega
          subst e
          exact absurd (hi0.2.2 hil) c4
      show K 5 [.ref p, .int day, .ref (zP z (cid (l.getD i 0)) 15)] [] z
      rw [b6]; exact ih this
  · have e : i = i0 := by have := hi0.1; omega
    have ei : hdi cid l i = 0 := by unfold hdi; rw [if_neg hil]
    subst e
    rw [ei] at hK ⊢
    exact hK 3 _ _ _ ⟨fun c1 => ⟨rfl, rfl⟩, fun c1 => absurd rfl c1⟩
theorem rawO_nil (b : Bk) : rawO b [] = none := rfl
theorem P_rawFor (hC : CH z cid b D l) (hr : CHr z cid b l) (p : Nat) (hp : tg z p = 13) (h1 : zP z p 1 = hdi cid l 0) (day : Int32) (i0 : Nat) (hi0 : stp0 D day l i0) : Rn (d + 2) i_P_rawFor [.ref p, .int day] z (some (.int (orN (rawO b (l.drop i0))))) z := by
  have r := P_markedBefore d z cid b D l hC p hp h1 day i0 hi0
  by_cases hil : i0 < l.length
  · obtain ⟨b1, b2, b3, b4, b5, b6, b7⟩ := hC i0 hil
    have ei : hdi cid l i0 = cid (l.getD i0 0) := by unfold hdi; rw [if_pos hil]
    rw [ei] at r
    refine rn_i (full := cd_46) hp (ok_n rfl) rfl (fun K hK => hK 0 _ _ _ ⟨_, _, r, ⟨fun c2 => absurd c2 b2, fun c2 => ⟨b1, ⟨?_, rfl⟩⟩⟩⟩)
    show some (Value.int (zI z (cid (l.getD i0 0)) 17)) = _
    rw [hr i0 hil]
  · have ei : hdi cid l i0 = 0 := by unfold hdi; rw [if_neg hil]
    rw [ei] at r
    rw [List.drop_of_length_le (by omega), rawO_nil]
    exact rn_i (full := cd_46) hp (ok_n rfl) rfl (fun K hK => hK 0 _ _ _ ⟨_, _, r, ⟨fun c2 => ⟨rfl, rfl⟩, fun c2 => absurd rfl c2⟩⟩)
/-- LOW as the class finds it -/
def lwL (b : Bk) (D : Nat → Int32) (day : Int32) : List Nat → Option Int32 → Int32 → Option Int32
  | [], low, _ => low
  | k :: t, low, dm => if (k :: t).length < 20 then low else if ¬ day - 364 ≤ D k + 1 then low else if D k = dm then lwL b D day t low dm else lwL b D day t (some (mnO low (rwL b (k :: t)))) (D k)
theorem drop_c (l : List Nat) (i : Nat) (h : i < l.length) : l.drop i = l.getD i 0 :: l.drop (i + 1) := by
  rw [gd_el l i h]; exact List.drop_eq_getElem_cons h
theorem orN_ne {o : Option Int32} (h : ∀ v, o = some v → ¬ v = -100002) : orN o = -100002 ↔ o = none := by
  cases o with
  | none => exact ⟨fun _ => rfl, fun _ => rfl⟩
  | some v => exact ⟨fun e => absurd e (h v rfl), fun e => by cases e⟩
theorem P_lowFor (hC : CH z cid b D l) (hr : CHr z cid b l) (hns : ∀ i, i < l.length → ¬ rwL b (l.drop i) = -100002) (h60 : l.length ≤ 60) (p : Nat) (hp : tg z p = 13) (h1 : zP z p 1 = hdi cid l 0) (day : Int32) (i0 : Nat) (hi0 : stp0 D day l i0) : Rn (d + 2) i_P_lowFor [.ref p, .int day] z (some (.int (orN (lwL b D day (l.drop i0) none (-1))))) z := by
  have r := P_markedBefore d z cid b D l hC p hp h1 day i0 hi0
  refine rn_i (full := cd_47) hp (ok_n rfl) rfl (fun K hK => hK 0 _ _ _ ⟨_, _, r, ?_⟩)
  generalize hX : lwL b D day (l.drop i0) none (-1) = X at hK
  show K 12 [.ref p, .int day, .int (orN none), .int (-1), .ref (hdi cid l i0)] [] z
  refine loop_up (P := fun i => ∀ (low : Option Int32) (dm : Int32), (∀ v, low = some v → ¬ v = -100002) → lwL b D day (l.drop i) low dm = X → K 12 [.ref p, .int day, .int (orN low), .int dm, .ref (hdi cid l i)] [] z) l.length (fun i hi ih low dm hl hX => ?_) i0 hi0.1 none (-1) (fun v h => by cases h) hX
  by_cases hil : i < l.length
  · have ih := ih hil
    obtain ⟨b1, b2, b3, b4, b5, b6, b7⟩ := hC i hil
    have ei : hdi cid l i = cid (l.getD i 0) := by unfold hdi; rw [if_pos hil]
    have er := hr i hil
    have ns := hns i hil
    have len : (l.drop i).length = l.length - i := List.length_drop
    rw [ei]
    rw [drop_c l i hil] at hX er ns len
    unfold lwL at hX
    rw [len] at hX
    have c20 : zI z (cid (l.getD i 0)) 16 < 20 ↔ l.length - i < 20 := by
      rw [b7, show (20 : Int32) = nI 20 from rfl]
      constructor
      · intro h
        rcases Nat.lt_or_ge (l.length - i) 20 with w | w
        · exact w
        · exact absurd h (nI_nlt w (by omega))
      · intro h; exact nI_lt h (by omega)
    have e17 : ¬ l.length - i < 20 → zI z (cid (l.getD i 0)) 17 = rwL b (l.getD i 0 :: l.drop (i + 1)) := by
      intro h
      rw [er]
      unfold rawO
      rw [if_neg]
      · rfl
      · unfold m20; rw [len, tkN_0]; omega
    refine hK 8 _ _ _ ⟨fun c1 => absurd c1 b2, fun c1 => ⟨b1, ⟨fun c4 => ?_, fun c4 => ⟨b1, ⟨fun c7 => ⟨b1, ⟨fun c9 => ⟨b1, ?_⟩, fun c9 => ⟨fun c12 => ⟨b1, ⟨b1, ⟨b1, ?_⟩⟩⟩, fun c12 => ⟨b1, ⟨_, _, J_min (d + 0) _ _ _, ⟨b1, ⟨b1, ?_⟩⟩⟩⟩⟩⟩⟩, fun c7 => ?_⟩⟩⟩⟩⟩
    · rw [if_pos (c20.mp c4)] at hX
      subst hX; exact ⟨rfl, rfl⟩
    all_goals
      have c4' : ¬ l.length - i < 20 := fun w => c4 (c20.mpr w)
      rw [if_neg c4'] at hX
    · have c7 : day - 364 ≤ zI z (cid (l.getD i 0)) 4 + 1 := c7
      have c9 : zI z (cid (l.getD i 0)) 4 = dm := c9
      rw [b4] at c7 c9
      rw [if_neg (fun w => w c7), if_pos c9] at hX
      show K 12 [.ref p, .int day, .int (orN low), .int dm, .ref (zP z (cid (l.getD i 0)) 15)] [] z
      rw [b6]; exact ih low dm hl hX
    · have c7 : day - 364 ≤ zI z (cid (l.getD i 0)) 4 + 1 := c7
      have c9 : ¬ zI z (cid (l.getD i 0)) 4 = dm := c9
      rw [b4] at c7 c9
      rw [if_neg (fun w => w c7), if_neg c9] at hX
      have c12 : orN low = -100002 := c12
      rw [orN_ne hl] at c12
      rw [c12] at hX
      have g := ih _ _ (fun v h => by cases h; exact ns) hX
      show K 12 [.ref p, .int day, .int (zI z (cid (l.getD i 0)) 17), .int (zI z (cid (l.getD i 0)) 4), .ref (zP z (cid (l.getD i 0)) 15)] [] z
      rw [b6, b4, e17 c4']; exact g
    · have c7 : day - 364 ≤ zI z (cid (l.getD i 0)) 4 + 1 := c7
      have c9 : ¬ zI z (cid (l.getD i 0)) 4 = dm := c9
      rw [b4] at c7 c9
      rw [if_neg (fun w => w c7), if_neg c9] at hX
      have c12 : ¬ orN low = -100002 := c12
      rw [orN_ne hl] at c12
      obtain ⟨v, hv⟩ := Option.ne_none_iff_exists'.mp c12
      subst hv
      have hv := hl v rfl
      have g := ih _ _ (fun u h => by
        cases h
        show ¬ (if rwL b (l.getD i 0 :: l.drop (i + 1)) ≤ v then rwL b (l.getD i 0 :: l.drop (i + 1)) else v) = -100002
        split
        · exact ns
        · exact hv) hX
      show K 12 [.ref p, .int day, .int (if zI z (cid (l.getD i 0)) 17 < v then zI z (cid (l.getD i 0)) 17 else v), .int (zI z (cid (l.getD i 0)) 4), .ref (zP z (cid (l.getD i 0)) 15)] [] z
      rw [b6, b4, e17 c4']
      generalize rwL b (l.getD i 0 :: l.drop (i + 1)) = rr at g
      have em : (if rr < v then rr else v) = mnO (some v) rr := by
        show _ = if rr ≤ v then rr else v
        by_cases h1 : rr < v
        · rw [if_pos h1, if_pos (Int32.le_of_lt h1)]
        · rw [if_neg h1]
          by_cases h2 : rr ≤ v
          · rw [if_pos h2, i32_eq]; rw [i32_lt] at h1; rw [i32_le] at h2; omega
          · rw [if_neg h2]
      rw [em]; exact g
    · have c7 : ¬ day - 364 ≤ zI z (cid (l.getD i 0)) 4 + 1 := c7
      rw [b4] at c7
      rw [if_pos c7] at hX
      subst hX; exact ⟨rfl, rfl⟩
  · have ei : hdi cid l i = 0 := by unfold hdi; rw [if_neg hil]
    rw [ei]
    rw [List.drop_of_length_le (by omega)] at hX
    have hX : low = X := hX
    subst hX
    exact hK 8 _ _ _ ⟨fun c1 => ⟨rfl, rfl⟩, fun c1 => absurd rfl c1⟩
theorem lwL_ns (b : Bk) (D : Nat → Int32) (day : Int32) : ∀ (l : List Nat) (low : Option Int32) (dm : Int32), (∀ i, i < l.length → ¬ rwL b (l.drop i) = -100002) → (∀ v, low = some v → ¬ v = -100002) → ∀ v, lwL b D day l low dm = some v → ¬ v = -100002
  | [], low, dm, _, h2, v, h => h2 v h
  | k :: t, low, dm, h1, h2, v, h => by
    have ht : ∀ i, i < t.length → ¬ rwL b (t.drop i) = -100002 := fun i hi => h1 (i + 1) (by simpa using hi)
    unfold lwL at h
    split at h
    · exact h2 v h
    · split at h
      · exact h2 v h
      · split at h
        · exact lwL_ns b D day t low dm ht h2 v h
        · refine lwL_ns b D day t _ _ ht (fun u hu => ?_) v h
          have ns := h1 0 (by simp)
          have ns : ¬ rwL b (k :: t) = -100002 := ns
          cases hu
          cases low with
          | none => exact ns
          | some x =>
            show ¬ (if rwL b (k :: t) ≤ x then rwL b (k :: t) else x) = -100002
            split
            · exact ns
            · exact h2 x rfl
theorem P_numberFor (hC : CH z cid b D l) (hr : CHr z cid b l) (hns : ∀ i, i < l.length → ¬ rwL b (l.drop i) = -100002) (h60 : l.length ≤ 60) (p : Nat) (hp : tg z p = 13) (h1 : zP z p 1 = hdi cid l 0) (day : Int32) (i0 : Nat) (hi0 : stp0 D day l i0) : Rn (d + 3) i_P_numberFor [.ref p, .int day] z (some (.int (numS (rawO b (l.drop i0)) (lwL b D day (l.drop i0) none (-1))))) z := by
  have r1 := P_rawFor d z cid b D l hC hr p hp h1 day i0 hi0
  have r2 := P_lowFor d z cid b D l hC hr hns h60 p hp h1 day i0 hi0
  have n1 : ∀ v, rawO b (l.drop i0) = some v → ¬ v = -100002 := by
    intro v hv
    unfold rawO at hv
    split at hv
    · cases hv
    · rename_i ht
      cases hv
      refine hns i0 ?_
      rcases Nat.lt_or_ge i0 l.length with w | w
      · exact w
      · rw [List.drop_of_length_le w] at ht; exact absurd rfl ht
  have n2 := lwL_ns b D day (l.drop i0) none (-1) (fun i hi => by rw [List.drop_drop]; exact hns _ (by rw [List.length_drop] at hi; omega)) (fun v h => by cases h)
  have e1 := orN_ne n1
  have e2 := orN_ne n2
  generalize rawO b (l.drop i0) = ro at r1 e1 ⊢
  generalize lwL b D day (l.drop i0) none (-1) = lo at r2 e2 ⊢
  refine rn_i (full := cd_48) hp (ok_n rfl) rfl (fun K hK => hK 0 _ _ _ ⟨_, _, r1, ⟨fun c2 => ⟨?_, rfl⟩, fun c2 => ⟨_, _, r2, ⟨fun c5 => ⟨?_, rfl⟩, fun c5 => ⟨fun c7 => ⟨by decide, ⟨_, _, J_min (d + 1) _ _ _, ⟨?_, rfl⟩⟩⟩, fun c7 => ⟨?_, rfl⟩⟩⟩⟩⟩⟩)
  · rw [e1.mp c2]; rfl
  all_goals
    obtain ⟨v, hv⟩ := Option.ne_none_iff_exists'.mp (fun w => c2 (e1.mpr w))
    subst hv
  · rw [e2.mp c5]; rfl
  all_goals
    obtain ⟨u, hu⟩ := Option.ne_none_iff_exists'.mp (fun w => c5 (e2.mpr w))
    subst hu
  · have c7 : u + 30 < v := c7
    simp only [numS, c7, if_true]; rfl
  · have c7 : ¬ u + 30 < v := c7
    simp only [numS, c7, if_false]; rfl
end XGa
