/-! The class's Best: gather, rawTo. Own work. -/
theorem insL_at (w : Nat → Int32) (c : Nat) : ∀ (l : List Nat) (p : Nat), p ≤ l.length → (∀ j, j < p → w (l.getD j 0) < w c) → (∀ j, p ≤ j → j < l.length → w c ≤ w (l.getD j 0)) → ∀ j, (insL w c l).getD j 0 = if j < p then l.getD j 0 else if j = p then c else l.getD (j - 1) 0
  | [], p, hp, _, _, j => by
    have : p = 0 := by simpa using hp
    subst this
    cases j with
    | zero => rfl
    | succ j => simp [insL]
  | y :: t, 0, _, _, h2, j => by
    have this : w c ≤ w y := h2 0 (by omega) (by simp)
    have e : insL w c (y :: t) = c :: y :: t := by
      show (if _ then _ else _) = _
      rw [if_pos this]
    rw [e]
    cases j with
    | zero => rfl
    | succ j => rfl
  | y :: t, p + 1, hp, h1, h2, j => by
    have this : w y < w c := h1 0 (by omega)
    have e : insL w c (y :: t) = y :: insL w c t := by
      show (if _ then _ else _) = _
      rw [if_neg (Int32.not_le.mpr this)]
    rw [e]
    have ih := insL_at w c t p (by simpa using hp) (fun j hj => h1 (j + 1) (by omega)) (fun j hj hl => h2 (j + 1) (by omega) (by simpa using hl))
    cases j with
    | zero => rw [if_pos (by omega)]; rfl
    | succ j =>
      show (insL w c t).getD j 0 = _
      rw [ih j]
      by_cases a : j < p
      · rw [if_pos a, if_pos (by omega)]; rfl
      · rw [if_neg a]
        by_cases b : j = p
        · rw [if_pos b, if_neg (by omega), if_pos (by omega)]
        · rw [if_neg b, if_neg (by omega), if_neg (by omega)]
          rw [show j + 1 - 1 = (j - 1) + 1 by omega]; rfl
/-- the marks and numbers of a list -/
def RB (M N w nm : Nat → Int32) (s : Nat → Nat) (len : Nat) : Prop := ∀ j, j < len → M j = w (s j) ∧ N j = nm (s j)
def ofF (v u : Int32) : Nat → (Nat → Int32) → (Nat → Int32) → (Nat → Int32) × (Nat → Int32)
  | 0, M, N => (upd M 0 v, upd N 0 u)
  | i + 1, M, N => if M i < v then (upd M (i + 1) v, upd N (i + 1) u) else ofF v u i (upd M (i + 1) (M i)) (upd N (i + 1) (N i))
/-- one goes into the first L of s: at a place p -/
theorem ofF_at (w nm : Nat → Int32) (c : Nat) (s : Nat → Nat) (L : Nat) (hs : ∀ a b, a < b → b < L → w (s a) ≤ w (s b)) : ∀ (i : Nat) (M N : Nat → Int32), i ≤ L → RB M N w nm s i → (∀ j, i ≤ j → j < L → M (j + 1) = w (s j) ∧ N (j + 1) = nm (s j)) → (∀ j, i ≤ j → j < L → w c ≤ w (s j)) →
    ∃ p, p ≤ L ∧ (∀ j, j < p → w (s j) < w c) ∧ (∀ j, p ≤ j → j < L → w c ≤ w (s j)) ∧ RB (ofF (w c) (nm c) i M N).1 (ofF (w c) (nm c) i M N).2 w nm (fun j => if j < p then s j else if j = p then c else s (j - 1)) (L + 1)
  | 0, M, N, hi, h1, h2, h3 => by
    refine ⟨0, by omega, fun j hj => by omega, h3, fun j hj => ?_⟩
    show upd M 0 (w c) j = w (if j < 0 then s j else if j = 0 then c else s (j - 1)) ∧ upd N 0 (nm c) j = nm (if j < 0 then s j else if j = 0 then c else s (j - 1))
    have n0 : ¬ j < 0 := by omega
    by_cases e : j = 0
    · subst e; exact ⟨rfl, rfl⟩
    · simp only [upd, n0, e, if_false]
      have := h2 (j - 1) (by omega) (by omega)
      rw [show j - 1 + 1 = j by omega] at this; exact this
  | i + 1, M, N, hi, h1, h2, h3 => by
    have eM := h1 i (by omega)
    unfold ofF
    by_cases hd : M i < w c
    · rw [if_pos hd]
      rw [eM.1] at hd
      refine ⟨i + 1, hi, fun j hj => ?_, h3, fun j hj => ?_⟩
      · by_cases e : j = i
        · rw [e]; exact hd
        · have := hs j i (by omega) (by omega)
          rw [i32_le] at this; rw [i32_lt] at hd ⊢; omega
      · show upd M (i + 1) (w c) j = w (if j < i + 1 then s j else if j = i + 1 then c else s (j - 1)) ∧ upd N (i + 1) (nm c) j = nm (if j < i + 1 then s j else if j = i + 1 then c else s (j - 1))
        by_cases e : j = i + 1
        · have a : ¬ j < i + 1 := by omega
          simp only [upd, e, if_true, Nat.lt_irrefl, if_false]; exact ⟨trivial, trivial⟩
        · by_cases a : j < i + 1
          · simp only [upd, e, a, if_true, if_false]; exact h1 j a
          · simp only [upd, e, a, if_false]
            have := h2 (j - 1) (by omega) (by omega)
            rw [show j - 1 + 1 = j by omega] at this; exact this
    · rw [if_neg hd]
      rw [eM.1] at hd
      have hd' := Int32.not_lt.mp hd
      refine ofF_at w nm c s L hs i _ _ (by omega) (fun j hj => ?_) (fun j hj hl => ?_) (fun j hj hl => ?_)
      · unfold upd
        rw [if_neg (by omega), if_neg (by omega)]; exact h1 j (by omega)
      · unfold upd
        by_cases e : j = i
        · rw [if_pos (by omega), if_pos (by omega), e]; exact eM
        · rw [if_neg (by omega), if_neg (by omega)]; exact h2 j (by omega) hl
      · by_cases e : j = i
        · rw [e]; exact hd'
        · exact h3 j (by omega) hl
/-- the heap with Best's size, marks and numbers -/
def bz (z : ZS) (q : Int32) (M N : Nat → Int32) : ZS := (z.1, z.2.1, z.2.2.1, z.2.2.2.1, fun a k => if a = 14 ∧ k = 2 then q else if a = 15 then M k else if a = 16 then N k else z.2.2.2.2.1 a k, z.2.2.2.2.2)
def BT (z : ZS) : Prop := tg z 14 = 10 ∧ zP z 14 0 = 15 ∧ zP z 14 1 = 16 ∧ (tg z 15 = 1 ∧ ln z 15 = 8) ∧ (tg z 16 = 1 ∧ ln z 16 = 8)
theorem bz_q (z : ZS) (q v : Int32) (M N : Nat → Int32) : sI (bz z q M N) 14 2 v = bz z v M N := by
  unfold sI bz
  congr 5
  funext a k
  show (if a = 14 ∧ k = 2 then v else if a = 14 ∧ k = 2 then q else if a = 15 then M k else if a = 16 then N k else z.2.2.2.2.1 a k) = if a = 14 ∧ k = 2 then v else if a = 15 then M k else if a = 16 then N k else z.2.2.2.2.1 a k
  by_cases h : a = 14 ∧ k = 2
  · rw [if_pos h, if_pos h]
  · rw [if_neg h, if_neg h, if_neg h]
theorem bz_M (z : ZS) (q v : Int32) (i : Nat) (M N : Nat → Int32) : sI (bz z q M N) 15 i v = bz z q (upd M i v) N := by
  unfold sI bz
  congr 5
  funext a k
  show (if a = 15 ∧ k = i then v else if a = 14 ∧ k = 2 then q else if a = 15 then M k else if a = 16 then N k else z.2.2.2.2.1 a k) = if a = 14 ∧ k = 2 then q else if a = 15 then (if k = i then v else M k) else if a = 16 then N k else z.2.2.2.2.1 a k
  by_cases h : a = 15
  · rw [if_neg (c := a = 14 ∧ k = 2) (by omega), if_neg (c := a = 14 ∧ k = 2) (by omega), if_pos h, if_pos h]
    by_cases hk : k = i
    · rw [if_pos ⟨h, hk⟩, if_pos hk]
    · rw [if_neg (fun w => hk w.2), if_neg hk]
  · rw [if_neg (fun w => h w.1), if_neg h, if_neg h]
theorem bz_N (z : ZS) (q v : Int32) (i : Nat) (M N : Nat → Int32) : sI (bz z q M N) 16 i v = bz z q M (upd N i v) := by
  unfold sI bz
  congr 5
  funext a k
  show (if a = 16 ∧ k = i then v else if a = 14 ∧ k = 2 then q else if a = 15 then M k else if a = 16 then N k else z.2.2.2.2.1 a k) = if a = 14 ∧ k = 2 then q else if a = 15 then M k else if a = 16 then (if k = i then v else N k) else z.2.2.2.2.1 a k
  by_cases h : a = 16
  · rw [if_neg (c := a = 14 ∧ k = 2) (by omega), if_neg (c := a = 14 ∧ k = 2) (by omega), if_neg (c := a = 15) (by omega), if_neg (c := a = 15) (by omega), if_pos h, if_pos h]
    by_cases hk : k = i
    · rw [if_pos ⟨h, hk⟩, if_pos hk]
    · rw [if_neg (fun w => hk w.2), if_neg hk]
  · rw [if_neg (fun w => h w.1), if_neg (c := a = 16) h, if_neg (c := a = 16) h]
theorem bz_id (z : ZS) : bz z (zI z 14 2) (zI z 15) (zI z 16) = z := by
  obtain ⟨a, b, c, d, e, f⟩ := z
  unfold bz
  congr 5
  funext x k
  show (if x = 14 ∧ k = 2 then e 14 2 else if x = 15 then e 15 k else if x = 16 then e 16 k else e x k) = e x k
  by_cases h : x = 14 ∧ k = 2
  · rw [if_pos h, h.1, h.2]
  · rw [if_neg h]
    by_cases h1 : x = 15
    · rw [if_pos h1, h1]
    · rw [if_neg h1]
      by_cases h2 : x = 16
      · rw [if_pos h2, h2]
      · rw [if_neg h2]
/-- a card's ints don't lie in Best -/
theorem bz_c {z : ZS} (hT : BT z) {x : Nat} (hx : tg z x = 11) (q : Int32) (M N : Nat → Int32) (j : Nat) : zI (bz z q M N) x j = zI z x j := by
  have n14 : x ≠ 14 := fun e => by rw [e, hT.1] at hx; cases hx
  have n15 : x ≠ 15 := fun e => by rw [e, hT.2.2.2.1.1] at hx; cases hx
  have n16 : x ≠ 16 := fun e => by rw [e, hT.2.2.2.2.1] at hx; cases hx
  show (if x = 14 ∧ j = 2 then q else if x = 15 then M j else if x = 16 then N j else zI z x j) = _
  rw [if_neg (fun w => n14 w.1), if_neg n15, if_neg n16]
section XOf
variable (d : Nat) (z : ZS) (w nm : Nat → Int32)
/-- the way from place i on -/
theorem B_off48 (hT : BT z) (x c m : Nat) (hm : m ≤ 8) (hx : tg z x = 11) (h12 : zI z x 12 = w c) (h0 : zI z x 0 = nm c) (K : Zk) (X : ZS) (hK : Sf (Rn d) cd_9 (fun r1 z1 => r1 = none ∧ z1 = X) K) (q : Int32) : ∀ (i : Nat) (M N : Nat → Int32), i < m → X = bz z (q + 1) (ofF (w c) (nm c) i M N).1 (ofF (w c) (nm c) i M N).2 → K 48 [.ref 14, .ref x, .int (nI m), .int (nI i)] [] (bz z q M N) := by
  intro i
  induction i with
  | zero =>
    intro M N hi hX
    have v0 : vp_in (nI 0) (ln z 15) := by rw [hT.2.2.2.1.2]; exact vp_in_nI (n := 0) (by decide) (by decide)
    have v1 : vp_in (nI 0) (ln z 16) := by rw [hT.2.2.2.2.2]; exact vp_in_nI (n := 0) (by decide) (by decide)
    refine hK 29 _ _ _ ⟨fun c1 => ⟨⟨hT.1, hT.2.1⟩, ⟨hx, ⟨⟨hT.2.2.2.1.1, v0⟩, ⟨⟨hT.1, hT.2.2.1⟩, ⟨hx, ⟨⟨hT.2.2.2.2.1, v1⟩, ⟨hT.1, ⟨hT.1, ⟨rfl, ?_⟩⟩⟩⟩⟩⟩⟩⟩⟩, fun c1 => absurd (show nI 0 ≤ 0 by decide) c1⟩
    rw [hX]
    show sI (sI (sI (bz z q M N) 15 (nI 0).toNatClampNeg (zI (bz z q M N) x 12)) 16 (nI 0).toNatClampNeg (zI (sI (bz z q M N) 15 (nI 0).toNatClampNeg (zI (bz z q M N) x 12)) x 0)) 14 2 (q + 1) = _
    rw [bz_M, bz_N, bz_q, bz_c hT hx, bz_c hT hx, h12, h0]; rfl
  | succ i ih =>
    intro M N hi hX
    have hp : nI (i + 1) - 1 = nI i := nI_pred i
    have hp' : nI (i + 1) + -1 = nI i := by rw [← hp, Int32.sub_eq_add_neg]
    have ci : (nI i).toNatClampNeg = i := nI_clamp (by omega)
    have ci1 : (nI (i + 1)).toNatClampNeg = i + 1 := nI_clamp (by omega)
    have v15 : vp_in (nI (i + 1)) (ln z 15) := by rw [hT.2.2.2.1.2]; exact vp_in_nI (by omega) (by decide)
    have v16 : vp_in (nI (i + 1)) (ln z 16) := by rw [hT.2.2.2.2.2]; exact vp_in_nI (by omega) (by decide)
    have u15 : vp_in (nI (i + 1) - 1) (ln z 15) := by rw [hp, hT.2.2.2.1.2]; exact vp_in_nI (by omega) (by decide)
    have u16 : vp_in (nI (i + 1) - 1) (ln z 16) := by rw [hp, hT.2.2.2.2.2]; exact vp_in_nI (by omega) (by decide)
    refine hK 29 _ _ _ ⟨fun c1 => absurd c1 (nI_nle (by omega) (by omega)), fun c1 => ⟨⟨hT.1, hT.2.1⟩, ⟨⟨hT.2.2.2.1.1, u15⟩, ⟨hx, ⟨fun c14 => ⟨⟨hT.1, hT.2.1⟩, ⟨hx, ⟨⟨hT.2.2.2.1.1, v15⟩, ⟨⟨hT.1, hT.2.2.1⟩, ⟨hx, ⟨⟨hT.2.2.2.2.1, v16⟩, ⟨hT.1, ⟨hT.1, ⟨rfl, ?_⟩⟩⟩⟩⟩⟩⟩⟩⟩,
      fun c14 => ⟨⟨hT.1, hT.2.1⟩, ⟨⟨hT.1, hT.2.1⟩, ⟨⟨hT.2.2.2.1.1, u15⟩, ⟨⟨hT.2.2.2.1.1, v15⟩, ⟨⟨hT.1, hT.2.2.1⟩, ⟨⟨hT.1, hT.2.2.1⟩, ⟨⟨hT.2.2.2.2.1, u16⟩, ⟨⟨hT.2.2.2.2.1, v16⟩, ?_⟩⟩⟩⟩⟩⟩⟩⟩⟩⟩⟩⟩⟩
    · have c14 : M (nI (i + 1) - 1).toNatClampNeg < zI (bz z q M N) x 12 := c14
      rw [hp, ci, bz_c hT hx, h12] at c14
      unfold ofF at hX
      rw [if_pos c14] at hX
      rw [hX]
      show sI (sI (sI (bz z q M N) 15 (nI (i + 1)).toNatClampNeg (zI (bz z q M N) x 12)) 16 (nI (i + 1)).toNatClampNeg (zI (sI (bz z q M N) 15 (nI (i + 1)).toNatClampNeg (zI (bz z q M N) x 12)) x 0)) 14 2 (q + 1) = _
      rw [bz_M, bz_N, bz_q, bz_c hT hx, bz_c hT hx, h12, h0, ci1]
    · have c14 : ¬ M (nI (i + 1) - 1).toNatClampNeg < zI (bz z q M N) x 12 := c14
      rw [hp, ci, bz_c hT hx, h12] at c14
      unfold ofF at hX
      rw [if_neg c14] at hX
      have g := ih _ _ (by omega) hX
      show K 48 [.ref 14, .ref x, .int (nI m), .int (nI (i + 1) + -1)] [] (sI (sI (bz z q M N) 15 (nI (i + 1)).toNatClampNeg (M (nI (i + 1) - 1).toNatClampNeg)) 16 (nI (i + 1)).toNatClampNeg (N (nI (i + 1) - 1).toNatClampNeg))
      rw [bz_M, bz_N, ci1, hp, ci, hp']
      exact g
/-- the first m of s with c, where s has L -/
theorem B_offer (hT : BT z) (x c m : Nat) (hm1 : 1 ≤ m) (hm : m ≤ 8) (hx : tg z x = 11) (h12 : zI z x 12 = w c) (h0 : zI z x 0 = nm c) (l : List Nat) (hs : ∀ a b, a < b → b < l.length → w (l.getD a 0) ≤ w (l.getD b 0)) (M N : Nat → Int32) (hR : RB M N w nm (fun j => l.getD j 0) (min m l.length)) : ∃ (M' N' : Nat → Int32), Rn (d + 1) i_B_offer [.ref 14, .ref x, .int (nI m)] (bz z (nI (min m l.length)) M N) none (bz z (nI (min m (l.length + 1))) M' N') ∧ RB M' N' w nm (fun j => (insL w c l).getD j 0) (min m (l.length + 1)) := by
  have a1 : ¬ nI m < 1 := by rw [show (1 : Int32) = nI 1 from rfl]; exact nI_nlt hm1 (by omega)
  have a8 : nI m ≤ 8 := by rw [show (8 : Int32) = nI 8 from rfl]; exact nI_le hm (by omega)
  have vm : nI m - 1 = nI (m - 1) := by rw [show (1 : Int32) = nI 1 from rfl, pk_sub (by omega)]
  have v15 : vp_in (nI m - 1) (ln z 15) := by rw [vm, hT.2.2.2.1.2]; exact vp_in_nI (by omega) (by decide)
  have cm : (nI (m - 1)).toNatClampNeg = m - 1 := nI_clamp (by omega)
  by_cases hl : l.length < m
  · have e1 : min m l.length = l.length := by omega
    have e2 : min m (l.length + 1) = l.length + 1 := by omega
    rw [e1] at hR ⊢
    rw [e2]
    obtain ⟨p, p1, p2, p3, p4⟩ := ofF_at w nm c (fun j => l.getD j 0) l.length hs l.length M N (Nat.le_refl _) hR (fun j h1 h2 => by omega) (fun j h1 h2 => by omega)
    refine ⟨(ofF (w c) (nm c) l.length M N).1, (ofF (w c) (nm c) l.length M N).2, rn_i (full := cd_9) hT.1 (ok_n rfl) rfl (fun K hK => hK 0 _ _ _ ⟨fun c1 => absurd c1 a1, fun c1 => ⟨fun c3 => ⟨hT.1, ⟨fun c5 => ⟨hT.1, ?_⟩, fun c5 => absurd ?_ c5⟩⟩, fun c3 => absurd a8 c3⟩⟩), ?_⟩
    · exact B_off48 d z w nm hT x c m hm hx h12 h0 K _ hK (nI l.length) l.length M N hl (by rw [nI_succ])
    · exact nI_lt hl (by omega)
    · intro j hj
      have := p4 j hj
      show _ = w ((insL w c l).getD j 0) ∧ _ = nm ((insL w c l).getD j 0)
      rw [insL_at w c l p p1 p2 p3 j]
      exact this
  · have e1 : min m l.length = m := by omega
    have e2 : min m (l.length + 1) = m := by omega
    rw [e1] at hR ⊢
    rw [e2]
    have c5' : ¬ nI m < nI m := nI_nlt (Nat.le_refl _) (by omega)
    have eM := (hR (m - 1) (by omega)).1
    by_cases hc : w c ≤ w (l.getD (m - 1) 0)
    · obtain ⟨p, p1, p2, p3, p4⟩ := ofF_at w nm c (fun j => l.getD j 0) (m - 1) (fun a b h1 h2 => hs a b h1 (by omega)) (m - 1) M N (Nat.le_refl _) (fun j hj => hR j (by omega)) (fun j h1 h2 => by omega) (fun j h1 h2 => by omega)
      refine ⟨(ofF (w c) (nm c) (m - 1) M N).1, (ofF (w c) (nm c) (m - 1) M N).2, rn_i (full := cd_9) hT.1 (ok_n rfl) rfl (fun K hK => hK 0 _ _ _ ⟨fun c1 => absurd c1 a1, fun c1 => ⟨fun c3 => ⟨hT.1, ⟨fun c5 => absurd c5 c5', fun c5 => ⟨⟨hT.1, hT.2.1⟩, ⟨⟨hT.2.2.2.1.1, v15⟩, ⟨hx, ⟨fun c11 => ⟨hT.1, ⟨hT.1, ?_⟩⟩, fun c11 => absurd ?_ c11⟩⟩⟩⟩⟩⟩, fun c3 => absurd a8 c3⟩⟩), ?_⟩
      · show K 48 [.ref 14, .ref x, .int (nI m), .int (zI (sI (bz z (nI m) M N) 14 2 (nI m - 1)) 14 2)] [] (sI (bz z (nI m) M N) 14 2 (nI m - 1))
        rw [bz_q, vm]
        exact B_off48 d z w nm hT x c m hm hx h12 h0 K _ hK (nI (m - 1)) (m - 1) M N (by omega) (by rw [← nI_succ, show m - 1 + 1 = m by omega])
      · show zI (bz z (nI m) M N) x 12 ≤ M (nI m - 1).toNatClampNeg
        rw [bz_c hT hx, h12, vm, cm, eM]; exact hc
      · intro j hj
        have := p4 j (by omega)
        have hp' : ∀ j, p ≤ j → j < l.length → w c ≤ w (l.getD j 0) := by
          intro j h1 h2
          by_cases hjm : j < m - 1
          · exact p3 j h1 hjm
          · by_cases e : j = m - 1
            · rw [e]; exact hc
            · have := hs (m - 1) j (by omega) h2
              rw [i32_le] at this hc ⊢; omega
        show _ = w ((insL w c l).getD j 0) ∧ _ = nm ((insL w c l).getD j 0)
        rw [insL_at w c l p (by omega) p2 hp' j]
        exact this
    · refine ⟨M, N, rn_i (full := cd_9) hT.1 (ok_n rfl) rfl (fun K hK => hK 0 _ _ _ ⟨fun c1 => absurd c1 a1, fun c1 => ⟨fun c3 => ⟨hT.1, ⟨fun c5 => absurd c5 c5', fun c5 => ⟨⟨hT.1, hT.2.1⟩, ⟨⟨hT.2.2.2.1.1, v15⟩, ⟨hx, ⟨fun c11 => absurd ?_ hc, fun c11 => ⟨rfl, rfl⟩⟩⟩⟩⟩⟩⟩, fun c3 => absurd a8 c3⟩⟩), ?_⟩
      · have c11 : zI (bz z (nI m) M N) x 12 ≤ M (nI m - 1).toNatClampNeg := c11
        rw [bz_c hT hx, h12, vm, cm, eM] at c11; exact c11
      · intro j hj
        have hc' := Int32.not_le.mp hc
        have lt : ∀ j, j < m → w (l.getD j 0) < w c := by
          intro j hj
          by_cases e : j = m - 1
          · rw [e]; exact hc'
          · have := hs j (m - 1) (by omega) (by omega)
            rw [i32_le] at this; rw [i32_lt] at hc' ⊢; omega
        have key : ∀ (l : List Nat) (j m : Nat), j < m → m ≤ l.length → (∀ j, j < m → w (l.getD j 0) < w c) → (insL w c l).getD j 0 = l.getD j 0 := by
          intro l
          induction l with
          | nil => intro j m h1 h2 _; simp at h2; omega
          | cons y t ih =>
            intro j m h1 h2 h3
            have h0 : w y < w c := h3 0 (by omega)
            show (if w c ≤ w y then c :: y :: t else y :: insL w c t).getD j 0 = _
            rw [if_neg (Int32.not_le.mpr h0)]
            cases j with
            | zero => rfl
            | succ j => exact ih j (m - 1) (by omega) (by simp at h2; omega) (fun i hi => h3 (i + 1) (by omega))
        show M j = w ((insL w c l).getD j 0) ∧ N j = nm ((insL w c l).getD j 0)
        rw [key l j m hj (by omega) lt]
        exact hR j hj
end XOf
