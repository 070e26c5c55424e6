/-! A new card's cells. Own work. -/
theorem nw_o (z : ZS) (t n w : Nat) {a : Nat} (h : a ≠ zn z) : tg (nw z t n w) a = tg z a ∧ ln (nw z t n w) a = ln z a ∧ zI (nw z t n w) a = zI z a ∧ zP (nw z t n w) a = zP z a := by
  have h : ¬ a = z.1 := h
  refine ⟨?_, ?_, ?_, ?_⟩
  · show va_up z.2.2.1 z.1 t a = _
    unfold va_up; rw [if_neg h]; rfl
  · show va_up z.2.2.2.1 z.1 n a = _
    unfold va_up; rw [if_neg h]; rfl
  · show va_up z.2.2.2.2.1 z.1 _ a = _
    unfold va_up; rw [if_neg h]; rfl
  · show va_up z.2.2.2.2.2 z.1 _ a = _
    unfold va_up; rw [if_neg h]; rfl
theorem sI_zn (z : ZS) (a k : Nat) (v : Int32) : zn (sI z a k v) = zn z := rfl
theorem sI_zw (z : ZS) (a k : Nat) (v : Int32) : zw (sI z a k v) = zw z := rfl
theorem sI_tg (z : ZS) (a k : Nat) (v : Int32) : tg (sI z a k v) = tg z := rfl
theorem sI_ln (z : ZS) (a k : Nat) (v : Int32) : ln (sI z a k v) = ln z := rfl
theorem sI_zP (z : ZS) (a k : Nat) (v : Int32) : zP (sI z a k v) = zP z := rfl
theorem sP_zn (z : ZS) (a k v : Nat) : zn (sP z a k v) = zn z := rfl
theorem sP_zw (z : ZS) (a k v : Nat) : zw (sP z a k v) = zw z := rfl
theorem sP_tg (z : ZS) (a k v : Nat) : tg (sP z a k v) = tg z := rfl
theorem sP_ln (z : ZS) (a k v : Nat) : ln (sP z a k v) = ln z := rfl
theorem sP_zI (z : ZS) (a k v : Nat) : zI (sP z a k v) = zI z := rfl
def dz0 (z : ZS) (x : Nat) (n kind : Int32) (pl : Nat) (player day : Int32) (sh : Nat) : ZS := sP (sI (sI (sP (sI (sI (sI (sI (sI z x 12 (-100002)) x 13 (-100002)) x 17 (-100002)) x 0 n) x 1 kind) x 2 pl) x 3 player) x 4 day) x 7 sh
section DZ
variable (z : ZS) (x : Nat) (n kind : Int32) (pl : Nat) (player day : Int32) (sh : Nat)
theorem dz_n : zn (dz0 z x n kind pl player day sh) = zn z := by
  unfold dz0
  rw [sP_zn, sI_zn, sI_zn, sP_zn, sI_zn, sI_zn, sI_zn, sI_zn, sI_zn]
theorem dz_w : zw (dz0 z x n kind pl player day sh) = zw z := by
  unfold dz0
  rw [sP_zw, sI_zw, sI_zw, sP_zw, sI_zw, sI_zw, sI_zw, sI_zw, sI_zw]
theorem dz_t : tg (dz0 z x n kind pl player day sh) = tg z := by
  unfold dz0
  rw [sP_tg, sI_tg, sI_tg, sP_tg, sI_tg, sI_tg, sI_tg, sI_tg, sI_tg]
theorem dz_l : ln (dz0 z x n kind pl player day sh) = ln z := by
  unfold dz0
  rw [sP_ln, sI_ln, sI_ln, sP_ln, sI_ln, sI_ln, sI_ln, sI_ln, sI_ln]
theorem dz_Io {a j : Nat} (h : a ≠ x ∨ j = 6 ∨ j = 9 ∨ j = 10) : zI (dz0 z x n kind pl player day sh) a j = zI z a j := by
  unfold dz0
  rw [sP_zI, sI_n (by omega), sI_n (by omega), sP_zI, sI_n (by omega), sI_n (by omega), sI_n (by omega), sI_n (by omega), sI_n (by omega)]
theorem dz_0 : zI (dz0 z x n kind pl player day sh) x 0 = n ∧ zI (dz0 z x n kind pl player day sh) x 1 = kind ∧ zI (dz0 z x n kind pl player day sh) x 3 = player ∧ zI (dz0 z x n kind pl player day sh) x 4 = day := by
  unfold dz0
  refine ⟨?_, ?_, ?_, ?_⟩
  · rw [sP_zI, sI_n (by omega), sI_n (by omega), sP_zI, sI_n (by omega), sI_e]
  · rw [sP_zI, sI_n (by omega), sI_n (by omega), sP_zI, sI_e]
  · rw [sP_zI, sI_n (by omega), sI_e]
  · rw [sP_zI, sI_e]
theorem dz_Po {a j : Nat} (h : a ≠ x ∨ j = 5) : zP (dz0 z x n kind pl player day sh) a j = zP z a j := by
  unfold dz0
  rw [sP_n (by omega), sI_zP, sI_zP, sP_n (by omega), sI_zP, sI_zP, sI_zP, sI_zP, sI_zP]
theorem dz_2 : zP (dz0 z x n kind pl player day sh) x 2 = pl ∧ zP (dz0 z x n kind pl player day sh) x 7 = sh := by
  unfold dz0
  refine ⟨?_, sP_e⟩
  rw [sP_n (by omega), sI_zP, sI_zP, sP_e]
end DZ
def diz (z : ZS) (x : Nat) (n kind : Int32) (pl : Nat) (player day : Int32) (sh : Nat) : ZS := sP (nw (dz0 z x n kind pl player day sh) 1 (ln z sh) (ln z sh)) x 8 (zn z)
theorem D_init (d : Nat) (z : ZS) (x : Nat) (n kind : Int32) (pl : Nat) (player day : Int32) (sh : Nat) (hx : tg z x = 11) (h0 : ¬ x = 0) (hz : x < zn z) (hs : isAr (tg z sh)) (hl : ln z sh ≤ 18) : Rn (d + 1) i_D_init [.ref x, .int n, .int kind, .ref pl, .int player, .int day, .ref sh] z none (diz z x n kind pl player day sh) := by
  have cl : (nI (ln z sh)).toNatClampNeg = ln z sh := nI_clamp (by omega)
  have nx : x ≠ zn (dz0 z x n kind pl player day sh) := by rw [dz_n]; omega
  have hd : diz z x n kind pl player day sh = sP (nw (dz0 z x n kind pl player day sh) 1 (nI (ln (dz0 z x n kind pl player day sh) sh)).toNatClampNeg (nI (ln (dz0 z x n kind pl player day sh) sh)).toNatClampNeg) x 8 (zn (dz0 z x n kind pl player day sh)) := by
    rw [dz_l, dz_n, cl]; rfl
  have ht : tg (nw (dz0 z x n kind pl player day sh) 1 (nI (ln (dz0 z x n kind pl player day sh) sh)).toNatClampNeg (nI (ln (dz0 z x n kind pl player day sh) sh)).toNatClampNeg) x = 11 := by
    rw [(nw_o _ _ _ _ nx).1, dz_t]; exact hx
  have hc : ¬ nI (ln (dz0 z x n kind pl player day sh) sh) < 0 ∧ (nI (ln (dz0 z x n kind pl player day sh) sh)).toNatClampNeg ≤ 100000 := by
    rw [dz_l, cl]; exact ⟨nI_pos (n := ln z sh) (by omega), by omega⟩
  exact rn_i (full := cd_12) h0 (ok_n rfl) rfl (fun K hK => hK 0 _ _ _ ⟨h0, ⟨hx, ⟨hx, ⟨hx, ⟨hx, ⟨hx, ⟨hx, ⟨hx, ⟨hx, ⟨hx, ⟨hs, ⟨hc, ⟨ht, ⟨rfl, hd.symm⟩⟩⟩⟩⟩⟩⟩⟩⟩⟩⟩⟩⟩⟩)
theorem diz_f (z : ZS) (x : Nat) (n kind : Int32) (pl : Nat) (player day : Int32) (sh : Nat) (hz : x < zn z) : zn (diz z x n kind pl player day sh) = zn z + 1 ∧ zw (diz z x n kind pl player day sh) = zw z + ln z sh ∧ (∀ a, a < zn z → tg (diz z x n kind pl player day sh) a = tg z a ∧ ln (diz z x n kind pl player day sh) a = ln z a) ∧ (tg (diz z x n kind pl player day sh) (zn z) = 1 ∧ ln (diz z x n kind pl player day sh) (zn z) = ln z sh) ∧ (∀ a j, a < zn z → a ≠ x → zI (diz z x n kind pl player day sh) a j = zI z a j ∧ zP (diz z x n kind pl player day sh) a j = zP z a j) ∧ (zI (diz z x n kind pl player day sh) x 0 = n ∧ zI (diz z x n kind pl player day sh) x 1 = kind ∧ zI (diz z x n kind pl player day sh) x 3 = player ∧ zI (diz z x n kind pl player day sh) x 4 = day ∧ zI (diz z x n kind pl player day sh) x 6 = zI z x 6 ∧ zI (diz z x n kind pl player day sh) x 9 = zI z x 9 ∧ zI (diz z x n kind pl player day sh) x 10 = zI z x 10) ∧ (zP (diz z x n kind pl player day sh) x 2 = pl ∧ zP (diz z x n kind pl player day sh) x 5 = zP z x 5 ∧ zP (diz z x n kind pl player day sh) x 7 = sh ∧ zP (diz z x n kind pl player day sh) x 8 = zn z) := by
  have hI := @dz_Io z x n kind pl player day sh
  have h0 := dz_0 z x n kind pl player day sh
  have hP := @dz_Po z x n kind pl player day sh
  have h2 := dz_2 z x n kind pl player day sh
  have hn := dz_n z x n kind pl player day sh
  have hw := dz_w z x n kind pl player day sh
  have ht := dz_t z x n kind pl player day sh
  have hl := dz_l z x n kind pl player day sh
  unfold diz
  generalize dz0 z x n kind pl player day sh = y at *
  have old : ∀ a, a < zn z → tg (nw y 1 (ln z sh) (ln z sh)) a = tg z a ∧ ln (nw y 1 (ln z sh) (ln z sh)) a = ln z a ∧ zI (nw y 1 (ln z sh) (ln z sh)) a = zI y a ∧ zP (nw y 1 (ln z sh) (ln z sh)) a = zP y a := fun a ha => by
    have o := nw_o y 1 (ln z sh) (ln z sh) (a := a) (by rw [hn]; omega)
    exact ⟨o.1.trans (by rw [ht]), o.2.1.trans (by rw [hl]), o.2.2.1, o.2.2.2⟩
  refine ⟨?_, ?_, fun a ha => ⟨?_, ?_⟩, ⟨?_, ?_⟩, fun a j ha ne => ⟨?_, ?_⟩, ⟨?_, ?_, ?_, ?_, ?_, ?_, ?_⟩, ?_, ?_, ?_, sP_e⟩
  · rw [sP_zn, ← hn]; rfl
  · rw [sP_zw, ← hw]; rfl
  · rw [sP_tg]; exact (old a ha).1
  · rw [sP_ln]; exact (old a ha).2.1
  · rw [sP_tg, ← hn]; exact nw_tg _ _ _ _
  · rw [sP_ln, ← hn]; exact nw_ln _ _ _ _
  · rw [sP_zI, (old a ha).2.2.1]; exact hI (Or.inl ne)
  · rw [sP_n (fun q => ne q.1), (old a ha).2.2.2]; exact hP (Or.inl ne)
  · rw [sP_zI, (old x hz).2.2.1]; exact h0.1
  · rw [sP_zI, (old x hz).2.2.1]; exact h0.2.1
  · rw [sP_zI, (old x hz).2.2.1]; exact h0.2.2.1
  · rw [sP_zI, (old x hz).2.2.1]; exact h0.2.2.2
  · rw [sP_zI, (old x hz).2.2.1]; exact hI (by omega)
  · rw [sP_zI, (old x hz).2.2.1]; exact hI (by omega)
  · rw [sP_zI, (old x hz).2.2.1]; exact hI (by omega)
  · rw [sP_n (by omega), (old x hz).2.2.2]; exact h2.1
  · rw [sP_n (by omega), (old x hz).2.2.2]; exact hP (by omega)
  · rw [sP_n (by omega), (old x hz).2.2.2]; exact h2.2
def tkF (z : ZS) (w : Nat) : Nat → ZS
  | 0 => nw z 1 w w
  | k + 1 => sI (tkF z w k) (zn z) k (zI z 18 k)
theorem tk_f (z : ZS) (w : Nat) (h18 : 18 < zn z) : ∀ k, zn (tkF z w k) = zn z + 1 ∧ zw (tkF z w k) = zw z + w ∧ (∀ a, a ≠ zn z → tg (tkF z w k) a = tg z a ∧ ln (tkF z w k) a = ln z a ∧ zP (tkF z w k) a = zP z a ∧ zI (tkF z w k) a = zI z a) ∧ (tg (tkF z w k) (zn z) = 1 ∧ ln (tkF z w k) (zn z) = w) ∧ (∀ j, j < k → zI (tkF z w k) (zn z) j = zI z 18 j)
  | 0 => ⟨rfl, rfl, fun a ha => ⟨(nw_o z 1 w w ha).1, (nw_o z 1 w w ha).2.1, (nw_o z 1 w w ha).2.2.2, (nw_o z 1 w w ha).2.2.1⟩, ⟨nw_tg _ _ _ _, nw_ln _ _ _ _⟩, fun j hj => absurd hj (by omega)⟩
  | k + 1 => by
    obtain ⟨h1, h2, h3, h4, h5⟩ := tk_f z w h18 k
    refine ⟨h1, h2, fun a ha => ⟨(h3 a ha).1, (h3 a ha).2.1, (h3 a ha).2.2.1, ?_⟩, h4, fun j hj => ?_⟩
    · funext j
      show zI (sI (tkF z w k) (zn z) k (zI z 18 k)) a j = _
      rw [sI_n (fun q => ha q.1), (h3 a ha).2.2.2]
    · show zI (sI (tkF z w k) (zn z) k (zI z 18 k)) (zn z) j = _
      by_cases e : j = k
      · rw [e, sI_e]
      · rw [sI_n (fun q => e q.2)]; exact h5 j (by omega)
theorem W_takeAll (d : Nat) (z : ZS) (w : Nat) (h75 : 75 ≤ zn z) (t17 : tg z 17 = 15) (p17 : zP z 17 0 = 18) (t18 : tg z 18 = 1 ∧ ln z 18 = 18) (hs : zI z 17 1 = nI w) (hw : w ≤ 18) : Rn (d + 2) i_W_takeAll [.ref 17] z (some (.ref (zn z))) (sI (tkF z w w) 17 1 0) := by
  have cw : (nI w).toNatClampNeg = w := nI_clamp (by omega)
  have jm : Rn (d + 1) i_J_max [.int (zI z 17 1), .int 0] z (some (.int (nI w))) z := by
    have r := J_max d z (zI z 17 1) 0
    rw [hs] at r ⊢
    rw [if_neg (nI_pos (by omega))] at r
    exact r
  refine rn_i (full := cd_57) t17 (ok_n rfl) rfl (fun K hK => hK 0 _ _ _ ⟨t17, ⟨_, _, jm, ⟨⟨nI_pos (by omega), ?_⟩, ?_⟩⟩⟩)
  · show (nI w).toNatClampNeg ≤ 100000
    rw [cw]; omega
  · show K 13 [.ref 17, .ref (zn z), .int (nI 0)] [] (nw z 1 (nI w).toNatClampNeg (nI w).toNatClampNeg)
    rw [cw]
    refine loop_up (P := fun k => K 13 [.ref 17, .ref (zn z), .int (nI k)] [] (tkF z w k)) w (fun k hk ih => ?_) 0 (by omega)
    obtain ⟨h1, h2, h3, h4, h5⟩ := tk_f z w (by omega) k
    have x17 := h3 17 (by omega)
    have x18 := h3 18 (by omega)
    have tt : tg (tkF z w k) 17 = 15 := x17.1.trans t17
    have pp : zP (tkF z w k) 17 0 = 18 := by rw [x17.2.2.1]; exact p17
    have tv : tg (tkF z w k) (zP (tkF z w k) 17 0) = 1 := by rw [pp, x18.1]; exact t18.1
    have lv : ln (tkF z w k) (zP (tkF z w k) 17 0) = 18 := by rw [pp, x18.2.1]; exact t18.2
    have ar : isAr (tg (tkF z w k) (zn z)) := isA1 h4.1
    by_cases hkw : k < w
    · have ih := ih hkw
      rw [nI_succ k] at ih
      have ck : (nI k).toNatClampNeg = k := nI_clamp (by omega)
      refine hK 8 _ _ _ ⟨ar, ⟨fun c2 => absurd ?_ (nI_ge (a := k) (b := w) hkw (by omega)), fun c2 => ⟨tt, ⟨isA1 tv, ⟨fun c7 => absurd ?_ (nI_ge (a := k) (b := 18) (by omega) (by omega)), fun c7 => ⟨tt, ⟨⟨tv, ?_⟩, ⟨⟨h4.1, ?_⟩, ?_⟩⟩⟩⟩⟩⟩⟩⟩
      · have c2 : nI (ln (tkF z w k) (zn z)) ≤ nI k := c2
        rw [h4.2] at c2; exact c2
      · have c7 : nI (ln (tkF z w k) (zP (tkF z w k) 17 0)) ≤ nI k := c7
        rw [lv] at c7; exact c7
      · show vp_in (nI k) (ln (tkF z w k) (zP (tkF z w k) 17 0))
        rw [lv]; exact vp_in_nI (by omega) (by decide)
      · show vp_in (nI k) (ln (tkF z w k) (zn z))
        rw [h4.2]; exact vp_in_nI hkw (by omega)
      · show K 13 [.ref 17, .ref (zn z), .int (nI k + 1)] [] (sI (tkF z w k) (zn z) (nI k).toNatClampNeg (zI (tkF z w k) (zP (tkF z w k) 17 0) (nI k).toNatClampNeg))
        rw [ck, pp, x18.2.2.2]
        exact ih
    · have : k = w := by omega
      subst this
      refine hK 8 _ _ _ ⟨ar, ⟨fun c2 => ⟨tt, ⟨rfl, rfl⟩⟩, fun c2 => absurd ?_ c2⟩⟩
      show nI (ln (tkF z k k) (zn z)) ≤ nI k
      rw [h4.2]; exact Int32.le_refl _
/-- the model's part is kept, the ids grow -/
def Kq (z z' : ZS) : Prop := (∀ a, 46 ≤ a → a < 75 → tg z' a = tg z a ∧ ln z' a = ln z a) ∧ (∀ a j, 46 ≤ a → a < 75 → zI z' a j = zI z a j ∧ zP z' a j = zP z a j)
theorem Kq_MT {z z' : ZS} (h : Kq z z') (hM : MT z) : MT z' := ⟨(h.1 46 (by omega) (by omega)).1.trans hM.1, fun j hj => ⟨(h.1 (47 + j) (by omega) (by omega)).1.trans (hM.2 j hj).1, (h.1 (47 + j) (by omega) (by omega)).2.trans (hM.2 j hj).2.1, (h.2 46 _ (by omega) (by omega)).2.trans (hM.2 j hj).2.2⟩⟩
theorem Kq_AZ {z z' : ZS} (h : Kq z z') (j : Nat) (hj : j < 28) : AZ z' j = AZ z j := funext (fun i => (h.2 (47 + j) i (by omega) (by omega)).1)
theorem Kq_VZ {z z' : ZS} (h : Kq z z') : VZ z' = VZ z := funext (fun i => (h.2 46 i (by omega) (by omega)).1)
theorem Kq_w {z z' : ZS} (h : Kq z z') : AgW (TA z) (AZ z') := fun j hj => (Kq_AZ h j (by omega)).trans (ta_w z j hj)
theorem Kq_Fr {U W : Nat → Nat → Prop} {z z' : ZS} (h75 : 75 ≤ zn z) (h : Fr U W z z') (hU : ∀ a j, U a j → ¬ (46 ≤ a ∧ a < 75)) (hW : ∀ a j, W a j → ¬ (46 ≤ a ∧ a < 75)) : Kq z z' := ⟨fun a _ a2 => h.2.1 a (by omega), fun a j a1 a2 => ⟨h.2.2.1 a j (by omega) (fun w => hU a j w ⟨a1, a2⟩), h.2.2.2 a j (by omega) (fun w => hW a j w ⟨a1, a2⟩)⟩⟩
