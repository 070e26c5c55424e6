/-! The class's constructors. Own work. -/
theorem na_ok {n : Nat} (h : n ≤ 100000) : ¬ nI n < 0 ∧ (nI n).toNatClampNeg ≤ 100000 := ⟨nI_pos (by omega), by rw [nI_clamp (by omega)]; exact h⟩
def giz (z : ZS) (x : Nat) : ZS := sP (nw (sP (nw (sP (nw z 1 30 30) x 0 (zn z)) 1 30 30) x 1 (zn z + 1)) 1 30 30) x 2 (zn z + 2)
def biz (z : ZS) (x : Nat) : ZS := sP (nw (sP (nw z 1 8 8) x 0 (zn z)) 1 8 8) x 1 (zn z + 1)
def wiz (z : ZS) (x w : Nat) : ZS := sP (nw z 1 w w) x 0 (zn z)
theorem nw_lt {z : ZS} {t n w x : Nat} (hz : x < zn z) : tg (nw z t n w) x = tg z x := (nw_o z t n w (Nat.ne_of_lt hz)).1
theorem G_init (d : Nat) (z : ZS) (x : Nat) (hx : tg z x = 14) (h0 : ¬ x = 0) (hz : x < zn z) : Rn (d + 1) i_G_init [.ref x] z none (giz z x) := by
  have t1 : tg (nw z 1 30 30) x = 14 := (nw_lt hz).trans hx
  have t2 : tg (nw (sP (nw z 1 30 30) x 0 (zn z)) 1 30 30) x = 14 := (nw_lt (by show x < zn z + 1; omega)).trans t1
  have t3 : tg (nw (sP (nw (sP (nw z 1 30 30) x 0 (zn z)) 1 30 30) x 1 (zn z + 1)) 1 30 30) x = 14 := (nw_lt (by show x < zn z + 1 + 1; omega)).trans t2
  exact rn_i (full := cd_49) h0 (ok_n rfl) rfl (fun K hK => hK 0 _ _ _ ⟨h0, ⟨na_ok (n := 30) (by omega), ⟨t1, ⟨na_ok (n := 30) (by omega), ⟨t2, ⟨na_ok (n := 30) (by omega), ⟨t3, ⟨rfl, rfl⟩⟩⟩⟩⟩⟩⟩⟩)
theorem B_init (d : Nat) (z : ZS) (x : Nat) (hx : tg z x = 10) (h0 : ¬ x = 0) (hz : x < zn z) : Rn (d + 1) i_B_init [.ref x] z none (biz z x) := by
  have t1 : tg (nw z 1 8 8) x = 10 := (nw_lt hz).trans hx
  have t2 : tg (nw (sP (nw z 1 8 8) x 0 (zn z)) 1 8 8) x = 10 := (nw_lt (by show x < zn z + 1; omega)).trans t1
  exact rn_i (full := cd_6) h0 (ok_n rfl) rfl (fun K hK => hK 0 _ _ _ ⟨h0, ⟨na_ok (n := 8) (by omega), ⟨t1, ⟨na_ok (n := 8) (by omega), ⟨t2, ⟨rfl, rfl⟩⟩⟩⟩⟩⟩)
theorem W_init (d : Nat) (z : ZS) (x w : Nat) (hw : w ≤ 100) (hx : tg z x = 15) (h0 : ¬ x = 0) (hz : x < zn z) : Rn (d + 2) i_W_init [.ref x, .int (nI w)] z none (wiz z x w) := by
  have cw : (nI w).toNatClampNeg = w := nI_clamp (by omega)
  have jm : Rn (d + 1) i_J_max [.int (nI w), .int 0] z (some (.int (nI w))) z := by
    have r := J_max d z (nI w) 0
    rw [if_neg (nI_pos (by omega))] at r
    exact r
  have e : wiz z x w = sP (nw z 1 (nI w).toNatClampNeg (nI w).toNatClampNeg) x 0 (zn z) := by rw [cw]; rfl
  have t1 : tg (nw z 1 (nI w).toNatClampNeg (nI w).toNatClampNeg) x = 15 := (nw_lt hz).trans hx
  exact rn_i (full := cd_55) h0 (ok_n rfl) rfl (fun K hK => hK 0 _ _ _ ⟨h0, ⟨_, _, jm, ⟨na_ok (by omega), ⟨t1, ⟨rfl, e.symm⟩⟩⟩⟩⟩)
theorem P_init (d : Nat) (z : ZS) (x : Nat) (h0 : ¬ x = 0) : Rn (d + 1) i_P_init [.ref x] z none z :=
  rn_i (full := cd_37) h0 (ok_n rfl) rfl (fun K hK => hK 0 _ _ _ ⟨h0, ⟨rfl, rfl⟩⟩)
/-- a new course: its cells, and its holes one after the other -/
def czh (z : ZS) (x : Nat) (v : Int32) : ZS := sI (sP (nw (sP (nw (sI (sI z x 1 720) x 2 113) 1 18 18) x 3 (zn z)) 1 18 18) x 4 (zn z + 1)) x 0 v
def czF (z : ZS) (x : Nat) (v : Int32) : Nat → ZS
  | 0 => czh z x v
  | h + 1 => sI (sI (czF z x v h) (zn z) h 4) (zn z + 1) h (nI (h + 1))
def CZ (z : ZS) (x : Nat) (v : Int32) (h : Nat) (y : ZS) : Prop := zn y = zn z + 2 ∧ zw y = zw z + 36 ∧ (∀ a, a < zn z → tg y a = tg z a ∧ ln y a = ln z a) ∧ (∀ a j, a < zn z → a ≠ x → zI y a j = zI z a j ∧ zP y a j = zP z a j) ∧ (zP y x 3 = zn z ∧ zP y x 4 = zn z + 1) ∧ (tg y (zn z) = 1 ∧ ln y (zn z) = 18) ∧ (tg y (zn z + 1) = 1 ∧ ln y (zn z + 1) = 18) ∧ (zI y x 0 = v ∧ zI y x 1 = 720 ∧ zI y x 2 = 113) ∧ (∀ j, j < h → zI y (zn z) j = 4) ∧ ∀ j, j < h → zI y (zn z + 1) j = nI (j + 1)
theorem cz_0 (z : ZS) (x : Nat) (v : Int32) (hz : x < zn z) : CZ z x v 0 (czh z x v) := by
  have n0 : zn (sI (sI z x 1 720) x 2 113) = zn z := rfl
  have o1 := fun a (ha : a ≠ zn z) => nw_o (sI (sI z x 1 720) x 2 113) 1 18 18 (a := a) ha
  have n2 : zn (sP (nw (sI (sI z x 1 720) x 2 113) 1 18 18) x 3 (zn z)) = zn z + 1 := rfl
  have w2 : zw (sP (nw (sI (sI z x 1 720) x 2 113) 1 18 18) x 3 (zn z)) = zw z + 18 := rfl
  have e1 : tg (nw (sI (sI z x 1 720) x 2 113) 1 18 18) (zn z) = 1 ∧ ln (nw (sI (sI z x 1 720) x 2 113) 1 18 18) (zn z) = 18 := ⟨nw_tg _ _ _ _, nw_ln _ _ _ _⟩
  have a0 : ∀ a j, a ≠ x → zI (sI (sI z x 1 720) x 2 113) a j = zI z a j := fun a j h => by rw [sI_n (fun q => h q.1), sI_n (fun q => h q.1)]
  have x1 : zI (sI (sI z x 1 720) x 2 113) x 1 = 720 := by rw [sI_n (by omega), sI_e]
  have x2 : zI (sI (sI z x 1 720) x 2 113) x 2 = 113 := sI_e
  have p0 : zP (sI (sI z x 1 720) x 2 113) = zP z := rfl
  have t0 : tg (sI (sI z x 1 720) x 2 113) = tg z ∧ ln (sI (sI z x 1 720) x 2 113) = ln z := ⟨rfl, rfl⟩
  unfold czh
  generalize sI (sI z x 1 720) x 2 113 = y0 at *
  have o3 := fun a (ha : a ≠ zn z + 1) => nw_o (sP (nw y0 1 18 18) x 3 (zn z)) 1 18 18 (a := a) (by rw [n2]; exact ha)
  have e3 : tg (nw (sP (nw y0 1 18 18) x 3 (zn z)) 1 18 18) (zn z + 1) = 1 ∧ ln (nw (sP (nw y0 1 18 18) x 3 (zn z)) 1 18 18) (zn z + 1) = 18 := by
    rw [← n2]; exact ⟨nw_tg _ _ _ _, nw_ln _ _ _ _⟩
  refine ⟨?_, ?_, fun a ha => ⟨?_, ?_⟩, fun a j ha ne => ⟨?_, ?_⟩, ⟨?_, ?_⟩, ⟨?_, ?_⟩, ⟨?_, ?_⟩, ⟨sI_e, ?_, ?_⟩, fun j hj => absurd hj (by omega), fun j hj => absurd hj (by omega)⟩
  · rw [sI_zn, sP_zn]
    show zn (sP (nw y0 1 18 18) x 3 (zn z)) + 1 = _
    rw [n2]
  · rw [sI_zw, sP_zw]
    show zw (sP (nw y0 1 18 18) x 3 (zn z)) + 18 = _
    rw [w2]
  · rw [sI_tg, sP_tg, (o3 a (by omega)).1, sP_tg, (o1 a (by omega)).1, t0.1]
  · rw [sI_ln, sP_ln, (o3 a (by omega)).2.1, sP_ln, (o1 a (by omega)).2.1, t0.2]
  · rw [sI_n (fun q => ne q.1), sP_zI, (o3 a (by omega)).2.2.1, sP_zI, (o1 a (by omega)).2.2.1, a0 a j ne]
  · rw [sI_zP, sP_n (fun q => ne q.1), (o3 a (by omega)).2.2.2, sP_n (fun q => ne q.1), (o1 a (by omega)).2.2.2, p0]
  · rw [sI_zP, sP_n (by omega), (o3 x (by omega)).2.2.2, sP_e]
  · rw [sI_zP, sP_e]
  · rw [sI_tg, sP_tg, (o3 _ (by omega)).1, sP_tg]; exact e1.1
  · rw [sI_ln, sP_ln, (o3 _ (by omega)).2.1, sP_ln]; exact e1.2
  · rw [sI_tg, sP_tg]; exact e3.1
  · rw [sI_ln, sP_ln]; exact e3.2
  · rw [sI_n (by omega), sP_zI, (o3 x (by omega)).2.2.1, sP_zI, (o1 x (by omega)).2.2.1]; exact x1
  · rw [sI_n (by omega), sP_zI, (o3 x (by omega)).2.2.1, sP_zI, (o1 x (by omega)).2.2.1]; exact x2
theorem cz_f (z : ZS) (x : Nat) (v : Int32) (hz : x < zn z) : ∀ h, CZ z x v h (czF z x v h)
  | 0 => cz_0 z x v hz
  | h + 1 => by
    obtain ⟨h1, h2, h3, h4, h5, h6, h7, ⟨i0, i1, i2⟩, h9, h10⟩ := cz_f z x v hz h
    have o : ∀ a j, a ≠ zn z → a ≠ zn z + 1 → zI (czF z x v (h + 1)) a j = zI (czF z x v h) a j := fun a j q1 q2 => (sI_n (fun q => q2 q.1)).trans (sI_n (fun q => q1 q.1))
    refine ⟨h1, h2, h3, fun a j ha ne => ⟨(o a j (by omega) (by omega)).trans (h4 a j ha ne).1, (h4 a j ha ne).2⟩, h5, h6, h7, ⟨(o _ _ (by omega) (by omega)).trans i0, (o _ _ (by omega) (by omega)).trans i1, (o _ _ (by omega) (by omega)).trans i2⟩, fun j hj => ?_, fun j hj => ?_⟩
    · show zI (sI (sI (czF z x v h) (zn z) h 4) (zn z + 1) h (nI (h + 1))) (zn z) j = 4
      rw [sI_n (by omega)]
      by_cases e : j = h
      · rw [e, sI_e]
      · rw [sI_n (by omega)]; exact h9 j (by omega)
    · show zI (sI (sI (czF z x v h) (zn z) h 4) (zn z + 1) h (nI (h + 1))) (zn z + 1) j = nI (j + 1)
      by_cases e : j = h
      · rw [e, sI_e]
      · rw [sI_n (by omega), sI_n (by omega)]; exact h10 j (by omega)
theorem C_init (d : Nat) (z : ZS) (x : Nat) (v : Int32) (hx : tg z x = 12) (h0 : ¬ x = 0) (hz : x < zn z) : Rn (d + 1) i_C_init [.ref x, .int v] z none (czF z x v 18) := by
  have t1 : tg (nw (sI (sI z x 1 720) x 2 113) 1 18 18) x = 12 := (nw_lt (z := sI (sI z x 1 720) x 2 113) hz).trans hx
  have t2 : tg (nw (sP (nw (sI (sI z x 1 720) x 2 113) 1 18 18) x 3 (zn z)) 1 18 18) x = 12 := (nw_lt (by show x < zn z + 1; omega)).trans t1
  refine rn_i (full := cd_30) h0 (ok_n rfl) rfl (fun K hK => hK 0 _ _ _ ⟨h0, ⟨hx, ⟨hx, ⟨na_ok (n := 18) (by omega), ⟨t1, ⟨na_ok (n := 18) (by omega), ⟨t2, ⟨t2, ?_⟩⟩⟩⟩⟩⟩⟩⟩)
  show K 40 [.ref x, .int v, .int (nI 0)] [] (czF z x v 0)
  refine loop_up (P := fun h => K 40 [.ref x, .int v, .int (nI h)] [] (czF z x v h)) 18 (fun h hh ih => ?_) 0 (by omega)
  obtain ⟨h1, h2, h3, h4, h5, h6, h7, -, -, -⟩ := cz_f z x v hz h
  have tx : tg (czF z x v h) x = 12 := (h3 x hz).1.trans hx
  by_cases e : h < 18
  · have ih := ih e
    have ck : (nI h).toNatClampNeg = h := nI_clamp (by omega)
    have tp : tg (czF z x v h) (zP (czF z x v h) x 3) = 1 := by rw [h5.1]; exact h6.1
    have vp : vp_in (nI h) (ln (czF z x v h) (zP (czF z x v h) x 3)) := by rw [h5.1, h6.2]; exact vp_in_nI e (by omega)
    have tr4 : tg (czF z x v h) (zP (czF z x v h) x 4) = 1 := by rw [h5.2]; exact h7.1
    have vr : vp_in (nI h) (ln (czF z x v h) (zP (czF z x v h) x 4)) := by rw [h5.2, h7.2]; exact vp_in_nI e (by omega)
    have es : czF z x v (h + 1) = sI (sI (czF z x v h) (zP (czF z x v h) x 3) (nI h).toNatClampNeg 4) (zP (czF z x v h) x 4) (nI h).toNatClampNeg (nI h + 1) := by
      rw [h5.1, h5.2, ck, ← nI_succ]; rfl
    rw [nI_succ h, es] at ih
    generalize czF z x v h = y at *
    exact hK 21 _ _ _ ⟨fun c1 => absurd c1 (nI_ge (a := h) (b := 18) e (by decide)), fun c1 => ⟨tx, ⟨⟨tp, vp⟩, ⟨tx, ⟨⟨tr4, vr⟩, ih⟩⟩⟩⟩⟩
  · have : h = 18 := by omega
    subst this
    exact hK 21 _ _ _ ⟨fun c1 => ⟨rfl, rfl⟩, fun c1 => absurd (Int32.le_refl _) c1⟩
