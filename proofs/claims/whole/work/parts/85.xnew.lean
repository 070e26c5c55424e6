/-! A new object of the class. Own work. -/
/-- the heap ahead of the loops -/
def xz1 (z : ZS) : ZS := sP (nw (sP (nw (sP (nw z 4 4 4) 6 0 (zn z)) 5 12 12) 6 1 (zn z + 1)) 6 60 60) 6 2 (zn z + 2)
def xz2 (z : ZS) : ZS := sP (giz (nw z 14 0 4) (zn z)) 6 4 (zn z)
def xz3 (z : ZS) : ZS := sP (biz (nw z 10 0 3) (zn z)) 6 5 (zn z)
def xz4 (z : ZS) (w s : Nat) : ZS := sP (wiz (nw z 15 0 2) (zn z) w) 6 s (zn z)
def xz5 (z : ZS) : ZS := sP (nw z 1 6 6) 6 8 (zn z)
def xz (z : ZS) : ZS := xz5 (xz4 (xz4 (xz3 (xz2 (xz1 z))) 18 6) 20 7)
def z01 (xs : Nat → Int32) (L : Nat) : ZS := nw (z00 xs L) 16 0 9
/-- what a new object's cells hold, but the courses and players -/
def X8 (y : ZS) (L : Nat) : Prop := (tg y 6 = 16 ∧ zP y 6 0 = 7 ∧ zP y 6 1 = 8 ∧ zP y 6 2 = 9 ∧ zP y 6 4 = 10 ∧ zP y 6 5 = 14 ∧ zP y 6 6 = 17 ∧ zP y 6 7 = 19 ∧ zP y 6 8 = 21) ∧ zI y 6 3 = 0 ∧ (tg y 7 = 4 ∧ ln y 7 = 4) ∧ (tg y 8 = 5 ∧ ln y 8 = 12) ∧ (tg y 9 = 6 ∧ ln y 9 = 60) ∧ (tg y 17 = 15 ∧ zP y 17 0 = 18 ∧ tg y 18 = 1 ∧ ln y 18 = 18) ∧ zI y 17 1 = 0 ∧ (tg y 19 = 15 ∧ zP y 19 0 = 20 ∧ tg y 20 = 1 ∧ ln y 20 = 20) ∧ zI y 19 1 = 0 ∧ (tg y 21 = 1 ∧ ln y 21 = 6) ∧ (∀ j, zI y 21 j = 0) ∧ (tg y 1 = 3 ∧ ln y 1 = 0) ∧ (tg y 4 = 3 ∧ ln y 4 = 5 ∧ ∀ j, j < 5 → zI y 4 j = pfA j) ∧ BT y ∧ ST y ∧ RT y 0 (zI y 11) (zI y 12) (zI y 13) ∧ S5 y L
theorem X8_F {U W : Nat → Nat → Prop} {y z : ZS} {L : Nat} (hF : Fr U W y z) (h22 : 22 ≤ zn y) (hU : ∀ a j, U a j → 22 ≤ a) (hW : ∀ a j, W a j → a = 7 ∨ a = 8 ∨ 22 ≤ a) (h : X8 y L) : X8 z L := by
  have t : ∀ a, a < 22 → tg z a = tg y a := fun a ha => (hF.2.1 a (by omega)).1
  have l : ∀ a, a < 22 → ln z a = ln y a := fun a ha => (hF.2.1 a (by omega)).2
  have i : ∀ a, a < 22 → zI z a = zI y a := fun a ha => funext (fun j => hF.2.2.1 a j (by omega) (fun q => by have := hU a j q; omega))
  have p : ∀ a, a < 22 → a ≠ 7 → a ≠ 8 → zP z a = zP y a := fun a ha n7 n8 => funext (fun j => hF.2.2.2 a j (by omega) (fun q => by have := hW a j q; omega))
  have g := hF.1
  unfold X8 BT ST RT S5 at *
  rw [t 6 (by omega), p 6 (by omega) (by omega) (by omega), i 6 (by omega), t 7 (by omega), l 7 (by omega), t 8 (by omega), l 8 (by omega), t 9 (by omega), l 9 (by omega), t 17 (by omega), p 17 (by omega) (by omega) (by omega), t 18 (by omega), l 18 (by omega), i 17 (by omega), t 19 (by omega), p 19 (by omega) (by omega) (by omega), t 20 (by omega), l 20 (by omega), i 19 (by omega), t 21 (by omega), l 21 (by omega), i 21 (by omega), t 1 (by omega), l 1 (by omega), t 4 (by omega), l 4 (by omega), i 4 (by omega), t 14 (by omega), p 14 (by omega) (by omega) (by omega), t 15 (by omega), l 15 (by omega), t 16 (by omega), l 16 (by omega), t 2 (by omega), l 2 (by omega), i 2 (by omega), t 3 (by omega), l 3 (by omega), i 3 (by omega), t 10 (by omega), p 10 (by omega) (by omega) (by omega), t 11 (by omega), l 11 (by omega), t 12 (by omega), l 12 (by omega), t 13 (by omega), l 13 (by omega), i 10 (by omega), i 11 (by omega), i 12 (by omega), i 13 (by omega), t 5 (by omega), l 5 (by omega)]
  obtain ⟨h1, h2, h3, h4, h5, h6, h7, h8, h9, h10, h11, h12, h13, h14, h15, h16, h17⟩ := h
  exact ⟨h1, h2, h3, h4, h5, h6, h7, h8, h9, h10, h11, h12, h13, h14, h15, h16, ⟨by omega, h17.1.2⟩, h17.2⟩
theorem xz_8 (xs : Nat → Int32) (L : Nat) : zn (xz (z01 xs L)) = 22 ∧ zw (xz (z01 xs L)) = 246 ∧ X8 (xz (z01 xs L)) L := by
  refine ⟨rfl, rfl, ⟨rfl, rfl, rfl, rfl, rfl, rfl, rfl, rfl, rfl⟩, rfl, ⟨rfl, rfl⟩, ⟨rfl, rfl⟩, ⟨rfl, rfl⟩, ⟨rfl, rfl, rfl, rfl⟩, rfl, ⟨rfl, rfl, rfl, rfl⟩, rfl, ⟨rfl, rfl⟩, fun _ => rfl, ⟨rfl, rfl⟩, ⟨rfl, rfl, fun _ _ => rfl⟩, ⟨rfl, rfl, rfl, ⟨rfl, rfl⟩, ⟨rfl, rfl⟩⟩, ⟨⟨rfl, rfl, fun _ _ => rfl⟩, ⟨rfl, rfl, fun _ _ => rfl⟩⟩, ⟨rfl, rfl, rfl, rfl, ⟨rfl, rfl⟩, ⟨rfl, rfl⟩, ⟨rfl, rfl⟩, rfl, by omega, rfl, rfl, rfl⟩, ⟨?_, rfl⟩, rfl⟩
  show 5 < 22
  omega
/-- course c as it is at first -/
def C0 (z : ZS) (c : Nat) : Prop := zP z 7 c = 22 + 3 * c ∧ tg z (22 + 3 * c) = 12 ∧ zP z (22 + 3 * c) 3 = 23 + 3 * c ∧ zP z (22 + 3 * c) 4 = 24 + 3 * c ∧ (tg z (23 + 3 * c) = 1 ∧ ln z (23 + 3 * c) = 18) ∧ (tg z (24 + 3 * c) = 1 ∧ ln z (24 + 3 * c) = 18) ∧ zI z (22 + 3 * c) 0 = nI c ∧ zI z (22 + 3 * c) 1 = 720 ∧ zI z (22 + 3 * c) 2 = 113 ∧ (∀ h, h < 18 → zI z (23 + 3 * c) h = 4) ∧ (∀ h, h < 18 → zI z (24 + 3 * c) h = nI (h + 1))
def P0 (z : ZS) (p : Nat) : Prop := zP z 8 p = 34 + p ∧ tg z (34 + p) = 13 ∧ (∀ j, zI z (34 + p) j = 0) ∧ ∀ j, zP z (34 + p) j = 0
theorem C0_F {U W : Nat → Nat → Prop} {y z : ZS} {c : Nat} (hF : Fr U W y z) (hc : 25 + 3 * c ≤ zn y) (hU : ∀ a j, U a j → ¬ (22 + 3 * c ≤ a ∧ a < 25 + 3 * c)) (hW : ∀ a j, W a j → ¬ (22 + 3 * c ≤ a ∧ a < 25 + 3 * c) ∧ ¬ (a = 7 ∧ j = c)) (h : C0 y c) : C0 z c := by
  obtain ⟨h1, h2, h3, h4, h5, h6, h7, h8, h9, h10, h11⟩ := h
  have t : ∀ a, 22 + 3 * c ≤ a → a < 25 + 3 * c → tg z a = tg y a ∧ ln z a = ln y a := fun a _ ha => hF.2.1 a (by omega)
  have i : ∀ a j, 22 + 3 * c ≤ a → a < 25 + 3 * c → zI z a j = zI y a j := fun a j b1 b2 => hF.2.2.1 a j (by omega) (fun q => hU a j q ⟨b1, b2⟩)
  have p : ∀ a j, 22 + 3 * c ≤ a → a < 25 + 3 * c → zP z a j = zP y a j := fun a j b1 b2 => hF.2.2.2 a j (by omega) (fun q => (hW a j q).1 ⟨b1, b2⟩)
  refine ⟨?_, ?_, ?_, ?_, ⟨?_, ?_⟩, ⟨?_, ?_⟩, ?_, ?_, ?_, fun h hh => ?_, fun h hh => ?_⟩
  · rw [hF.2.2.2 7 c (by omega) (fun q => (hW 7 c q).2 ⟨rfl, rfl⟩)]; exact h1
  · rw [(t _ (by omega) (by omega)).1]; exact h2
  · rw [p _ _ (by omega) (by omega)]; exact h3
  · rw [p _ _ (by omega) (by omega)]; exact h4
  · rw [(t _ (by omega) (by omega)).1]; exact h5.1
  · rw [(t _ (by omega) (by omega)).2]; exact h5.2
  · rw [(t _ (by omega) (by omega)).1]; exact h6.1
  · rw [(t _ (by omega) (by omega)).2]; exact h6.2
  · rw [i _ _ (by omega) (by omega)]; exact h7
  · rw [i _ _ (by omega) (by omega)]; exact h8
  · rw [i _ _ (by omega) (by omega)]; exact h9
  · rw [i _ _ (by omega) (by omega)]; exact h10 h hh
  · rw [i _ _ (by omega) (by omega)]; exact h11 h hh
theorem P0_F {U W : Nat → Nat → Prop} {y z : ZS} {p : Nat} (hF : Fr U W y z) (hp : 34 + p < zn y) (hU : ∀ a j, U a j → a ≠ 34 + p) (hW : ∀ a j, W a j → a ≠ 34 + p ∧ ¬ (a = 8 ∧ j = p)) (h : P0 y p) : P0 z p := by
  obtain ⟨h1, h2, h3, h4⟩ := h
  refine ⟨?_, ?_, fun j => ?_, fun j => ?_⟩
  · rw [hF.2.2.2 8 p (by omega) (fun q => (hW 8 p q).2 ⟨rfl, rfl⟩)]; exact h1
  · rw [(hF.2.1 _ hp).1]; exact h2
  · rw [hF.2.2.1 _ _ hp (fun q => hU _ _ q rfl)]; exact h3 j
  · rw [hF.2.2.2 _ _ hp (fun q => (hW _ _ q).1 rfl)]; exact h4 j
/-- a new object -/
def XN (z : ZS) (L : Nat) : Prop := zn z = 46 ∧ zw z ≤ 500 ∧ X8 z L ∧ (∀ c, c < 4 → C0 z c) ∧ ∀ p, p < 12 → P0 z p
theorem X_init (d : Nat) (xs : Nat → Int32) (L : Nat) : Rq (d + 3) i_X_init [.ref 6] (z01 xs L) (fun r z => r = none ∧ XN z L) := by
  refine rq_i (full := cd_58) (show ¬ (6 : Nat) = 0 by decide) (fun r z' _ => ok_n rfl) rfl (fun K hK => ?_)
  -- the players
  have goP : ∀ p z, p ≤ 12 → zn z = 34 + p → zw z ≤ 410 + 3 * p → X8 z L → (∀ c, c < 4 → C0 z c) → (∀ q, q < p → P0 z q) → K 115 [.ref 6, .int (nI p)] [] z := by
    have key : ∀ m p z, p + m = 12 → zn z = 34 + p → zw z ≤ 410 + 3 * p → X8 z L → (∀ c, c < 4 → C0 z c) → (∀ q, q < p → P0 z q) → K 115 [.ref 6, .int (nI p)] [] z := by
      intro m
      induction m with
      | zero =>
        intro p z hp hn hw h8 hc h0
        have : p = 12 := by omega
        subst this
        exact hK 57 _ _ _ ⟨fun c1 => ⟨rfl, hn, by omega, h8, hc, h0⟩, fun c1 => absurd (Int32.le_refl _) c1⟩
      | succ m ih =>
        intro p z hp hn hw h8 hc h0
        have o := fun a (ha : a < zn z) => nw_o z 13 0 3 (Nat.ne_of_lt ha)
        have tx : tg (nw z 13 0 3) (zn z) = 13 := nw_tg _ _ _ _
        have xI : zI (nw z 13 0 3) (zn z) = fun _ => 0 := nw_zI _ _ _ _
        have xP : zP (nw z 13 0 3) (zn z) = fun _ => 0 := nw_zP _ _ _ _
        have nz : ¬ zn z = 0 := by omega
        have ck : (nI p).toNatClampNeg = p := nI_clamp (by omega)
        have t8 : tg (nw z 13 0 3) 8 = 5 := (o 8 (by omega)).1.trans h8.2.2.2.1.1
        have v8 : vp_in (nI p) (ln (nw z 13 0 3) 8) := by rw [(o 8 (by omega)).2.1, h8.2.2.2.1.2]; exact vp_in_nI (by omega) (by decide)
        have hF : Fr (fun _ _ => False) (fun a j => a = 8 ∧ j = p) z (sP (nw z 13 0 3) 8 p (zn z)) := ⟨Nat.le_succ _, fun a ha => ⟨(o a ha).1, (o a ha).2.1⟩, fun a j ha _ => congrFun (o a ha).2.2.1 j, fun a j ha w => (sP_n w).trans (congrFun (o a ha).2.2.2 j)⟩
        have g := ih (p + 1) (sP (nw z 13 0 3) 8 p (zn z)) (by omega) (by show zn z + 1 = _; omega) (by show zw z + 3 ≤ _; omega) (X8_F hF (by omega) (fun a j w => w.elim) (fun a j w => by omega) h8) (fun c hc' => C0_F hF (by omega) (fun a j w => w.elim) (fun a j w => by omega) (hc c hc')) (fun q hq => by
          by_cases e : q = p
          · subst e
            refine ⟨?_, ?_, fun j => ?_, fun j => ?_⟩
            · rw [sP_e]; exact hn
            · rw [sP_tg, ← hn]; exact tx
            · rw [sP_zI, ← hn, xI]
            · rw [sP_n (by omega), ← hn, xP]
          · exact P0_F hF (by omega) (fun a j w => w.elim) (fun a j w => by omega) (h0 q (by omega)))
        rw [nI_succ p, ← ck] at g
        have cp : ¬ (12 : Int32) ≤ nI p := nI_ge (a := p) (b := 12) (by omega) (by decide)
        rw [ck] at g
        refine hK 57 _ _ _ ⟨fun c1 => absurd c1 cp, fun c1 => ⟨⟨h8.1.1, h8.1.2.2.1⟩, ⟨_, _, P_init (d + 1) _ (zn z) nz, ⟨⟨t8, v8, Or.inr tx⟩, ?_⟩⟩⟩⟩
        show K 115 [.ref 6, .int (nI p + 1)] [] (sP (nw z 13 0 3) 8 (nI p).toNatClampNeg (zn z))
        rw [ck]
        exact g
    exact fun p z hp => key (12 - p) p z (by omega)
  -- the courses
  have goC : ∀ m c z, c + m = 4 → zn z = 22 + 3 * c → zw z ≤ 246 + 41 * c → X8 z L → (∀ q, q < c → C0 z q) → K 88 [.ref 6, .int (nI c)] [] z := by
    intro m
    induction m with
    | zero =>
      intro c z hc hn hw h8 h0
      have : c = 4 := by omega
      subst this
      exact hK 42 _ _ _ ⟨fun c1 => goP 0 z (by omega) hn (by omega) h8 h0 (fun q hq => absurd hq (by omega)), fun c1 => absurd (Int32.le_refl _) c1⟩
    | succ m ih =>
      intro c z hc hn hw h8 h0
      have o := fun a (ha : a < zn z) => nw_o z 12 0 5 (Nat.ne_of_lt ha)
      have tx : tg (nw z 12 0 5) (zn z) = 12 := nw_tg _ _ _ _
      have nz : ¬ zn z = 0 := by omega
      have n1 : zn (nw z 12 0 5) = zn z + 1 := rfl
      have w1 : zw (nw z 12 0 5) = zw z + 5 := rfl
      have rc := C_init (d + 1) (nw z 12 0 5) (zn z) (nI c) tx nz (by omega)
      obtain ⟨f1, f2, f3, f4, f5, f6, f7, ⟨i0, i1, i2⟩, f9, f10⟩ := cz_f (nw z 12 0 5) (zn z) (nI c) (by omega) 18
      generalize czF (nw z 12 0 5) (zn z) (nI c) 18 = y at *
      rw [n1] at f1 f5 f6 f7 f9 f10
      rw [w1] at f2
      have ck : (nI c).toNatClampNeg = c := nI_clamp (by omega)
      have ty : ∀ a, a < zn z → tg y a = tg z a ∧ ln y a = ln z a := fun a ha => ⟨(f3 a (by omega)).1.trans (o a ha).1, (f3 a (by omega)).2.trans (o a ha).2.1⟩
      have t7 : tg y 7 = 4 := (ty 7 (by omega)).1.trans h8.2.2.1.1
      have v7 : vp_in (nI c) (ln y 7) := by rw [(ty 7 (by omega)).2, h8.2.2.1.2]; exact vp_in_nI (by omega) (by decide)
      have tyx : tg y (zn z) = 12 := (f3 (zn z) (by omega)).1.trans tx
      have hF : Fr (fun _ _ => False) (fun a j => a = 7 ∧ j = c) z (sP y 7 c (zn z)) := by
        refine ⟨by rw [sP_zn, f1]; omega, fun a ha => ty a ha, fun a j ha _ => ?_, fun a j ha w => ?_⟩
        · rw [sP_zI, (f4 a j (by omega) (by omega)).1, (o a ha).2.2.1]
        · rw [sP_n w, (f4 a j (by omega) (by omega)).2, (o a ha).2.2.2]
      have g := ih (c + 1) (sP y 7 c (zn z)) (by omega) (by rw [sP_zn, f1]; omega) (by rw [sP_zw, f2]; omega) (X8_F hF (by omega) (fun a j w => w.elim) (fun a j w => by omega) h8) (fun q hq => by
        by_cases e : q = c
        · subst e
          rw [hn] at f5 f6 f7 f9 f10 i0 i1 i2 tyx
          rw [show 22 + 3 * q + 1 = 23 + 3 * q by omega] at f5 f6 f7 f9 f10
          rw [show 23 + 3 * q + 1 = 24 + 3 * q by omega] at f5 f7 f10
          refine ⟨?_, ?_, ?_, ?_, ⟨?_, ?_⟩, ⟨?_, ?_⟩, ?_, ?_, ?_, fun h hh => ?_, fun h hh => ?_⟩
          · rw [sP_e]; exact hn
          · rw [sP_tg]; exact tyx
          · rw [sP_n (by omega)]; exact f5.1
          · rw [sP_n (by omega)]; exact f5.2
          · rw [sP_tg]; exact f6.1
          · rw [sP_ln]; exact f6.2
          · rw [sP_tg]; exact f7.1
          · rw [sP_ln]; exact f7.2
          · rw [sP_zI]; exact i0
          · rw [sP_zI]; exact i1
          · rw [sP_zI]; exact i2
          · rw [sP_zI]; exact f9 h hh
          · rw [sP_zI]; exact f10 h hh
        · exact C0_F hF (by omega) (fun a j w => w.elim) (fun a j w => by omega) (h0 q (by omega)))
      rw [nI_succ c] at g
      have cc : ¬ (4 : Int32) ≤ nI c := nI_ge (a := c) (b := 4) (by omega) (by decide)
      refine hK 42 _ _ _ ⟨fun c1 => absurd c1 cc, fun c1 => ⟨⟨h8.1.1, h8.1.2.1⟩, ⟨_, _, rc, ⟨⟨t7, v7, Or.inr tyx⟩, ?_⟩⟩⟩⟩
      show K 88 [.ref 6, .int (nI c + 1)] [] (sP y 7 (nI c).toNatClampNeg (zn z))
      rw [ck]
      exact g
  obtain ⟨n8, w8, h8⟩ := xz_8 xs L
  have g := goC 4 0 (xz (z01 xs L)) (by omega) n8 (by omega) h8 (fun q hq => absurd hq (by omega))
  refine hK 0 _ _ _ ⟨(show ¬ (6 : Nat) = 0 by decide), ⟨na_ok (n := 4) (by omega), ⟨rfl, ⟨na_ok (n := 12) (by omega), ⟨rfl, ⟨na_ok (n := 60) (by omega), ⟨rfl, ⟨_, _, G_init (d + 1) (nw (xz1 (z01 xs L)) 14 0 4) 10 rfl (by decide) (by show 10 < 11; omega), ⟨rfl, ⟨_, _, B_init (d + 1) (nw (xz2 (xz1 (z01 xs L))) 10 0 3) 14 rfl (by decide) (by show 14 < 15; omega), ⟨rfl, ⟨_, _, W_init d (nw (xz3 (xz2 (xz1 (z01 xs L)))) 15 0 2) 17 18 (by omega) rfl (by decide) (by show 17 < 18; omega), ⟨rfl, ⟨_, _, W_init d (nw (xz4 (xz3 (xz2 (xz1 (z01 xs L)))) 18 6) 15 0 2) 19 20 (by omega) rfl (by decide) (by show 19 < 20; omega), ⟨rfl, ⟨na_ok (n := 6) (by omega), ⟨rfl, g⟩⟩⟩⟩⟩⟩⟩⟩⟩⟩⟩⟩⟩⟩⟩⟩⟩
