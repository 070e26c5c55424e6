/-! Calls of both: away. Own work. -/
theorem zl_o (A : Nat → Nat → Int32) (n : Nat) : ∀ h, (∀ q, q ≠ 15 → zlF A n h q = A q) ∧ ∀ i, zlF A n h 15 i = if 18 * n ≤ i ∧ i < 18 * n + h then 0 else A 15 i
  | 0 => ⟨fun _ _ => rfl, fun i => by rw [if_neg (by omega)]; rfl⟩
  | h + 1 => by
    obtain ⟨h1, h2⟩ := zl_o A n h
    refine ⟨fun q hq => (u2_n hq).trans (h1 q hq), fun i => ?_⟩
    show (if 15 = 15 ∧ i = 18 * n + h then (0 : Int32) else zlF A n h 15 i) = _
    by_cases e : i = 18 * n + h
    · rw [if_pos ⟨rfl, e⟩, if_pos (by omega)]
    · rw [if_neg (fun w => e w.2), h2]
      by_cases e2 : 18 * n ≤ i ∧ i < 18 * n + h
      · rw [if_pos e2, if_pos (by omega)]
      · rw [if_neg e2, if_neg (by omega)]
theorem cp_o (A : Nat → Nat → Int32) (n f : Nat) : ∀ k, (∀ q, q ≠ 15 → cpF A n f k q = A q) ∧ ∀ i, cpF A n f k 15 i = if 18 * n + f ≤ i ∧ i < 18 * n + f + k then A 7 (i - (18 * n + f)) else A 15 i
  | 0 => ⟨fun _ _ => rfl, fun i => by rw [if_neg (by omega)]; rfl⟩
  | k + 1 => by
    obtain ⟨h1, h2⟩ := cp_o A n f k
    refine ⟨fun q hq => (u2_n hq).trans (h1 q hq), fun i => ?_⟩
    show (if 15 = 15 ∧ i = 18 * n + f + k then cpF A n f k 7 k else cpF A n f k 15 i) = _
    by_cases e : i = 18 * n + f + k
    · rw [if_pos ⟨rfl, e⟩, if_pos (by omega), h1 7 (by decide), show i - (18 * n + f) = k by omega]
    · rw [if_neg (fun w => e w.2), h2]
      by_cases e2 : 18 * n + f ≤ i ∧ i < 18 * n + f + k
      · rw [if_pos e2, if_pos (by omega)]
      · rw [if_neg e2, if_neg (by omega)]
/-- card n is written -/
def WR (A A' : Nat → Nat → Int32) (n : Nat) (kind player course day first m : Int32) (S : Nat → Int32) : Prop := (∀ q, q < 8 ∨ 16 ≤ q → A' q = A q) ∧ (∀ k, k ≠ n → ∀ q, 8 ≤ q → q < 15 → A' q k = A q k) ∧ (A' 8 n = kind ∧ A' 9 n = player ∧ A' 10 n = day ∧ A' 11 n = course ∧ A' 12 n = first ∧ A' 13 n = m ∧ A' 14 n = 0) ∧ (∀ i, ¬ (18 * n ≤ i ∧ i < 18 * n + 18) → A' 15 i = A 15 i) ∧ ∀ j, j < 18 → A' 15 (18 * n + j) = S j
theorem wc_v (A : Nat → Nat → Int32) (n : Nat) (kind player course day first : Int32) (q i : Nat) : wcA A n kind player course day first q i = if i = n then (if q = 14 then 0 else if q = 13 then 0 else if q = 12 then first else if q = 10 then day else if q = 11 then course else if q = 9 then player else if q = 8 then kind else A q i) else A q i := by
  unfold wcA
  by_cases e : i = n
  · rw [if_pos e]
    simp only [u2_v, e, and_true]
  · rw [if_neg e]
    simp only [u2_v, e, and_false, if_false]
theorem wr_a (A : Nat → Nat → Int32) (n : Nat) (player day m : Int32) : WR A (u2 (zlF (wcA A n 2 player 0 day 0) n 18) 13 n m) n 2 player 0 day 0 m (fun _ => 0) := by
  obtain ⟨h1, h2⟩ := zl_o (wcA A n 2 player 0 day 0) n 18
  have v : ∀ q i, q ≠ 15 → q ≠ 13 → u2 (zlF (wcA A n 2 player 0 day 0) n 18) 13 n m q i = wcA A n 2 player 0 day 0 q i := fun q i a b => by rw [u2_n b, h1 q a]
  refine ⟨fun q hq => ?_, fun k hk q a b => ?_, ⟨?_, ?_, ?_, ?_, ?_, ?_, ?_⟩, fun i hi => ?_, fun j hj => ?_⟩
  · funext i
    rw [v q i (by omega) (by omega), wc_v]
    by_cases e : i = n
    · rw [if_pos e, if_neg (by omega), if_neg (by omega), if_neg (by omega), if_neg (by omega), if_neg (by omega), if_neg (by omega), if_neg (by omega)]
    · rw [if_neg e]
  · rw [u2_v, if_neg (fun w => hk w.2), h1 q (by omega), wc_v, if_neg hk]
  · rw [v _ _ (by decide) (by decide), wc_v, if_pos rfl]; rfl
  · rw [v _ _ (by decide) (by decide), wc_v, if_pos rfl]; rfl
  · rw [v _ _ (by decide) (by decide), wc_v, if_pos rfl]; rfl
  · rw [v _ _ (by decide) (by decide), wc_v, if_pos rfl]; rfl
  · rw [v _ _ (by decide) (by decide), wc_v, if_pos rfl]; rfl
  · rw [u2_v, if_pos ⟨rfl, rfl⟩]
  · rw [v _ _ (by decide) (by decide), wc_v, if_pos rfl]; rfl
  · rw [u2_n (by decide), h2, if_neg hi, wc_v]
    by_cases e : i = n
    · rw [if_pos e]; rfl
    · rw [if_neg e]
  · rw [u2_n (by decide), h2, if_pos (by omega)]
/-- what is written depends on what was there -/
theorem WR_t {A B A' B' : Nat → Nat → Int32} {n : Nat} {kind player course day first m : Int32} {S : Nat → Int32} (h : ∀ q, q < 28 → B q = A q) (hA : WR A A' n kind player course day first m S) (hB : WR B B' n kind player course day first m S) : ∀ q, q < 18 → B' q = A' q := fun q hq => by
  obtain ⟨a1, a2, ⟨a8, a9, a10, a11, a12, a13, a14⟩, a4, a5⟩ := hA
  obtain ⟨b1, b2, ⟨b8, b9, b10, b11, b12, b13, b14⟩, b4, b5⟩ := hB
  by_cases e : q < 8 ∨ 16 ≤ q
  · rw [a1 q e, b1 q e]; exact h q (by omega)
  · funext i
    by_cases e15 : q = 15
    · subst e15
      by_cases ei : 18 * n ≤ i ∧ i < 18 * n + 18
      · have ea := a5 (i - 18 * n) (by omega)
        have eb := b5 (i - 18 * n) (by omega)
        rw [show 18 * n + (i - 18 * n) = i by omega] at ea eb
        rw [ea, eb]
      · rw [a4 i ei, b4 i ei, h 15 (by omega)]
    · by_cases ei : i = n
      · subst ei
        rcases (show q = 8 ∨ q = 9 ∨ q = 10 ∨ q = 11 ∨ q = 12 ∨ q = 13 ∨ q = 14 by omega) with w | w | w | w | w | w | w <;> subst w
        · rw [a8, b8]
        · rw [a9, b9]
        · rw [a10, b10]
        · rw [a11, b11]
        · rw [a12, b12]
        · rw [a13, b13]
        · rw [a14, b14]
      · rw [a2 i ei q (by omega) (by omega), b2 i ei q (by omega) (by omega), h q (by omega)]
theorem wr_ok {z : ZS} {A' : Nat → Nat → Int32} {n R : Nat} {kind player course day first m : Int32} {S : Nat → Int32} (h : WR (AZ z) A' n kind player course day first m S) (hV : VD (TA z) n R) (hD : DAY (TA z) n) (hm : -200 ≤ m.toInt ∧ m.toInt ≤ 900) (hS : ∀ j, j < 18 → -1 ≤ (S j).toInt ∧ (S j).toInt ≤ 15) (hd : 0 ≤ day ∧ day ≤ 9999) : (∀ q, q < 7 → trw A' q = TA z q) ∧ (∀ k, k < n → A1k (TA z) (trw A') k) ∧ VD (trw A') (n + 1) R ∧ DAY (trw A') (n + 1) ∧ fzF A' = FZ z ∧ ∀ q, (q < 16 ∧ q ≠ 7) → trw A' q = A' q := by
  obtain ⟨w1, w2, ⟨e8, e9, e10, e11, e12, e13, e14⟩, w4, w5⟩ := h
  have tA : ∀ q, (q < 16 ∧ q ≠ 7) → trw A' q = A' q := fun q hq => by unfold trw; rw [if_pos hq]
  have tZ : ∀ q, (q < 16 ∧ q ≠ 7) → TA z q = AZ z q := fun q hq => (ta_w z q hq).symm
  have h7 : ∀ q, q < 7 → trw A' q = TA z q := fun q hq => by rw [tA q (by omega), tZ q (by omega)]; exact w1 q (by omega)
  have hk : ∀ k, k < n → A1k (TA z) (trw A') k := fun k hk => ⟨fun q a b => by rw [tA q (by omega), tZ q (by omega)]; exact w2 k (by omega) q a b, fun j hj => by rw [tA 15 (by decide), tZ 15 (by decide)]; exact w4 _ (by omega)⟩
  obtain ⟨v1, v2, v3, v4, v5⟩ := hV
  refine ⟨h7, hk, ⟨?_, fun k hk' j hj => ?_, fun k hk' => ?_, fun a b => ?_, fun k hk' => ?_⟩, fun k hk' => ?_, fzF_e (w1 17 (by omega)) (w1 7 (by omega)) (w1 16 (by omega)), tA⟩
  · rw [h7 0 (by omega), h7 1 (by omega), h7 2 (by omega)]; exact v1
  · by_cases e : k = n
    · rw [e, tA 15 (by decide), w5 j hj]; exact hS j hj
    · rw [(hk k (by omega)).2 j hj]; exact v2 k (by omega) j hj
  · by_cases e : k = n
    · rw [e, tA 13 (by decide), e13]; exact hm
    · rw [(hk k (by omega)).1 13 (by omega) (by omega)]; exact v3 k (by omega)
  · rw [rgF_e (h7 4 (by omega)) (h7 5 (by omega)) (h7 6 (by omega))]; exact v4 a b
  · by_cases e : k = n
    · rw [e, tA 14 (by decide), e14]; exact Or.inl rfl
    · rw [(hk k (by omega)).1 14 (by omega) (by omega)]; exact v5 k (by omega)
  · by_cases e : k = n
    · rw [e, tA 10 (by decide), e10]; exact hd
    · rw [(hk k (by omega)).1 10 (by omega) (by omega)]; exact hD k (by omega)
section Ops18
variable {z : ZS} {n R : Nat}
theorem op_away (hS : Sim z n R) (pp day m : Int32) : Op2 i_X_away i_M_away [.int pp, .int day, .int m] z := by
  have hC := hS.2
  have hT := hC.1
  have t6 := hT.2.1
  obtain ⟨h60, hV, h6⟩ := hC.2.2.2.2.2.1
  by_cases hk : 0 ≤ pp ∧ pp ≤ 11
  · obtain ⟨p, hp, e⟩ := pl_in hk
    subst e
    have nz : ¬ 34 + p = 0 := by omega
    by_cases hd : 0 ≤ day ∧ day ≤ 9999
    · by_cases hm : -200 ≤ m ∧ m ≤ 900
      · by_cases hn : n < 60
        · have h75 := hT.1
          have o1 := fun a (ha : a < zn z) => nw_o z 11 0 18 (Nat.ne_of_lt ha)
          have z1n : zn (nw z 11 0 18) = zn z + 1 := rfl
          have z1w : zw (nw z 11 0 18) = zw z + 18 := rfl
          have z1t : tg (nw z 11 0 18) (zn z) = 11 := nw_tg _ _ _ _
          have z1I : zI (nw z 11 0 18) (zn z) = fun _ => 0 := nw_zI _ _ _ _
          have z1P : zP (nw z 11 0 18) (zn z) = fun _ => 0 := nw_zP _ _ _ _
          have cc : zI (nw z 11 0 18) 6 3 = nI n := by rw [(o1 6 (by omega)).2.2.1]; exact h6
          have t61 : tg (nw z 11 0 18) 6 = 16 := by rw [(o1 6 (by omega)).1]; exact t6.1
          have c11 : tg (nw z 11 0 18) 1 = 3 ∧ ln (nw z 11 0 18) 1 = 0 := by
            have := hT.2.2.2.2.2.2.2.2.1
            rw [(o1 1 (by omega)).1, (o1 1 (by omega)).2.1]; exact this
          have rd := D_init 10 (nw z 11 0 18) (zn z) (zI (nw z 11 0 18) 6 3) 2 (34 + p) (nI p) day 1 z1t (by omega) (by omega) (by rw [c11.1]; decide) (by rw [c11.2]; omega)
          have ff := diz_f (nw z 11 0 18) (zn z) (zI (nw z 11 0 18) 6 3) 2 (34 + p) (nI p) day 1 (by omega)
          rw [c11.2, z1n, z1w] at ff
          generalize hy : diz (nw z 11 0 18) (zn z) (zI (nw z 11 0 18) 6 3) 2 (34 + p) (nI p) day 1 = y at rd ff
          obtain ⟨f1, f2, f3, f4, f5, ⟨i0, i1, i3, i4, i6, i9, i10⟩, p2, p5, p7, p8⟩ := ff
          rw [z1I] at i6 i9 i10
          rw [z1P] at p5
          rw [cc] at i0
          have hFr : Fr (fun a j => a = 17 ∧ j = 1) (fun _ _ => False) z (sI y (zn z) 9 m) := by
            refine ⟨by rw [sI_zn, f1]; omega, fun a ha => ⟨?_, ?_⟩, fun a j ha _ => ?_, fun a j ha _ => ?_⟩
            · rw [sI_tg, (f3 a (by omega)).1, (o1 a ha).1]
            · rw [sI_ln, (f3 a (by omega)).2, (o1 a ha).2.1]
            · rw [sI_n (by omega), (f5 a j (by omega) (by omega)).1, (o1 a ha).2.2.1]
            · rw [sI_zP, (f5 a j (by omega) (by omega)).2, (o1 a ha).2.2.2]
          have wr := wr_a (AZ z) n (nI p) day m
          have m1 := hm
          rw [i32_le, i32_le, show (-200 : Int32).toInt = -200 by decide, show (900 : Int32).toInt = 900 by decide] at m1
          have ok := wr_ok wr hC.2.2.2.2.2.2.2.1 hC.2.2.2.2.2.2.2.2.1 m1 (fun _ _ => by decide) hd
          obtain ⟨q1, q2, q3, q4, q5, q6⟩ := ok
          obtain ⟨_, _, ⟨e8, e9, e10, e11, e12, e13, e14⟩, _, _⟩ := id wr
          generalize hA : u2 (zlF (wcA (AZ z) n 2 (nI p) 0 day 0) n 18) 13 n m = A' at *
          have tx : tg (sI y (zn z) 9 m) (zn z) = 11 := by rw [sI_tg, (f3 (zn z) (by omega)).1]; exact z1t
          have hB : BCx (sI y (zn z) 9 m) (trw A') n (zn z) := by
            refine ⟨h75, ?_, tx, ?_, ?_, ?_, ?_, ?_, ?_, ?_, ⟨p, hp, by rw [q6 9 (by decide)]; exact e9, by rw [sI_zP]; exact p2⟩, Or.inl ⟨by rw [q6 8 (by decide)]; exact e8, by rw [sI_zP]; exact p5⟩⟩
            · rw [q6 8 (by decide), if_pos e8, sI_zn, f1]; omega
            · rw [sI_n (by omega)]; exact i0
            · rw [sI_n (by omega), q6 8 (by decide), e8]; exact i1
            · rw [sI_n (by omega), q6 9 (by decide), e9]; exact i3
            · rw [sI_n (by omega), q6 10 (by decide), e10]; exact i4
            · rw [sI_n (by omega), q6 12 (by decide), e12]; exact i6
            · rw [sI_e, q6 13 (by decide), e13]
            · rw [sI_n (by omega), q6 14 (by decide), e14]; exact i10
          have hRW : RW (sI y (zn z) 9 m) (FZ z) (upd (VZ z) 10 (nI (n + 1))) := by
            have hF0 : Fr (fun _ _ => False) (fun _ _ => False) z (sI y (zn z) 9 m) := ⟨hFr.1, hFr.2.1, fun a j ha _ => by rw [sI_n (by omega), (f5 a j (by omega) (by omega)).1, (o1 a ha).2.2.1], hFr.2.2.2⟩
            exact L_RW hF0 h75 (fun a j w => w.elim) hC.2.2.2.1
          obtain ⟨z1, re, hC1, zn1, zw1, hF1⟩ := enter_ok 9 hC hn hp hFr hB (by rw [q6 9 (by decide)]; exact e9) (by rw [sI_zP]; exact p2) q1 q2 hRW (fun _ _ => rfl) rfl rfl q3 q4
          have hKq : Kq z z1 := Kq_Fr h75 (Fr_t hFr hF1) (fun a j w q => by omega) (fun a j w q => by
            rcases w with w | w
            · exact w.elim
            · omega)
          have hM1 := Kq_MT hKq hS.1
          have rm := M_away_ok 9 z1 (VZ z1) (AZ z1) hM1 n (by rw [Kq_VZ hKq]; exact hV) hn (nI p) day m ⟨hk, hd, hm⟩
          have tt := WR_t (fun q hq => Kq_AZ hKq q hq) wr (wr_a (AZ z1) n (nI p) day m)
          refine op_g hM1 (r := nI n) (V' := upd (VZ z) 10 (nI (n + 1))) (A' := u2 (zlF (wcA (AZ z1) n 2 (nI p) 0 day 0) n 18) 13 n m) (rn_i (full := cd_67) t6.1 (ok_n rfl) rfl (fun K hK' => hK' 0 _ _ _ ⟨_, _, X_playerOf_ok 10 hT p hp, ⟨fun c2 => absurd c2 nz, fun c2 => ⟨_, _, X_isDay 9 z day, ⟨fun c6 => absurd hd (b1_t c6), fun c6 => ⟨_, _, X_isWithin 10 z m (-200) 900, ⟨fun c10 => absurd hm (b1_t c10), fun c10 => ⟨t6.1, ⟨fun c14 => ⟨t61, ⟨_, _, rd, ⟨?_, ⟨_, _, re, rfl, rfl⟩⟩⟩⟩, fun c14 => absurd ?_ c14⟩⟩⟩⟩⟩⟩⟩⟩)) (by rw [Kq_VZ hKq] at rm ⊢; exact rm) hC1 ?_ ?_ rfl rfl rfl rfl (by show z1.1 ≤ _; rw [zn1]; show zn y ≤ _; rw [f1]; omega) (by show z1.2.1 ≤ _; rw [zw1]; show zw y ≤ _; rw [f2]; omega)
          · show tg y (zn z) = 11
            rw [(f3 (zn z) (by omega)).1]; exact z1t
          · show zI z 6 3 < 60
            rw [h6]; exact nI_lt (b := 60) hn (by decide)
          · exact trw_w (fun j hj => tt j (by omega))
          · rw [← q5]
            exact fzF_e (tt 17 (by omega)) (tt 7 (by omega)) (tt 16 (by omega))
        · have e60 : n = 60 := by omega
          exact fnd1 hS 4 (rn_i (full := cd_67) t6.1 (ok_n rfl) rfl (fun K hK' => hK' 0 _ _ _ ⟨_, _, X_playerOf_ok 10 hT p hp, ⟨fun c2 => absurd c2 nz, fun c2 => ⟨_, _, X_isDay 9 z day, ⟨fun c6 => absurd hd (b1_t c6), fun c6 => ⟨_, _, X_isWithin 10 z m (-200) 900, ⟨fun c10 => absurd hm (b1_t c10), fun c10 => ⟨t6.1, ⟨fun c14 => absurd (show zI z 6 3 < 60 from c14) (by rw [h6, e60]; decide), fun c14 => ⟨_, _, X_rF 9 hT, rfl, rfl⟩⟩⟩⟩⟩⟩⟩⟩⟩)) (fun zz hK hW => M_away_full 9 zz (VZ zz) (AZ zz) hW.1 (nI p) day m ⟨hk, hd, hm⟩ (by rw [hW.2.1, e60]; rfl))
      · exact fnd0 hS 0 (rn_i (full := cd_67) t6.1 (ok_n rfl) rfl (fun K hK' => hK' 0 _ _ _ ⟨_, _, X_playerOf_ok 10 hT p hp, ⟨fun c2 => absurd c2 nz, fun c2 => ⟨_, _, X_isDay 9 z day, ⟨fun c6 => absurd hd (b1_t c6), fun c6 => ⟨_, _, X_isWithin 10 z m (-200) 900, ⟨fun c10 => ⟨_, _, X_rB 9 hT, rfl, rfl⟩, fun c10 => absurd (b1_f c10) hm⟩⟩⟩⟩⟩⟩)) (fun zz hW hw => M_away_bad 9 zz (VZ zz) (AZ zz) hW.1 _ day m (fun w => hm w.2.2))
    · exact fnd0 hS 0 (rn_i (full := cd_67) t6.1 (ok_n rfl) rfl (fun K hK' => hK' 0 _ _ _ ⟨_, _, X_playerOf_ok 10 hT p hp, ⟨fun c2 => absurd c2 nz, fun c2 => ⟨_, _, X_isDay 9 z day, ⟨fun c6 => ⟨_, _, X_rB 9 hT, rfl, rfl⟩, fun c6 => absurd (b1_f c6) hd⟩⟩⟩⟩)) (fun zz hW hw => M_away_bad 9 zz (VZ zz) (AZ zz) hW.1 _ day m (fun w => hd w.2.1))
  · exact fnd0 hS 0 (rn_i (full := cd_67) t6.1 (ok_n rfl) rfl (fun K hK' => hK' 0 _ _ _ ⟨_, _, X_playerOf_no 10 hT pp hk, ⟨fun c2 => ⟨_, _, X_rB 9 hT, rfl, rfl⟩, fun c2 => absurd rfl c2⟩⟩)) (fun zz hW hw => M_away_bad 9 zz (VZ zz) (AZ zz) hW.1 pp day m (fun w => hk w.1))
end Ops18
