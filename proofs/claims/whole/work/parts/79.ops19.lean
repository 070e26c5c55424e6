/-! Calls of both: card nine. Own work. -/
theorem wr_c (A : Nat → Nat → Int32) (n f m : Nat) (hf : f + m ≤ 18) (kind player course day first : Int32) : WR A (cpF (zlF (wcA A n kind player course day first) n 18) n f m) n kind player course day first 0 (fun j => if f ≤ j ∧ j < f + m then A 7 (j - f) else 0) := by
  obtain ⟨h1, h2⟩ := zl_o (wcA A n kind player course day first) n 18
  obtain ⟨g1, g2⟩ := cp_o (zlF (wcA A n kind player course day first) n 18) n f m
  have v : ∀ q i, q ≠ 15 → cpF (zlF (wcA A n kind player course day first) n 18) n f m q i = wcA A n kind player course day first q i := fun q i a => by rw [g1 q a, h1 q a]
  have w7 : ∀ i, zlF (wcA A n kind player course day first) n 18 7 i = A 7 i := fun i => by
    rw [h1 7 (by decide), wc_v]
    by_cases e : i = n
    · rw [if_pos e]; rfl
    · rw [if_neg e]
  refine ⟨fun q hq => ?_, fun k hk q a b => ?_, ⟨?_, ?_, ?_, ?_, ?_, ?_, ?_⟩, fun i hi => ?_, fun j hj => ?_⟩
  · funext i
    rw [v q i (by omega), wc_v]
    by_cases e : i = n
    · rw [if_pos e, if_neg (by omega), if_neg (by omega), if_neg (by omega), if_neg (by omega), if_neg (by omega), if_neg (by omega), if_neg (by omega)]
    · rw [if_neg e]
  · rw [v q k (by omega), wc_v, if_neg hk]
  · rw [v _ _ (by decide), wc_v, if_pos rfl]; rfl
  · rw [v _ _ (by decide), wc_v, if_pos rfl]; rfl
  · rw [v _ _ (by decide), wc_v, if_pos rfl]; rfl
  · rw [v _ _ (by decide), wc_v, if_pos rfl]; rfl
  · rw [v _ _ (by decide), wc_v, if_pos rfl]; rfl
  · rw [v _ _ (by decide), wc_v, if_pos rfl]; rfl
  · rw [v _ _ (by decide), wc_v, if_pos rfl]; rfl
  · rw [g2, if_neg (by omega), h2, if_neg hi, wc_v]
    by_cases e : i = n
    · rw [if_pos e]; rfl
    · rw [if_neg e]
  · rw [g2]
    show _ = if f ≤ j ∧ j < f + m then A 7 (j - f) else 0
    by_cases e : f ≤ j ∧ j < f + m
    · rw [if_pos (by omega), if_pos e, w7, show 18 * n + j - (18 * n + f) = j - f by omega]
    · rw [if_neg (by omega), if_neg e, h2, if_pos (by omega)]
section Ops19
variable {z : ZS} {n R : Nat}
theorem op_pd (hS : Sim z n R) (pp cc day kind : Int32) (f m : Nat) (hkf : (kind = 0 ∧ f = 0 ∧ m = 18) ∨ (kind = 1 ∧ (f = 0 ∨ f = 9) ∧ m = 9)) {mx mm : Nat} {av : List Value} (wx : ∀ (r : Int32) (z' : ZS), Rn 11 i_X_putDown [.ref 6, .int pp, .int cc, .int day, .int kind, .int (nI f)] z (some (.int r)) z' → Rn 12 mx (.ref 6 :: av) z (some (.int r)) z') (wm : ∀ (zz : ZS) (r : Int32) (z' : ZS), MT zz → Rn 11 i_M_written [.ref 46, .int kind, .int pp, .int cc, .int day, .int (nI f), .int (nI m)] (mz zz (VZ zz) (AZ zz)) (some (.int r)) z' → Rn 12 mm (.ref 46 :: av) (mz zz (VZ zz) (AZ zz)) (some (.int r)) z') : Op2 mx mm av z := by
  have hC := hS.2
  have hT := hC.1
  have t6 := hT.2.1
  have t17 := hT.2.2.2.2.2.1
  obtain ⟨h60, hV, h6⟩ := hC.2.2.2.2.2.1
  obtain ⟨⟨w, w1, w2, w3, w4⟩, r19⟩ := hC.2.2.2.1
  have hfm : f + m ≤ 18 := by omega
  have k2 : ¬ kind = 2 := by rcases hkf with q | q <;> (rw [q.1]; decide)
  -- a finding of the size or of what is beyond
  have fb : ∀ (i : Nat) (r : Int32), Rn 11 i_X_putDown [.ref 6, .int pp, .int cc, .int day, .int kind, .int (nI f)] z (some (.int r)) (rfz z i) → (∀ zz, Kp z zz → MW zz (VZ zz) (AZ zz) n R → Rn 11 i_M_written [.ref 46, .int kind, .int pp, .int cc, .int day, .int (nI f), .int (nI m)] (mz zz (VZ zz) (AZ zz)) (some (.int r)) (mz zz (VZ zz) (cnt (AZ zz) (i + 1)))) → Op2 mx mm av z := fun i r rx rm => fnd1 hS i (wx _ _ rx) (fun zz hK hW => wm zz _ _ hW.1 (rm zz hK hW))
  by_cases hp : 0 ≤ pp ∧ pp ≤ 11
  · obtain ⟨p, hp', e⟩ := pl_in hp
    have rp : Rn 10 i_X_playerOf [.ref 6, .int pp] z (some (.ref (34 + p))) z := by rw [e]; exact X_playerOf_ok 9 hT p hp'
    have nzp : ¬ 34 + p = 0 := by omega
    by_cases hc : 0 ≤ cc ∧ cc ≤ 3
    · obtain ⟨c, hc', ec⟩ := co_in hc
      have rc : Rn 10 i_X_courseOf [.ref 6, .int cc] z (some (.ref (22 + 3 * c))) z := by rw [ec]; exact X_courseOf_ok 9 hT c hc'
      have nzc : ¬ 22 + 3 * c = 0 := by omega
      by_cases hd : 0 ≤ day ∧ day ≤ 9999
      · by_cases hw : w = m
        · subst hw
          by_cases hn : n < 60
          · have h75 := hT.1
            have o1 := fun a (ha : a < zn z) => nw_o z 11 0 18 (Nat.ne_of_lt ha)
            have z1n : zn (nw z 11 0 18) = zn z + 1 := rfl
            have z1w : zw (nw z 11 0 18) = zw z + 18 := rfl
            have z1t : tg (nw z 11 0 18) (zn z) = 11 := nw_tg _ _ _ _
            have z1I : zI (nw z 11 0 18) (zn z) = fun _ => 0 := nw_zI _ _ _ _
            have z1P : zP (nw z 11 0 18) (zn z) = fun _ => 0 := nw_zP _ _ _ _
            have cn : zI (nw z 11 0 18) 6 3 = nI n := by rw [(o1 6 (by omega)).2.2.1]; exact h6
            have t61 : tg (nw z 11 0 18) 6 = 16 := by rw [(o1 6 (by omega)).1]; exact t6.1
            have p61 : zP (nw z 11 0 18) 6 6 = 17 := by rw [(o1 6 (by omega)).2.2.2]; exact t6.2.2.2.2.2.2.1
            have rt := W_takeAll 8 (nw z 11 0 18) w (by omega) (by rw [(o1 17 (by omega)).1]; exact t17.1) (by rw [(o1 17 (by omega)).2.2.2]; exact t17.2.1) (by rw [(o1 18 (by omega)).1, (o1 18 (by omega)).2.1]; exact t17.2.2) (by rw [(o1 17 (by omega)).2.2.1]; exact w3) w1
            obtain ⟨k1, k2', k3, k4, k5⟩ := tk_f (nw z 11 0 18) w (by omega) w
            have s18 : ∀ j, zI (nw z 11 0 18) 18 j = zI z 18 j := fun j => by rw [(o1 18 (by omega)).2.2.1]
            -- the heap behind takeAll
            have y2n : zn (sI (tkF (nw z 11 0 18) w w) 17 1 0) = zn z + 2 := by rw [sI_zn, k1, z1n]
            have y2w : zw (sI (tkF (nw z 11 0 18) w w) 17 1 0) = zw z + 18 + w := by rw [sI_zw, k2', z1w]
            have y2o : ∀ a, a < zn z → tg (sI (tkF (nw z 11 0 18) w w) 17 1 0) a = tg z a ∧ ln (sI (tkF (nw z 11 0 18) w w) 17 1 0) a = ln z a ∧ (∀ j, zP (sI (tkF (nw z 11 0 18) w w) 17 1 0) a j = zP z a j) ∧ ∀ j, ¬ (a = 17 ∧ j = 1) → zI (sI (tkF (nw z 11 0 18) w w) 17 1 0) a j = zI z a j := fun a ha => by
              have q := k3 a (by omega)
              refine ⟨by rw [sI_tg, q.1, (o1 a ha).1], by rw [sI_ln, q.2.1, (o1 a ha).2.1], fun j => by rw [sI_zP, q.2.2.1, (o1 a ha).2.2.2], fun j hj => by rw [sI_n hj, q.2.2.2, (o1 a ha).2.2.1]⟩
            have y2x : tg (sI (tkF (nw z 11 0 18) w w) 17 1 0) (zn z) = 11 ∧ zI (sI (tkF (nw z 11 0 18) w w) 17 1 0) (zn z) = (fun _ => 0) ∧ zP (sI (tkF (nw z 11 0 18) w w) 17 1 0) (zn z) = fun _ => 0 := by
              have q := k3 (zn z) (by omega)
              refine ⟨by rw [sI_tg, q.1]; exact z1t, ?_, by rw [sI_zP, q.2.2.1]; exact z1P⟩
              funext j
              rw [sI_n (by omega), q.2.2.2, z1I]
            have y2a : tg (sI (tkF (nw z 11 0 18) w w) 17 1 0) (zn z + 1) = 1 ∧ ln (sI (tkF (nw z 11 0 18) w w) 17 1 0) (zn z + 1) = w ∧ ∀ j, j < w → zI (sI (tkF (nw z 11 0 18) w w) 17 1 0) (zn z + 1) j = zI z 18 j := by
              rw [z1n] at k4 k5
              exact ⟨k4.1, k4.2, fun j hj => by rw [sI_n (by omega), k5 j hj]; exact s18 j⟩
            have y217 : zI (sI (tkF (nw z 11 0 18) w w) 17 1 0) 17 1 = 0 := sI_e
            rw [z1n] at rt
            have hw18 : zw (sI (tkF (nw z 11 0 18) w w) 17 1 0) ≤ zw z + 36 := by rw [y2w]; omega
            generalize sI (tkF (nw z 11 0 18) w w) 17 1 0 = y2 at *
            have rd := D_init 9 y2 (zn z) (zI (nw z 11 0 18) 6 3) kind (34 + p) pp day (zn z + 1) y2x.1 (by omega) (by omega) (isA1 y2a.1) (by rw [y2a.2.1]; exact w1)
            have ff := diz_f y2 (zn z) (zI (nw z 11 0 18) 6 3) kind (34 + p) pp day (zn z + 1) (by omega)
            rw [y2a.2.1, y2n] at ff
            generalize diz y2 (zn z) (zI (nw z 11 0 18) 6 3) kind (34 + p) pp day (zn z + 1) = y at rd ff
            obtain ⟨f1, f2, f3, f4, f5, ⟨i0, i1, i3, i4, i6, i9, i10⟩, p2, p5, p7, p8⟩ := ff
            rw [y2x.2.1] at i6 i9 i10
            rw [cn] at i0
            have tx : tg y (zn z) = 11 := by rw [(f3 (zn z) (by omega)).1]; exact y2x.1
            -- the card with its course and its first hole
            have oI : ∀ a j, ¬ (a = zn z ∧ j = 6) → zI (sI (sP y (zn z) 5 (22 + 3 * c)) (zn z) 6 (nI f)) a j = zI y a j := fun a j q => by rw [sI_n q, sP_zI]
            have oP : ∀ a j, ¬ (a = zn z ∧ j = 5) → zP (sI (sP y (zn z) 5 (22 + 3 * c)) (zn z) 6 (nI f)) a j = zP y a j := fun a j q => by rw [sI_zP, sP_n q]
            have xI : zI (sI (sP y (zn z) 5 (22 + 3 * c)) (zn z) 6 (nI f)) (zn z) 6 = nI f := sI_e
            have xP : zP (sI (sP y (zn z) 5 (22 + 3 * c)) (zn z) 6 (nI f)) (zn z) 5 = 22 + 3 * c := by rw [sI_zP, sP_e]
            have oT : tg (sI (sP y (zn z) 5 (22 + 3 * c)) (zn z) 6 (nI f)) = tg y ∧ ln (sI (sP y (zn z) 5 (22 + 3 * c)) (zn z) 6 (nI f)) = ln y ∧ zn (sI (sP y (zn z) 5 (22 + 3 * c)) (zn z) 6 (nI f)) = zn y ∧ zw (sI (sP y (zn z) 5 (22 + 3 * c)) (zn z) 6 (nI f)) = zw y := ⟨rfl, rfl, rfl, rfl⟩
            have xe : ∀ (r : Int32) (z1 : ZS), Rn 10 i_X_enter [.ref 6, .ref (zn z)] (sI (sP y (zn z) 5 (22 + 3 * c)) (zn z) 6 (nI f)) (some (.int r)) z1 → Rn 11 i_X_putDown [.ref 6, .int pp, .int cc, .int day, .int kind, .int (nI f)] z (some (.int r)) z1 := by
              intro r z1 re
              refine rn_i (full := cd_100) t6.1 (ok_n rfl) rfl (fun K hK' => hK' 0 _ _ _ ⟨_, _, rp, ⟨_, _, rc, ⟨fun c3 => absurd c3 nzp, fun c3 => ⟨fun c6 => absurd c6 nzc, fun c6 => ⟨_, _, X_isDay 8 z day, ⟨fun c10 => absurd hd (b1_t c10), fun c10 => ⟨⟨t6.1, t6.2.2.2.2.2.2.1⟩, ⟨t17.1, ⟨fun c15 => ⟨fun c16 => ⟨t6.1, ⟨fun c18 => ⟨t61, ⟨⟨t61, p61⟩, ⟨_, _, rt, ⟨_, _, rd, ⟨tx, ⟨tx, ⟨_, _, re, rfl, rfl⟩⟩⟩⟩⟩⟩⟩, fun c18 => absurd ?_ c18⟩⟩, fun c16 => absurd ?_ c16⟩, fun c15 => ⟨fun c31 => ⟨t6.1, ⟨fun c33 => ⟨t61, ⟨⟨t61, p61⟩, ⟨_, _, rt, ⟨_, _, rd, ⟨tx, ⟨tx, ⟨_, _, re, rfl, rfl⟩⟩⟩⟩⟩⟩⟩, fun c33 => absurd ?_ c33⟩⟩, fun c31 => absurd ?_ c31⟩⟩⟩⟩⟩⟩⟩⟩⟩⟩)
              · show zI z 6 3 < 60
                rw [h6]; exact nI_lt (b := 60) hn (by decide)
              · show zI z 17 1 = 9
                have c15 : kind = 1 := c15
                rw [w3]
                rcases hkf with q | q
                · rw [q.1] at c15; exact absurd c15 (by decide)
                · rw [q.2.2]; rfl
              · show zI z 6 3 < 60
                rw [h6]; exact nI_lt (b := 60) hn (by decide)
              · show zI z 17 1 = 18
                have c15 : ¬ kind = 1 := c15
                rw [w3]
                rcases hkf with q | q
                · rw [q.2.2]; rfl
                · exact absurd q.1 c15
            generalize sI (sP y (zn z) 5 (22 + 3 * c)) (zn z) 6 (nI f) = y4 at *
            have hFr : Fr (fun a j => a = 17 ∧ j = 1) (fun _ _ => False) z y4 := by
              refine ⟨by rw [oT.2.2.1, f1]; omega, fun a ha => ⟨?_, ?_⟩, fun a j ha q => ?_, fun a j ha _ => ?_⟩
              · rw [oT.1, (f3 a (by omega)).1, (y2o a ha).1]
              · rw [oT.2.1, (f3 a (by omega)).2, (y2o a ha).2.1]
              · rw [oI _ _ (by omega), (f5 a j (by omega) (by omega)).1, (y2o a ha).2.2.2 j q]
              · rw [oP _ _ (by omega), (f5 a j (by omega) (by omega)).2, (y2o a ha).2.2.1 j]
            have wr := wr_c (AZ z) n f w hfm kind pp cc day (nI f)
            have ok := wr_ok wr hC.2.2.2.2.2.2.2.1 hC.2.2.2.2.2.2.2.2.1 (by decide) (fun j hj => by
              show -1 ≤ (if f ≤ j ∧ j < f + w then AZ z 7 (j - f) else 0).toInt ∧ (if f ≤ j ∧ j < f + w then AZ z 7 (j - f) else 0).toInt ≤ 15
              by_cases e : f ≤ j ∧ j < f + w
              · rw [if_pos e]
                have := (w4 (j - f) (by omega)).2
                rw [show FZ z (3 * (j - f) + 1) = AZ z 7 (j - f) from fz_1 (AZ z) (j - f)] at this
                exact this
              · rw [if_neg e]; decide) hd
            obtain ⟨q1, q2, q3, q4, q5, q6⟩ := ok
            obtain ⟨_, _, ⟨e8, e9, e10, e11, e12, e13, e14⟩, _, e15⟩ := id wr
            generalize hA : cpF (zlF (wcA (AZ z) n kind pp cc day (nI f)) n 18) n f w = A' at *
            have efs : fsN (trw A') n = f := by
              unfold fsN
              rw [q6 12 (by decide), e12]
              rcases hkf with q | q
              · rw [q.2.1]; rfl
              · rcases q.2.1 with u | u <;> (rw [u]; rfl)
            have els : lsN (trw A') n = f + w := by
              unfold lsN
              rw [efs, q6 8 (by decide), e8]
              rcases hkf with q | q
              · rw [q.1, q.2.2]; rfl
              · rw [q.1, q.2.2]; rfl
            have ecN : cN (trw A') n = c := by
              unfold cN
              rw [q6 11 (by decide), e11, ec]; exact nI_clamp (by omega)
            have hB : BCx y4 (trw A') n (zn z) := by
              refine ⟨h75, ?_, by rw [oT.1]; exact tx, ?_, ?_, ?_, ?_, ?_, ?_, ?_, ⟨p, hp', by rw [q6 9 (by decide), e9, e], by rw [oP _ _ (by omega)]; exact p2⟩, Or.inr ⟨?_, ⟨?_, ?_, ?_⟩, by rw [ecN]; exact hc', ?_, by rw [ecN]; exact xP, by rw [oP _ _ (by omega)]; exact p7, by rw [oP _ _ (by omega), p8], ⟨?_, ?_⟩, ⟨?_, ?_⟩, fun j hj => ?_⟩⟩
              · rw [q6 8 (by decide), if_neg (by rw [e8]; exact k2), oT.2.2.1, f1]; omega
              · rw [oI _ _ (by omega)]; exact i0
              · rw [oI _ _ (by omega), q6 8 (by decide), e8]; exact i1
              · rw [oI _ _ (by omega), q6 9 (by decide), e9]; exact i3
              · rw [oI _ _ (by omega), q6 10 (by decide), e10]; exact i4
              · rw [xI, q6 12 (by decide), e12]
              · rw [oI _ _ (by omega), q6 13 (by decide), e13]; exact i9
              · rw [oI _ _ (by omega), q6 14 (by decide), e14]; exact i10
              · rw [q6 8 (by decide), e8]; exact hkf.imp (fun q => q.1) (fun q => q.1)
              · rw [efs, q6 12 (by decide), e12]
              · unfold lastF
                rw [els, q6 12 (by decide), e12, q6 8 (by decide), e8, ← nI_add]
                rcases hkf with q | q
                · rw [q.1, q.2.2]; rfl
                · rw [q.1, q.2.2]; rfl
              · rw [els]; exact hfm
              · rw [ecN, q6 11 (by decide), e11]; exact ec
              · rw [oT.1, (f3 (zn z + 1) (by omega)).1]; exact y2a.1
              · rw [oT.2.1, (f3 (zn z + 1) (by omega)).2, y2a.2.1, els, efs]; omega
              · rw [oT.1]; exact f4.1
              · rw [oT.2.1, f4.2, els, efs]; omega
              · rw [els, efs] at hj
                have ej : trw A' 15 (18 * n + (f + j)) = AZ z 7 j := by
                  rw [q6 15 (by decide), e15 (f + j) (by omega)]
                  show (if f ≤ f + j ∧ f + j < f + w then AZ z 7 (f + j - f) else 0) = _
                  rw [if_pos (by omega), show f + j - f = j by omega]
                rw [efs, ej, oI _ _ (by omega), (f5 (zn z + 1) j (by omega) (by omega)).1, y2a.2.2 j (by omega), (w4 j (by omega)).1]
                exact fz_1 (AZ z) j
            have hRW : RW y4 (FZ z) (upd (upd (VZ z) 8 0) 10 (nI (n + 1))) := by
              refine ⟨⟨0, by omega, rfl, ?_, fun j hj => absurd hj (by omega)⟩, ?_⟩
              · rw [oI _ _ (by omega), (f5 17 1 (by omega) (by omega)).1]; exact y217
              · obtain ⟨t, u1, u2, u3, u4⟩ := r19
                exact ⟨t, u1, u2, (hFr.2.2.1 19 1 (by omega) (by omega)).trans u3, fun j hj => (hFr.2.2.1 20 j (by omega) (by omega)).trans (u4 j hj)⟩
            obtain ⟨z1, re, hC1, zn1, zw1, hF1⟩ := enter_ok 8 hC hn hp' hFr hB (by rw [q6 9 (by decide), e9, e]) (by rw [oP _ _ (by omega)]; exact p2) q1 q2 hRW (fun _ _ => rfl) rfl rfl q3 q4
            have hKq : Kq z z1 := Kq_Fr h75 (Fr_t hFr hF1) (fun a j q q' => by omega) (fun a j q q' => by
              rcases q with q | q
              · exact q.elim
              · omega)
            have hM1 := Kq_MT hKq hS.1
            have rm := M_written_ok 8 z1 (VZ z1) (AZ z1) hM1 n w f (by rw [Kq_VZ hKq]; exact hV) hn (by rw [Kq_VZ hKq]; exact w2) hfm kind pp cc day k2 ⟨hp, hc, hd⟩
            have tt := WR_t (fun q hq => Kq_AZ hKq q hq) wr (show WR (AZ z1) _ n kind pp cc day (nI f) 0 (fun j => if f ≤ j ∧ j < f + w then AZ z 7 (j - f) else 0) from by
              have r := wr_c (AZ z1) n f w hfm kind pp cc day (nI f)
              rw [Kq_AZ hKq 7 (by decide)] at r
              exact r)
            refine op_g hM1 (r := nI n) (V' := upd (upd (VZ z) 8 0) 10 (nI (n + 1))) (A' := cpF (zlF (wcA (AZ z1) n kind pp cc day (nI f)) n 18) n f w) (wx _ _ (xe _ _ re)) (wm z1 _ _ hM1 (by rw [Kq_VZ hKq] at rm ⊢; exact rm)) hC1 ?_ ?_ rfl rfl rfl rfl (by show z1.1 ≤ _; rw [zn1]; show zn y4 ≤ _; rw [oT.2.2.1, f1]; omega) (by show z1.2.1 ≤ _; rw [zw1]; show zw y4 ≤ _; rw [oT.2.2.2, f2]; omega)
            · exact trw_w (fun j hj => tt j (by omega))
            · rw [← q5]
              exact fzF_e (tt 17 (by omega)) (tt 7 (by omega)) (tt 16 (by omega))
          · have e60 : n = 60 := by omega
            refine fb 4 _ (rn_i (full := cd_100) t6.1 (ok_n rfl) rfl (fun K hK' => hK' 0 _ _ _ ⟨_, _, rp, ⟨_, _, rc, ⟨fun c3 => absurd c3 nzp, fun c3 => ⟨fun c6 => absurd c6 nzc, fun c6 => ⟨_, _, X_isDay 8 z day, ⟨fun c10 => absurd hd (b1_t c10), fun c10 => ⟨⟨t6.1, t6.2.2.2.2.2.2.1⟩, ⟨t17.1, ⟨fun c15 => ⟨fun c16 => ⟨t6.1, ⟨fun c18 => absurd (show zI z 6 3 < 60 from c18) (by rw [h6, e60]; decide), fun c18 => ⟨_, _, X_rF 8 hT, rfl, rfl⟩⟩⟩, fun c16 => absurd ?_ c16⟩, fun c15 => ⟨fun c31 => ⟨t6.1, ⟨fun c33 => absurd (show zI z 6 3 < 60 from c33) (by rw [h6, e60]; decide), fun c33 => ⟨_, _, X_rF 8 hT, rfl, rfl⟩⟩⟩, fun c31 => absurd ?_ c31⟩⟩⟩⟩⟩⟩⟩⟩⟩⟩)) (fun zz hK hW => M_written_full 8 zz (VZ zz) (AZ zz) hW.1 kind pp cc day (nI f) (nI w) ⟨hp, hc, hd⟩ (by rw [Kp_VZ hK]; exact w2) (by rw [hW.2.1, e60]; rfl))
            · show zI z 17 1 = 9
              have c15 : kind = 1 := c15
              rw [w3]
              rcases hkf with q | q
              · rw [q.1] at c15; exact absurd c15 (by decide)
              · rw [q.2.2]; rfl
            · show zI z 17 1 = 18
              have c15 : ¬ kind = 1 := c15
              rw [w3]
              rcases hkf with q | q
              · rw [q.2.2]; rfl
              · exact absurd q.1 c15
        · refine fb 3 _ (rn_i (full := cd_100) t6.1 (ok_n rfl) rfl (fun K hK' => hK' 0 _ _ _ ⟨_, _, rp, ⟨_, _, rc, ⟨fun c3 => absurd c3 nzp, fun c3 => ⟨fun c6 => absurd c6 nzc, fun c6 => ⟨_, _, X_isDay 8 z day, ⟨fun c10 => absurd hd (b1_t c10), fun c10 => ⟨⟨t6.1, t6.2.2.2.2.2.2.1⟩, ⟨t17.1, ⟨fun c15 => ⟨fun c16 => absurd ?_ hw, fun c16 => ⟨_, _, X_rS 8 hT, rfl, rfl⟩⟩, fun c15 => ⟨fun c31 => absurd ?_ hw, fun c31 => ⟨_, _, X_rS 8 hT, rfl, rfl⟩⟩⟩⟩⟩⟩⟩⟩⟩⟩⟩)) (fun zz hK hW => M_written_size 8 zz (VZ zz) (AZ zz) hW.1 kind pp cc day (nI f) (nI m) ⟨hp, hc, hd⟩ (by rw [Kp_VZ hK, w2]; exact fun q => hw ((nI_eq (by omega) (by omega)).mp q)))
          · have c16 : zI z 17 1 = 9 := c16
            have c15 : kind = 1 := c15
            rw [w3] at c16
            rcases hkf with q | q
            · rw [q.1] at c15; exact absurd c15 (by decide)
            · rw [q.2.2]; exact (nI_eq (b := 9) (by omega) (by omega)).mp c16
          · have c31 : zI z 17 1 = 18 := c31
            have c15 : ¬ kind = 1 := c15
            rw [w3] at c31
            rcases hkf with q | q
            · rw [q.2.2]; exact (nI_eq (b := 18) (by omega) (by omega)).mp c31
            · exact absurd q.1 c15
      · exact fb 0 _ (rn_i (full := cd_100) t6.1 (ok_n rfl) rfl (fun K hK' => hK' 0 _ _ _ ⟨_, _, rp, ⟨_, _, rc, ⟨fun c3 => absurd c3 nzp, fun c3 => ⟨fun c6 => absurd c6 nzc, fun c6 => ⟨_, _, X_isDay 8 z day, ⟨fun c10 => ⟨_, _, X_rB 8 hT, rfl, rfl⟩, fun c10 => absurd (b1_f c10) hd⟩⟩⟩⟩⟩⟩)) (fun zz hK hW => M_written_bad 8 zz (VZ zz) (AZ zz) hW.1 kind pp cc day (nI f) (nI m) (fun q => hd q.2.2))
    · exact fb 0 _ (rn_i (full := cd_100) t6.1 (ok_n rfl) rfl (fun K hK' => hK' 0 _ _ _ ⟨_, _, rp, ⟨_, _, X_courseOf_no 9 hT cc hc, ⟨fun c3 => absurd c3 nzp, fun c3 => ⟨fun c6 => ⟨_, _, X_rB 8 hT, rfl, rfl⟩, fun c6 => absurd rfl c6⟩⟩⟩⟩)) (fun zz hK hW => M_written_bad 8 zz (VZ zz) (AZ zz) hW.1 kind pp cc day (nI f) (nI m) (fun q => hc q.2.1))
  · have rc : ∃ v, Rn 10 i_X_courseOf [.ref 6, .int cc] z (some (.ref v)) z := by
      by_cases hc : 0 ≤ cc ∧ cc ≤ 3
      · obtain ⟨c, hc', ec⟩ := co_in hc
        exact ⟨_, by rw [ec]; exact X_courseOf_ok 9 hT c hc'⟩
      · exact ⟨_, X_courseOf_no 9 hT cc hc⟩
    obtain ⟨v, rc⟩ := rc
    exact fb 0 _ (rn_i (full := cd_100) t6.1 (ok_n rfl) rfl (fun K hK' => hK' 0 _ _ _ ⟨_, _, X_playerOf_no 9 hT pp hp, ⟨_, _, rc, ⟨fun c3 => ⟨_, _, X_rB 8 hT, rfl, rfl⟩, fun c3 => absurd rfl c3⟩⟩⟩)) (fun zz hK hW => M_written_bad 8 zz (VZ zz) (AZ zz) hW.1 kind pp cc day (nI f) (nI m) (fun q => hp q.1))
theorem op_card (hS : Sim z n R) (pp cc day : Int32) : Op2 i_X_card i_M_card [.int pp, .int cc, .int day] z :=
  op_pd hS pp cc day 0 0 18 (Or.inl ⟨rfl, rfl, rfl⟩) (fun r z' h => rn_i (full := cd_65) hS.2.1.2.1.1 (ok_n rfl) rfl (fun K hK => hK 0 _ _ _ ⟨_, _, h, rfl, rfl⟩)) (fun zz r z' hM h => M_card 8 zz (VZ zz) (AZ zz) hM h)
theorem op_nine (hS : Sim z n R) (pp cc day v : Int32) : Op2 i_X_nine i_M_nine [.int pp, .int cc, .int day, .int v] z := by
  by_cases hv : v = 0
  · subst hv
    exact op_pd hS pp cc day 1 9 9 (Or.inr ⟨rfl, Or.inr rfl, rfl⟩) (fun r z' h => rn_i (full := cd_66) hS.2.1.2.1.1 (ok_n rfl) rfl (fun K hK => hK 0 _ _ _ ⟨fun c1 => ⟨_, _, h, rfl, rfl⟩, fun c1 => absurd rfl c1⟩)) (fun zz r z' hM h => M_nine_back 8 zz (VZ zz) (AZ zz) hM h)
  · exact op_pd hS pp cc day 1 0 9 (Or.inr ⟨rfl, Or.inl rfl, rfl⟩) (fun r z' h => rn_i (full := cd_66) hS.2.1.2.1.1 (ok_n rfl) rfl (fun K hK => hK 0 _ _ _ ⟨fun c1 => absurd c1 hv, fun c1 => ⟨_, _, h, rfl, rfl⟩⟩)) (fun zz r z' hM h => M_nine_front 8 zz (VZ zz) (AZ zz) hM hv h)
end Ops19
