/-! The class's small methods: statics, courses, a card's reading. Own work. -/
theorem X_isWithin (d : Nat) (z : ZS) (v lo hi : Int32) : Rn (d + 1) i_X_isWithin [.int v, .int lo, .int hi] z (some (.int (if lo ≤ v ∧ v ≤ hi then 1 else 0))) z := by
  refine rn_i (full := cd_96) trivial ok_b rfl (fun K hK => hK 0 _ _ _ ⟨fun c1 => ⟨?_, rfl⟩, fun c1 => ⟨fun c2 => ⟨?_, rfl⟩, fun c2 => ⟨?_, rfl⟩⟩⟩)
  · rw [if_neg (fun w => Int32.not_le.mpr c1 w.1)]
  · rw [if_neg (fun w => Int32.not_le.mpr c2 w.2)]
  · rw [if_pos ⟨Int32.not_lt.mp c1, Int32.not_lt.mp c2⟩]
theorem X_isDay (d : Nat) (z : ZS) (v : Int32) : Rn (d + 2) i_X_isDay [.int v] z (some (.int (if 0 ≤ v ∧ v ≤ 9999 then 1 else 0))) z :=
  rn_i (full := cd_97) trivial ok_b rfl (fun K hK => hK 0 _ _ _ ⟨_, _, X_isWithin d z v 0 9999, rfl, rfl⟩)
theorem lt18 (v : Int32) : v ≤ 17 ↔ ¬ 18 ≤ v := by
  rw [i32_le, i32_le, show (17 : Int32).toInt = 17 by decide, show (18 : Int32).toInt = 18 by decide]; omega
theorem X_isHole (d : Nat) (z : ZS) (v : Int32) : Rn (d + 1) i_X_isHole [.int v] z (some (.int (if 0 ≤ v ∧ v ≤ 17 then 1 else 0))) z := by
  refine rn_i (full := cd_98) trivial ok_b rfl (fun K hK => hK 0 _ _ _ ⟨fun c1 => ⟨?_, rfl⟩, fun c1 => ⟨fun c2 => ⟨?_, rfl⟩, fun c2 => ⟨?_, rfl⟩⟩⟩)
  · rw [if_neg (fun w => Int32.not_le.mpr c1 w.1)]
  · rw [if_neg (fun w => (lt18 v).mp w.2 c2)]
  · rw [if_pos ⟨Int32.not_lt.mp c1, (lt18 v).mpr c2⟩]
theorem X_rounded (d : Nat) (z : ZS) (x y : Int32) (h1 : 1 ≤ y) (hy : ¬ 2 * y = 0) : Rn (d + 2) i_X_rounded [.int x, .int y] z (some (.int (rnd x y))) z :=
  rn_i (full := cd_99) trivial trivial rfl (fun K hK => hK 0 _ _ _ ⟨fun c1 => ⟨_, _, J_floorDiv d z _ _ hy, rfl, rfl⟩, fun c1 => absurd h1 c1⟩)
/-- a course: rating, slope, par and rank by hole -/
def CO (z : ZS) (x : Nat) (r s : Int32) (P Q : Nat → Int32) : Prop := tg z x = 12 ∧ zI z x 1 = r ∧ zI z x 2 = s ∧ (tg z (zP z x 3) = 1 ∧ ln z (zP z x 3) = 18) ∧ (tg z (zP z x 4) = 1 ∧ ln z (zP z x 4) = 18) ∧ (∀ h, h < 18 → zI z (zP z x 3) h = P h) ∧ (∀ h, h < 18 → zI z (zP z x 4) h = Q h)
def psum (P : Nat → Int32) : Nat → Int32
  | 0 => 0
  | h + 1 => psum P h + P h
def gvS (num r s : Int32) (P : Nat → Int32) : Int32 := rnd (num * s + 113 * (r - 10 * psum P 18)) 1130
section XCo
variable (d : Nat) (z : ZS) (x : Nat) (r s : Int32) (P Q : Nat → Int32)
theorem C_parAt (h : CO z x r s P Q) (hN : Nat) (h18 : hN < 18) : Rn (d + 1) i_C_parAt [.ref x, .int (nI hN)] z (some (.int (P hN))) z := by
  obtain ⟨h1, h2, h3, h4, h5, h6, h7⟩ := h
  refine rn_i (full := cd_31) h1 (ok_n rfl) rfl (fun K hK => hK 0 _ _ _ ⟨fun c1 => absurd c1 (nI_pos (by omega)), fun c1 => ⟨fun c3 => absurd c3 (nI_ge (b := 18) h18 (by decide)), fun c3 => ⟨h1, ⟨⟨h4.1, ?_⟩, ⟨?_, rfl⟩⟩⟩⟩⟩)
  · show vp_in (nI hN) (ln z (zP z x 3))
    rw [h4.2]; exact vp_in_nI h18 (by decide)
  · show some (Value.int (zI z (zP z x 3) (nI hN).toNatClampNeg)) = _
    rw [nI_clamp (by omega), h6 hN h18]
theorem C_rankAt (h : CO z x r s P Q) (hN : Nat) (h18 : hN < 18) : Rn (d + 1) i_C_rankAt [.ref x, .int (nI hN)] z (some (.int (Q hN))) z := by
  obtain ⟨h1, h2, h3, h4, h5, h6, h7⟩ := h
  refine rn_i (full := cd_32) h1 (ok_n rfl) rfl (fun K hK => hK 0 _ _ _ ⟨fun c1 => absurd c1 (nI_pos (by omega)), fun c1 => ⟨fun c3 => absurd c3 (nI_ge (b := 18) h18 (by decide)), fun c3 => ⟨h1, ⟨⟨h5.1, ?_⟩, ⟨?_, rfl⟩⟩⟩⟩⟩)
  · show vp_in (nI hN) (ln z (zP z x 4))
    rw [h5.2]; exact vp_in_nI h18 (by decide)
  · show some (Value.int (zI z (zP z x 4) (nI hN).toNatClampNeg)) = _
    rw [nI_clamp (by omega), h7 hN h18]
theorem C_parsOfFirst (h : CO z x r s P Q) (n : Nat) (hn : n ≤ 18) : Rn (d + 1) i_C_parsOfFirst [.ref x, .int (nI n)] z (some (.int (psum P n))) z := by
  obtain ⟨h1, h2, h3, h4, h5, h6, h7⟩ := h
  refine rn_i (full := cd_33) h1 (ok_n rfl) rfl (fun K hK => hK 0 _ _ _ ?_)
  refine loop_up (P := fun k => K 4 [.ref x, .int (nI n), .int (psum P k), .int (nI k)] [] z) n (fun k hk ih => ?_) 0 (by omega)
  by_cases hkn : k < n
  · have ih := ih hkn
    rw [nI_succ] at ih
    refine hK 4 _ _ _ ⟨fun c1 => absurd c1 (nI_ge hkn (by omega)), fun c1 => ⟨fun c3 => absurd c3 (nI_ge (b := 18) (by omega) (by decide)), fun c3 => ⟨h1, ⟨⟨h4.1, ?_⟩, ?_⟩⟩⟩⟩
    · show vp_in (nI k) (ln z (zP z x 3))
      rw [h4.2]; exact vp_in_nI (by omega) (by decide)
    · show K 4 [.ref x, .int (nI n), .int (psum P k + zI z (zP z x 3) (nI k).toNatClampNeg), .int (nI k + 1)] [] z
      rw [nI_clamp (by omega), h6 k (by omega)]; exact ih
  · have : k = n := by omega
    subst this
    exact hK 4 _ _ _ ⟨fun c1 => ⟨rfl, rfl⟩, fun c1 => absurd (Int32.le_refl _) c1⟩
theorem C_givenFor (h : CO z x r s P Q) (num : Int32) : Rn (d + 3) i_C_givenFor [.ref x, .int num] z (some (.int (gvS num r s P))) z := by
  have h' := h
  obtain ⟨h1, h2, h3, h4, h5, h6, h7⟩ := h
  refine rn_i (full := cd_35) h1 (ok_n rfl) rfl (fun K hK => hK 0 _ _ _ ⟨h1, ⟨_, _, C_parsOfFirst (d + 1) z x r s P Q h' 18 (by decide), ⟨h1, ⟨_, _, X_rounded d _ _ 1130 (by decide) (by decide), ⟨?_, rfl⟩⟩⟩⟩⟩)
  show some (Value.int (rnd (num * zI z x 2 + 113 * (zI z x 1 - 10 * psum P 18)) 1130)) = _
  rw [h2, h3]; rfl
theorem C_shareAt (h : CO z x r s P Q) (hN : Nat) (h18 : hN < 18) (g : Int32) : Rn (d + 2) i_C_shareAt [.ref x, .int (nI hN), .int g] z (some (.int (gvF g (Q hN)))) z := by
  refine rn_i (full := cd_36) h.1 (ok_n rfl) rfl (fun K hK => hK 0 _ _ _ ⟨_, _, J_floorDiv d _ g 18 (by decide), ⟨_, _, C_rankAt d z x r s P Q h hN h18, ⟨_, _, J_floorMod d _ g 18 (by decide), ⟨fun c4 => ⟨?_, rfl⟩, fun c4 => ⟨?_, rfl⟩⟩⟩⟩⟩)
  · have c4 : fmd g 18 < Q hN := c4
    unfold gvF; rw [if_pos c4, Int32.add_zero]
  · have c4 : ¬ fmd g 18 < Q hN := c4
    unfold gvF; rw [if_neg c4]
end XCo
/-- a card with holes: its first hole, how many, the shots, the shares -/
def DO (z : ZS) (x f len : Nat) (S H : Nat → Int32) : Prop := tg z x = 11 ∧ zI z x 6 = nI f ∧ (tg z (zP z x 7) = 1 ∧ ln z (zP z x 7) = len) ∧ (tg z (zP z x 8) = 1 ∧ ln z (zP z x 8) = len) ∧ (∀ j, j < len → zI z (zP z x 7) j = S j) ∧ (∀ j, j < len → zI z (zP z x 8) j = H j) ∧ f + len ≤ 18
theorem isA1 {z : ZS} {x : Nat} (h : tg z x = 1) : isAr (tg z x) = true := by rw [h]; rfl
def hpF (S : Nat → Int32) : Nat → Int32
  | 0 => 0
  | j + 1 => hpF S j + (if S j = 0 then 0 else 1)
def ssF (S H : Nat → Int32) (net : Int32) : Nat → Int32
  | 0 => 0
  | j + 1 => ssF S H net j + (if net = 0 then S j else S j - H j)
/-- ADJUSTED by the limit -/
def ajF (u lim : Int32) : Int32 := if u = 0 then lim - 2 else if u = -1 then lim else if u ≤ lim then u else lim
def awF (S H P : Nat → Int32) (f : Nat) : Nat → Int32
  | 0 => 0
  | j + 1 => awF S H P f j + ajF (S j) (P (f + j) + 2 + H j)
def ppF (S H P : Nat → Int32) (f fm : Nat) : Nat → Int32
  | 0 => 0
  | j + 1 => if f + j < fm then ppF S H P f fm j else if S j ≤ 0 then ppF S H P f fm j else ppF S H P f fm j + (if P (f + j) + 2 + H j - S j < 0 then 0 else P (f + j) + 2 + H j - S j)
section XDo
variable (d : Nat) (z : ZS) (x f len : Nat) (S H : Nat → Int32)
theorem D_holesPlayed (h : DO z x f len S H) : Rn (d + 1) i_D_holesPlayed [.ref x] z (some (.int (hpF S len))) z := by
  obtain ⟨h1, h2, h3, h4, h5, h6, h7⟩ := h
  refine rn_i (full := cd_19) h1 (ok_n rfl) rfl (fun K hK => hK 0 _ _ _ ⟨h1, ⟨isA1 h3.1, ?_⟩⟩)
  show K 13 [.ref x, .int 0, .ref (zP z x 7), .int (nI (ln z (zP z x 7))), .int 0, .null] [] z
  rw [h3.2]
  refine loop_up (P := fun k => ∀ v : Value, K 13 [.ref x, .int (hpF S k), .ref (zP z x 7), .int (nI len), .int (nI k), v] [] z) len (fun k hk ih v => ?_) 0 (by omega) .null
  by_cases hkn : k < len
  · have ih := ih hkn
    rw [nI_succ] at ih
    have ck : (nI k).toNatClampNeg = k := nI_clamp (by omega)
    have v1 : vp_in (nI k) (ln z (zP z x 7)) := by rw [h3.2]; exact vp_in_nI hkn (by omega)
    refine hK 10 _ _ _ ⟨fun c1 => absurd c1 (nI_ge hkn (by omega)), fun c1 => ⟨⟨h3.1, v1⟩, ⟨fun c4 => ?_, fun c4 => ?_⟩⟩⟩
    · have c4 : zI z (zP z x 7) (nI k).toNatClampNeg = 0 := c4
      rw [ck, h5 k hkn] at c4
      unfold hpF at ih
      rw [if_pos c4] at ih
      exact ih _
    · have c4 : ¬ zI z (zP z x 7) (nI k).toNatClampNeg = 0 := c4
      rw [ck, h5 k hkn] at c4
      unfold hpF at ih
      rw [if_neg c4] at ih
      exact ih _
  · have : k = len := by omega
    subst this
    exact hK 10 _ _ _ ⟨fun c1 => ⟨rfl, rfl⟩, fun c1 => absurd (Int32.le_refl _) c1⟩
theorem D_isScored_t (h : DO z x f len S H) (hok : ∀ j, j < len → 0 < S j) : Rn (d + 1) i_D_isScored [.ref x] z (some (.int 1)) z := by
  obtain ⟨h1, h2, h3, h4, h5, h6, h7⟩ := h
  refine rn_i (full := cd_20) h1 (Or.inr rfl) rfl (fun K hK => hK 0 _ _ _ ⟨h1, ⟨isA1 h3.1, ?_⟩⟩)
  show K 10 [.ref x, .ref (zP z x 7), .int (nI (ln z (zP z x 7))), .int 0, .null] [] z
  rw [h3.2]
  refine loop_up (P := fun k => ∀ v : Value, K 10 [.ref x, .ref (zP z x 7), .int (nI len), .int (nI k), v] [] z) len (fun k hk ih v => ?_) 0 (by omega) .null
  by_cases hkn : k < len
  · have ih := ih hkn
    rw [nI_succ] at ih
    have ck : (nI k).toNatClampNeg = k := nI_clamp (by omega)
    have v1 : vp_in (nI k) (ln z (zP z x 7)) := by rw [h3.2]; exact vp_in_nI hkn (by omega)
    refine hK 8 _ _ _ ⟨fun c1 => absurd c1 (nI_ge hkn (by omega)), fun c1 => ⟨⟨h3.1, v1⟩, ⟨fun c4 => ih _, fun c4 => absurd ?_ c4⟩⟩⟩
    show 0 < zI z (zP z x 7) (nI k).toNatClampNeg
    rw [ck, h5 k hkn]; exact hok k hkn
  · have : k = len := by omega
    subst this
    exact hK 8 _ _ _ ⟨fun c1 => ⟨rfl, rfl⟩, fun c1 => absurd (Int32.le_refl _) c1⟩
theorem D_isScored_f (h : DO z x f len S H) (j0 : Nat) (hj : j0 < len) (hb : ¬ 0 < S j0) : Rn (d + 1) i_D_isScored [.ref x] z (some (.int 0)) z := by
  obtain ⟨h1, h2, h3, h4, h5, h6, h7⟩ := h
  refine rn_i (full := cd_20) h1 (Or.inl rfl) rfl (fun K hK => hK 0 _ _ _ ⟨h1, ⟨isA1 h3.1, ?_⟩⟩)
  show K 10 [.ref x, .ref (zP z x 7), .int (nI (ln z (zP z x 7))), .int 0, .null] [] z
  rw [h3.2]
  refine loop_up (P := fun k => ∀ v : Value, K 10 [.ref x, .ref (zP z x 7), .int (nI len), .int (nI k), v] [] z) j0 (fun k hk ih v => ?_) 0 (by omega) .null
  have ck : (nI k).toNatClampNeg = k := nI_clamp (by omega)
  have v1 : vp_in (nI k) (ln z (zP z x 7)) := by rw [h3.2]; exact vp_in_nI (by omega) (by omega)
  refine hK 8 _ _ _ ⟨fun c1 => absurd c1 (nI_ge (by omega) (by omega)), fun c1 => ⟨⟨h3.1, v1⟩, ⟨fun c4 => ?_, fun c4 => ⟨rfl, rfl⟩⟩⟩⟩
  have c4 : 0 < zI z (zP z x 7) (nI k).toNatClampNeg := c4
  rw [ck, h5 k (by omega)] at c4
  have hk0 : k < j0 := by
    rcases Nat.lt_or_ge k j0 with w | w
    · exact w
    · have : k = j0 := by omega
      rw [this] at c4; exact absurd c4 hb
  have ih := ih hk0
  rw [nI_succ] at ih
  exact ih _
theorem nI_sub' (f j : Nat) : nI (f + j) - nI f = nI j := by rw [pk_sub (by omega), show f + j - f = j by omega]
theorem D_shotsAt (h : DO z x f len S H) (j : Nat) (hj : j < len) : Rn (d + 1) i_D_shotsAt [.ref x, .int (nI (f + j))] z (some (.int (S j))) z := by
  obtain ⟨h1, h2, h3, h4, h5, h6, h7⟩ := h
  have e : nI (f + j) - zI z x 6 = nI j := by rw [h2, nI_sub']
  have ck : (nI j).toNatClampNeg = j := nI_clamp (by omega)
  refine rn_i (full := cd_21) h1 (ok_n rfl) rfl (fun K hK => hK 0 _ _ _ ⟨h1, ⟨fun c2 => absurd ?_ (nI_pos (n := j) (by omega)), fun c2 => ⟨h1, ⟨isA1 h3.1, ⟨fun c6 => absurd ?_ (nI_ge (b := len) (a := j) hj (by omega)), fun c6 => ⟨h1, ⟨⟨h3.1, ?_⟩, ⟨?_, rfl⟩⟩⟩⟩⟩⟩⟩⟩)
  · have c2 : nI (f + j) - zI z x 6 < 0 := c2
    rw [e] at c2; exact c2
  · have c6 : nI (ln z (zP z x 7)) ≤ nI (f + j) - zI z x 6 := c6
    rw [e, h3.2] at c6; exact c6
  · show vp_in (nI (f + j) - zI z x 6) (ln z (zP z x 7))
    rw [e, h3.2]; exact vp_in_nI hj (by omega)
  · show some (Value.int (zI z (zP z x 7) (nI (f + j) - zI z x 6).toNatClampNeg)) = _
    rw [e, ck, h5 j hj]
theorem D_shareAt (h : DO z x f len S H) (j : Nat) (hj : j < len) : Rn (d + 1) i_D_shareAt [.ref x, .int (nI (f + j))] z (some (.int (H j))) z := by
  obtain ⟨h1, h2, h3, h4, h5, h6, h7⟩ := h
  have e : nI (f + j) - zI z x 6 = nI j := by rw [h2, nI_sub']
  have ck : (nI j).toNatClampNeg = j := nI_clamp (by omega)
  refine rn_i (full := cd_22) h1 (ok_n rfl) rfl (fun K hK => hK 0 _ _ _ ⟨h1, ⟨fun c2 => absurd ?_ (nI_pos (n := j) (by omega)), fun c2 => ⟨h1, ⟨isA1 h4.1, ⟨fun c6 => absurd ?_ (nI_ge (b := len) (a := j) hj (by omega)), fun c6 => ⟨h1, ⟨⟨h4.1, ?_⟩, ⟨?_, rfl⟩⟩⟩⟩⟩⟩⟩⟩)
  · have c2 : nI (f + j) - zI z x 6 < 0 := c2
    rw [e] at c2; exact c2
  · have c6 : nI (ln z (zP z x 8)) ≤ nI (f + j) - zI z x 6 := c6
    rw [e, h4.2] at c6; exact c6
  · show vp_in (nI (f + j) - zI z x 6) (ln z (zP z x 8))
    rw [e, h4.2]; exact vp_in_nI hj (by omega)
  · show some (Value.int (zI z (zP z x 8) (nI (f + j) - zI z x 6).toNatClampNeg)) = _
    rw [e, ck, h6 j hj]
theorem D_netAt (h : DO z x f len S H) (j : Nat) (hj : j < len) : Rn (d + 2) i_D_netAt [.ref x, .int (nI (f + j))] z (some (.int (S j - H j))) z :=
  rn_i (full := cd_23) h.1 (ok_n rfl) rfl (fun K hK => hK 0 _ _ _ ⟨_, _, D_shotsAt d z x f len S H h j hj, ⟨_, _, D_shareAt d z x f len S H h j hj, rfl, rfl⟩⟩)
theorem D_shotsSum (h : DO z x f len S H) (net : Int32) : Rn (d + 3) i_D_shotsSum [.ref x, .int net] z (some (.int (ssF S H net len))) z := by
  have h' := h
  obtain ⟨h1, h2, h3, h4, h5, h6, h7⟩ := h
  refine rn_i (full := cd_26) h1 (ok_n rfl) rfl (fun K hK => hK 0 _ _ _ ?_)
  refine loop_up (P := fun k => ∀ v : Value, K 4 [.ref x, .int net, .int (ssF S H net k), .int (nI k), v] [] z) len (fun k hk ih v => ?_) 0 (by omega) .null
  by_cases hkn : k < len
  · have ih := ih hkn
    rw [nI_succ] at ih
    have e : zI z x 6 + nI k = nI (f + k) := by rw [h2, nI_add]
    have r1 : Rn (d + 2) i_D_shotsAt [.ref x, .int (zI z x 6 + nI k)] z (some (.int (S k))) z := by rw [e]; exact D_shotsAt (d + 1) z x f len S H h' k hkn
    have r2 : Rn (d + 2) i_D_netAt [.ref x, .int (zI z x 6 + nI k)] z (some (.int (S k - H k))) z := by rw [e]; exact D_netAt d z x f len S H h' k hkn
    refine hK 4 _ _ _ ⟨h1, ⟨isA1 h3.1, ⟨fun c3 => absurd ?_ (nI_ge (b := len) (a := k) hkn (by omega)), fun c3 => ⟨h1, ⟨fun c6 => ⟨_, _, r1, ?_⟩, fun c6 => ⟨_, _, r2, ?_⟩⟩⟩⟩⟩⟩
    · have c3 : nI (ln z (zP z x 7)) ≤ nI k := c3
      rw [h3.2] at c3; exact c3
    · have c6 : net = 0 := c6
      unfold ssF at ih
      rw [if_pos c6] at ih
      exact ih _
    · have c6 : ¬ net = 0 := c6
      unfold ssF at ih
      rw [if_neg c6] at ih
      exact ih _
  · have : k = len := by omega
    subst this
    refine hK 4 _ _ _ ⟨h1, ⟨isA1 h3.1, ⟨fun c3 => ⟨rfl, rfl⟩, fun c3 => absurd ?_ c3⟩⟩⟩
    show nI (ln z (zP z x 7)) ≤ nI k
    rw [h3.2]; exact Int32.le_refl _
variable (r s : Int32) (P Q : Nat → Int32)
theorem D_limitAt (h : DO z x f len S H) (y : Nat) (hy : zP z x 5 = y) (hC : CO z y r s P Q) (y0 : ¬ y = 0) (j : Nat) (hj : j < len) : Rn (d + 2) i_D_limitAt [.ref x, .int (nI (f + j))] z (some (.int (P (f + j) + 2 + H j))) z := by
  have h7 := h.2.2.2.2.2.2
  subst hy
  exact rn_i (full := cd_24) h.1 (ok_n rfl) rfl (fun K hK => hK 0 _ _ _ ⟨h.1, ⟨fun c2 => absurd c2 y0, fun c2 => ⟨h.1, ⟨_, _, C_parAt d z _ r s P Q hC (f + j) (by omega), ⟨_, _, D_shareAt d z x f len S H h j hj, rfl, rfl⟩⟩⟩⟩⟩)
theorem D_adjustedAt (h : DO z x f len S H) (y : Nat) (hy : zP z x 5 = y) (hC : CO z y r s P Q) (y0 : ¬ y = 0) (j : Nat) (hj : j < len) : Rn (d + 3) i_D_adjustedAt [.ref x, .int (nI (f + j))] z (some (.int (ajF (S j) (P (f + j) + 2 + H j)))) z := by
  refine rn_i (full := cd_25) h.1 (ok_n rfl) rfl (fun K hK => hK 0 _ _ _ ⟨_, _, D_limitAt d z x f len S H r s P Q h y hy hC y0 j hj, ⟨_, _, D_shotsAt (d + 1) z x f len S H h j hj, ⟨fun c3 => ⟨?_, rfl⟩, fun c3 => ⟨fun c5 => ⟨?_, rfl⟩, fun c5 => ⟨fun c7 => ⟨?_, rfl⟩, fun c7 => ⟨?_, rfl⟩⟩⟩⟩⟩⟩)
  · have c3 : S j = 0 := c3
    unfold ajF; rw [if_pos c3]
  · have c3 : ¬ S j = 0 := c3
    have c5 : S j = -1 := c5
    unfold ajF; rw [if_neg c3, if_pos c5]
  · have c3 : ¬ S j = 0 := c3
    have c5 : ¬ S j = -1 := c5
    have c7 : S j ≤ P (f + j) + 2 + H j := c7
    unfold ajF; rw [if_neg c3, if_neg c5, if_pos c7]
  · have c3 : ¬ S j = 0 := c3
    have c5 : ¬ S j = -1 := c5
    have c7 : ¬ S j ≤ P (f + j) + 2 + H j := c7
    unfold ajF; rw [if_neg c3, if_neg c5, if_neg c7]
theorem D_worthLess (h : DO z x f len S H) (y : Nat) (hy : zP z x 5 = y) (hC : CO z y r s P Q) (y0 : ¬ y = 0) (h1s : 1 ≤ s) (hs : ¬ 2 * s = 0) (t : Int32) : Rn (d + 4) i_D_worthLess [.ref x, .int t] z (some (.int (rnd (113 * (10 * awF S H P f len - t)) s))) z := by
  have h' := h
  obtain ⟨h1, h2, h3, h4, h5, h6, h7⟩ := h
  have hy' := hy
  subst hy
  refine rn_i (full := cd_29) h1 (ok_n rfl) rfl (fun K hK => hK 0 _ _ _ ⟨h1, ⟨fun c2 => absurd c2 y0, fun c2 => ?_⟩⟩)
  refine loop_up (P := fun k => K 14 [.ref x, .int t, .int (awF S H P f k), .int (nI k)] [] z) len (fun k hk ih => ?_) 0 (by omega)
  by_cases hkn : k < len
  · have ih := ih hkn
    rw [nI_succ] at ih
    have e : zI z x 6 + nI k = nI (f + k) := by rw [h2, nI_add]
    have r1 : Rn (d + 3) i_D_adjustedAt [.ref x, .int (zI z x 6 + nI k)] z (some (.int (ajF (S k) (P (f + k) + 2 + H k)))) z := by rw [e]; exact D_adjustedAt d z x f len S H r s P Q h' _ hy' hC y0 k hkn
    refine hK 9 _ _ _ ⟨h1, ⟨isA1 h3.1, ⟨fun c3 => absurd ?_ (nI_ge (b := len) (a := k) hkn (by omega)), fun c3 => ⟨h1, ⟨_, _, r1, ih⟩⟩⟩⟩⟩
    have c3 : nI (ln z (zP z x 7)) ≤ nI k := c3
    rw [h3.2] at c3; exact c3
  · have : k = len := by omega
    subst this
    have ro := X_rounded (d + 1) z (113 * (10 * awF S H P f k - t)) s h1s hs
    have es : zI z (zP z x 5) 2 = s := hC.2.2.1
    have ro : Rn (d + 3) i_X_rounded [.int (113 * (10 * awF S H P f k - t)), .int (zI z (zP z x 5) 2)] z (some (.int (rnd (113 * (10 * awF S H P f k - t)) s))) z := by rw [es]; exact ro
    refine hK 9 _ _ _ ⟨h1, ⟨isA1 h3.1, ⟨fun c3 => ⟨h1, ⟨hC.1, ⟨_, _, ro, rfl, rfl⟩⟩⟩, fun c3 => absurd ?_ c3⟩⟩⟩
    show nI (ln z (zP z x 7)) ≤ nI k
    rw [h3.2]; exact Int32.le_refl _
theorem D_pointsFrom (h : DO z x f len S H) (y : Nat) (hy : zP z x 5 = y) (hC : CO z y r s P Q) (y0 : ¬ y = 0) (fm : Nat) (hfm : fm ≤ 18) : Rn (d + 3) i_D_pointsFrom [.ref x, .int (nI fm)] z (some (.int (ppF S H P f fm len))) z := by
  have h' := h
  obtain ⟨h1, h2, h3, h4, h5, h6, h7⟩ := h
  refine rn_i (full := cd_27) h1 (ok_n rfl) rfl (fun K hK => hK 0 _ _ _ ?_)
  refine loop_up (P := fun k => ∀ v : Value, K 4 [.ref x, .int (nI fm), .int (ppF S H P f fm k), .int (nI k), v] [] z) len (fun k hk ih v => ?_) 0 (by omega) .null
  by_cases hkn : k < len
  · have ih := ih hkn
    rw [nI_succ] at ih
    have e : zI z x 6 + nI k = nI (f + k) := by rw [h2, nI_add]
    have ck : (nI k).toNatClampNeg = k := nI_clamp (by omega)
    have v1 : vp_in (nI k) (ln z (zP z x 7)) := by rw [h3.2]; exact vp_in_nI hkn (by omega)
    have r1 : Rn (d + 2) i_D_limitAt [.ref x, .int (zI z x 6 + nI k)] z (some (.int (P (f + k) + 2 + H k))) z := by rw [e]; exact D_limitAt d z x f len S H r s P Q h' y hy hC y0 k hkn
    refine hK 4 _ _ _ ⟨h1, ⟨isA1 h3.1, ⟨fun c3 => absurd ?_ (nI_ge (b := len) (a := k) hkn (by omega)), fun c3 => ⟨h1, ⟨fun c6 => ?_, fun c6 => ⟨h1, ⟨⟨h3.1, v1⟩, ⟨fun c10 => ?_, fun c10 => ⟨_, _, r1, ⟨h1, ⟨⟨h3.1, v1⟩, ⟨_, _, J_max (d + 1) _ _ _, ?_⟩⟩⟩⟩⟩⟩⟩⟩⟩⟩⟩⟩
    · have c3 : nI (ln z (zP z x 7)) ≤ nI k := c3
      rw [h3.2] at c3; exact c3
    · have c6 : zI z x 6 + nI k < nI fm := c6
      rw [e] at c6
      have c6 : f + k < fm := by
        rcases Nat.lt_or_ge (f + k) fm with w | w
        · exact w
        · exact absurd c6 (nI_nlt w (by omega))
      unfold ppF at ih
      rw [if_pos c6] at ih
      exact ih _
    all_goals
      have c6 : ¬ zI z x 6 + nI k < nI fm := c6
      rw [e] at c6
      have c6 : ¬ f + k < fm := fun w => c6 (nI_lt w (by omega))
      unfold ppF at ih
      rw [if_neg c6] at ih
    · have c10 : zI z (zP z x 7) (nI k).toNatClampNeg ≤ 0 := c10
      rw [ck, h5 k hkn] at c10
      rw [if_pos c10] at ih
      exact ih _
    · have c10 : ¬ zI z (zP z x 7) (nI k).toNatClampNeg ≤ 0 := c10
      rw [ck, h5 k hkn] at c10
      rw [if_neg c10] at ih
      show K 4 [.ref x, .int (nI fm), .int (ppF S H P f fm k + (if P (f + k) + 2 + H k - zI z (zP z x 7) (nI k).toNatClampNeg < 0 then 0 else P (f + k) + 2 + H k - zI z (zP z x 7) (nI k).toNatClampNeg)), .int (nI k + 1), _] [] z
      rw [ck, h5 k hkn]
      exact ih _
  · have : k = len := by omega
    subst this
    refine hK 4 _ _ _ ⟨h1, ⟨isA1 h3.1, ⟨fun c3 => ⟨rfl, rfl⟩, fun c3 => absurd ?_ c3⟩⟩⟩
    show nI (ln z (zP z x 7)) ≤ nI k
    rw [h3.2]; exact Int32.le_refl _
end XDo
