/-! The class's Rights, read. Own work. -/
def RT (z : ZS) (m : Nat) (C D V : Nat → Int32) : Prop := tg z 10 = 14 ∧ zP z 10 0 = 11 ∧ zP z 10 1 = 12 ∧ zP z 10 2 = 13 ∧ (tg z 11 = 1 ∧ ln z 11 = 30) ∧ (tg z 12 = 1 ∧ ln z 12 = 30) ∧ (tg z 13 = 1 ∧ ln z 13 = 30) ∧ zI z 10 3 = nI m ∧ m ≤ 30 ∧ zI z 11 = C ∧ zI z 12 = D ∧ zI z 13 = V
def fiR (C D : Nat → Int32) (c day : Int32) (m : Nat) : Option Nat := ff (fun i => decide (C i = c ∧ D i = day)) (fun i => i) m
def vlR (C D V : Nat → Int32) (m : Nat) (c day : Int32) : Int32 := match fiR C D c day m with
  | none => 0
  | some i => V i
theorem fiR_s {C D : Nat → Int32} {c day : Int32} {m i : Nat} (h : fiR C D c day m = some i) : i < m ∧ C i = c ∧ D i = day := by
  obtain ⟨h1, j, hj, e, _⟩ := ff_some _ _ _ _ h
  have e : j = i := e
  subst e
  exact ⟨hj, of_decide_eq_true h1⟩
section XRt
variable (d : Nat) (z : ZS) (m : Nat) (C D V : Nat → Int32)
theorem G_isFull (h : RT z m C D V) : Rn (d + 1) i_G_isFull [.ref 10] z (some (.int (if 30 ≤ m then 1 else 0))) z := by
  obtain ⟨h1, h2, h3, h4, h5, h6, h7, h8, h9, _⟩ := h
  refine rn_i (full := cd_50) h1 ok_b rfl (fun K hK => hK 0 _ _ _ ⟨h1, ⟨fun c2 => ⟨?_, rfl⟩, fun c2 => ⟨?_, rfl⟩⟩⟩)
  · have c2 : zI z 10 3 < 30 := c2
    rw [h8] at c2
    rw [if_neg (fun w => nI_nlt (a := m) (b := 30) w (by omega) c2)]
  · have c2 : ¬ zI z 10 3 < 30 := c2
    rw [h8] at c2
    rw [if_pos]
    rcases Nat.lt_or_ge m 30 with w | w
    · exact absurd (nI_lt (b := 30) w (by decide)) c2
    · exact w
theorem G_indexOf (h : RT z m C D V) (c day : Int32) : Rn (d + 1) i_G_indexOf [.ref 10, .int c, .int day] z (some (.int (obI (fiR C D c day m)))) z := by
  obtain ⟨h1, h2, h3, h4, h5, h6, h7, h8, h9, e1, e2, e3⟩ := h
  refine rn_i (full := cd_53) h1 (ok_n rfl) rfl (fun K hK => hK 0 _ _ _ ?_)
  refine loop_up (P := fun i => fiR C D c day i = none → K 2 [.ref 10, .int c, .int day, .int (nI i)] [] z) m (fun i hi ih hn => ?_) 0 (by omega) rfl
  by_cases him : i < m
  · have ih := ih him
    rw [nI_succ] at ih
    have ci : (nI i).toNatClampNeg = i := nI_clamp (by omega)
    have v1 : vp_in (nI i) (ln z 11) := by rw [h5.2]; exact vp_in_nI (by omega) (by decide)
    have v2 : vp_in (nI i) (ln z 12) := by rw [h6.2]; exact vp_in_nI (by omega) (by decide)
    have nx_ : ¬ (C i = c ∧ D i = day) → fiR C D c day (i + 1) = none := fun w => by
      unfold fiR ff
      unfold fiR at hn
      rw [hn]
      show (if decide (C i = c ∧ D i = day) = true then some i else none) = none
      rw [if_neg (fun q => w (of_decide_eq_true q))]
    refine hK 2 _ _ _ ⟨h1, ⟨fun c2 => absurd ?_ (nI_ge (b := m) him (by omega)), fun c2 => ⟨fun c4 => absurd c4 (nI_ge (b := 30) (by omega) (by decide)), fun c4 => ⟨⟨h1, h2⟩, ⟨⟨h5.1, v1⟩, ⟨fun c8 => ⟨⟨h1, h3⟩, ⟨⟨h6.1, v2⟩, ⟨fun c11 => ⟨?_, rfl⟩, fun c11 => ih (nx_ ?_)⟩⟩⟩, fun c8 => ih (nx_ ?_)⟩⟩⟩⟩⟩⟩
    · have c2 : zI z 10 3 ≤ nI i := c2
      rw [h8] at c2; exact c2
    · have c8 : zI z 11 (nI i).toNatClampNeg = c := c8
      have c11 : zI z 12 (nI i).toNatClampNeg = day := c11
      rw [ci, e1] at c8
      rw [ci, e2] at c11
      have f1 : fiR C D c day (i + 1) = some i := by
        unfold fiR ff
        unfold fiR at hn
        rw [hn]
        show (if decide (C i = c ∧ D i = day) = true then some i else none) = some i
        rw [if_pos (decide_eq_true ⟨c8, c11⟩)]
      have f2 : fiR C D c day m = some i := by
        have := ff_mono _ _ _ f1 (m - (i + 1))
        rw [show i + 1 + (m - (i + 1)) = m by omega] at this; exact this
      rw [f2]; rfl
    · have c11 : ¬ zI z 12 (nI i).toNatClampNeg = day := c11
      rw [ci, e2] at c11
      exact fun w => c11 w.2
    · have c8 : ¬ zI z 11 (nI i).toNatClampNeg = c := c8
      rw [ci, e1] at c8
      exact fun w => c8 w.1
  · have : i = m := by omega
    subst this
    refine hK 2 _ _ _ ⟨h1, ⟨fun c2 => ⟨by rw [hn]; rfl, rfl⟩, fun c2 => absurd ?_ c2⟩⟩
    show zI z 10 3 ≤ nI i
    rw [h8]; exact Int32.le_refl _
theorem G_valueFor (h : RT z m C D V) (c day : Int32) : Rn (d + 2) i_G_valueFor [.ref 10, .int c, .int day] z (some (.int (vlR C D V m c day))) z := by
  have r := G_indexOf d z m C D V h c day
  obtain ⟨h1, h2, h3, h4, h5, h6, h7, h8, h9, e1, e2, e3⟩ := h
  cases hf : fiR C D c day m with
  | none =>
    rw [hf] at r
    have e : vlR C D V m c day = 0 := by unfold vlR; rw [hf]
    rw [e]
    exact rn_i (full := cd_51) h1 (ok_n rfl) rfl (fun K hK => hK 0 _ _ _ ⟨_, _, r, ⟨fun c2 => absurd c2 (show ¬ (0 : Int32) ≤ -1 by decide), fun c2 => ⟨rfl, rfl⟩⟩⟩)
  | some i =>
    have hi := (fiR_s hf).1
    rw [hf] at r
    have e : vlR C D V m c day = V i := by unfold vlR; rw [hf]
    rw [e]
    refine rn_i (full := cd_51) h1 (ok_n rfl) rfl (fun K hK => hK 0 _ _ _ ⟨_, _, r, ⟨fun c2 => ⟨⟨h1, h4⟩, ⟨⟨h7.1, ?_⟩, ⟨?_, rfl⟩⟩⟩, fun c2 => absurd (nI_pos' (n := i) (by omega)) c2⟩⟩)
    · show vp_in (nI i) (ln z 13)
      rw [h7.2]; exact vp_in_nI (by omega) (by decide)
    · show some (Value.int (zI z 13 (nI i).toNatClampNeg)) = _
      rw [nI_clamp (by omega), e3]
end XRt
