/-! Calls of both: right, put. Own work. -/
def ctR (f0 v : Int32) (R : Nat) : Nat := if f0 = 0 then (if v = 0 then R else R + 1) else (if v = 0 then R - 1 else R)
theorem VW_m {C D V : Nat → Int32} {m : Nat} {f : Int32 → Int32 → Int32} {c day : Int32} (hR : RD C D V m) (h : VW C D V m f) (h0 : f c day = 0) : ∀ i, i < m → ¬ (C i = c ∧ D i = day) := fun i hi w => by
  have := h.1 i hi
  rw [w.1, w.2, h0] at this
  exact hR.1 i hi this.symm
theorem VW_x {C D V : Nat → Int32} {m : Nat} {f : Int32 → Int32 → Int32} {c day : Int32} (h : VW C D V m f) (h0 : ¬ f c day = 0) : ∃ i, i < m ∧ C i = c ∧ D i = day := by
  refine Classical.byContradiction (fun w => h0 (h.2 c day (fun i hi q => w ⟨i, hi, q.1, q.2⟩)))
theorem md_right (A : Nat → Nat → Int32) (R : Nat) (f : Int32 → Int32 → Int32) (c day v : Int32) (hR : RD (A 4) (A 5) (A 6) R) (h : VW (A 4) (A 5) (A 6) R f) : ∃ A' R1, (A' = if v = 0 then (rmF A c day R).2 else u2 (u2 (u2 (rmF A c day R).2 4 (rmF A c day R).1 c) 5 (rmF A c day R).1 day) 6 (rmF A c day R).1 v) ∧ (nI R1 = if v = 0 then nI (rmF A c day R).1 else nI ((rmF A c day R).1 + 1)) ∧ R1 = ctR (f c day) v R ∧ RD (A' 4) (A' 5) (A' 6) R1 ∧ VW (A' 4) (A' 5) (A' 6) R1 (fU f c day v) ∧ (∀ q, ¬ (q = 4 ∨ q = 5 ∨ q = 6) → A' q = A q) ∧ (f c day = 0 → (rmF A c day R).1 = R) ∧ (¬ f c day = 0 → (rmF A c day R).1 = R - 1 ∧ 0 < R) := by
  have add : ∀ (B : Nat → Nat → Int32) (m : Nat) (g : Int32 → Int32 → Int32), ¬ v = 0 → RD (B 4) (B 5) (B 6) m → VW (B 4) (B 5) (B 6) m g → (∀ i, i < m → ¬ (B 4 i = c ∧ B 5 i = day)) → RD (u2 (u2 (u2 B 4 m c) 5 m day) 6 m v 4) (u2 (u2 (u2 B 4 m c) 5 m day) 6 m v 5) (u2 (u2 (u2 B 4 m c) 5 m day) 6 m v 6) (m + 1) ∧ VW (u2 (u2 (u2 B 4 m c) 5 m day) 6 m v 4) (u2 (u2 (u2 B 4 m c) 5 m day) 6 m v 5) (u2 (u2 (u2 B 4 m c) 5 m day) 6 m v 6) (m + 1) (fU g c day v) := by
    intro B m g hv h1 h2 h3
    refine VW_add hv h1 h2 h3 (fun i hi => ⟨?_, ?_, ?_⟩) ⟨?_, ?_, ?_⟩
    · rw [u2_n (by decide), u2_n (by decide), u2_v, if_neg (by omega)]
    · rw [u2_n (by decide), u2_v, if_neg (by omega), u2_n (by decide)]
    · rw [u2_v, if_neg (by omega), u2_n (by decide), u2_n (by decide)]
    · rw [u2_n (by decide), u2_n (by decide), u2_v, if_pos ⟨rfl, rfl⟩]
    · rw [u2_n (by decide), u2_v, if_pos ⟨rfl, rfl⟩]
    · rw [u2_v, if_pos ⟨rfl, rfl⟩]
  have oth : ∀ (B : Nat → Nat → Int32) (m : Nat), (∀ q, ¬ (q = 4 ∨ q = 5 ∨ q = 6) → B q = A q) → ∀ q, ¬ (q = 4 ∨ q = 5 ∨ q = 6) → u2 (u2 (u2 B 4 m c) 5 m day) 6 m v q = A q := fun B m hB q hq => by
    rw [u2_n (by omega), u2_n (by omega), u2_n (by omega)]; exact hB q hq
  by_cases h0 : f c day = 0
  · have nm := VW_m hR h h0
    have er := rm_no A c day R nm
    rw [er]
    by_cases hv : v = 0
    · refine ⟨A, R, by rw [if_pos hv], by rw [if_pos hv], by unfold ctR; rw [if_pos h0, if_pos hv], hR, by rw [hv]; exact VW_0 h h0, fun _ _ => rfl, fun _ => rfl, fun w => absurd h0 w⟩
    · obtain ⟨a1, a2⟩ := add A R f hv hR h nm
      exact ⟨_, R + 1, by rw [if_neg hv], by rw [if_neg hv], by unfold ctR; rw [if_pos h0, if_neg hv], a1, a2, oth A R (fun _ _ => rfl), fun _ => rfl, fun w => absurd h0 w⟩
  · obtain ⟨i0, hi0, e0⟩ := VW_x h h0
    obtain ⟨r1, r2, r3, r4⟩ := rm_yes A c day i0 R e0 (fun i w hi => hR.2 i i0 hi hi0 (w.1.trans e0.1.symm) (w.2.trans e0.2.symm)) R hi0 (Nat.le_refl _)
    generalize rmF A c day R = X at *
    obtain ⟨m, B⟩ := X
    have r1 : m = R - 1 := r1
    have r2 : ∀ q, ¬ (q = 4 ∨ q = 5 ∨ q = 6) → B q = A q := r2
    have r3 : ∀ q i, (i < i0 ∨ R ≤ i) → B q i = A q i := r3
    have r4 : ∀ q i, (q = 4 ∨ q = 5 ∨ q = 6) → i0 ≤ i → i < R - 1 → B q i = A q (i + 1) := r4
    have gv : ∀ q i, (q = 4 ∨ q = 5 ∨ q = 6) → i < m → B q i = A q (if i < i0 then i else i + 1) := fun q i hq hi => by
      by_cases e : i < i0
      · rw [if_pos e]; exact r3 q i (Or.inl e)
      · rw [if_neg e]; exact r4 q i hq (by omega) (by omega)
    obtain ⟨b1, b2, b3⟩ := VW_sub (C' := B 4) (D' := B 5) (V' := B 6) (m' := m) (i0 := i0) (fun i => if i < i0 then i else i + 1) hR h hi0 e0 (fun i hi => by show (if i < i0 then i else i + 1) < R ∧ (if i < i0 then i else i + 1) ≠ i0; split <;> omega) (fun i j hi hj w => by
      have w : (if i < i0 then i else i + 1) = (if j < i0 then j else j + 1) := w
      split at w <;> split at w <;> omega) (fun k hk hne => by
      by_cases e : k < i0
      · exact ⟨k, by omega, if_pos e⟩
      · exact ⟨k - 1, by omega, by show (if k - 1 < i0 then k - 1 else k - 1 + 1) = k; rw [if_neg (by omega)]; omega⟩) (fun i hi => ⟨gv 4 i (Or.inl rfl) hi, gv 5 i (Or.inr (Or.inl rfl)) hi, gv 6 i (Or.inr (Or.inr rfl)) hi⟩)
    by_cases hv : v = 0
    · exact ⟨B, m, by rw [if_pos hv], by rw [if_pos hv], by unfold ctR; rw [if_neg h0, if_pos hv, r1], b1, by rw [hv]; exact b2, r2, fun w => absurd w h0, fun _ => ⟨r1, by omega⟩⟩
    · obtain ⟨a1, a2⟩ := add B m (fU f c day 0) hv b1 b2 b3
      rw [fU_fU] at a2
      exact ⟨_, m + 1, by rw [if_neg hv], by rw [if_neg hv], by unfold ctR; rw [if_neg h0, if_neg hv]; omega, a1, a2, oth B m r2, fun w => absurd w h0, fun _ => ⟨r1, by omega⟩⟩
theorem G_put (d : Nat) (z : ZS) (m : Nat) (f : Int32 → Int32 → Int32) (hT : RT z m (zI z 11) (zI z 12) (zI z 13)) (hR : RD (zI z 11) (zI z 12) (zI z 13) m) (h : VW (zI z 11) (zI z 12) (zI z 13) m f) (c day v : Int32) (hf : ¬ (f c day = 0 ∧ ¬ v = 0 ∧ m = 30)) : ∃ z1, Rn (d + 2) i_G_put [.ref 10, .int c, .int day, .int v] z none z1 ∧ (z1.1 = z.1 ∧ z1.2.1 = z.2.1 ∧ z1.2.2.1 = z.2.2.1 ∧ z1.2.2.2.1 = z.2.2.2.1 ∧ zP z1 = zP z ∧ ∀ a j, ¬ (10 ≤ a ∧ a < 14) → zI z1 a j = zI z a j) ∧ RT z1 (ctR (f c day) v m) (zI z1 11) (zI z1 12) (zI z1 13) ∧ RD (zI z1 11) (zI z1 12) (zI z1 13) (ctR (f c day) v m) ∧ VW (zI z1 11) (zI z1 12) (zI z1 13) (ctR (f c day) v m) (fU f c day v) := by
  have ri := G_indexOf d z m _ _ _ hT c day
  have rf := G_isFull d z m _ _ _ hT
  obtain ⟨h1, h2, h3, h4, h5, h6, h7, h8, h9, _⟩ := hT
  by_cases h0 : f c day = 0
  · have nm := VW_m hR h h0
    have en : fiR (zI z 11) (zI z 12) c day m = none := (ff_none _ _ m).mpr (fun j hj w => nm j hj (of_decide_eq_true w))
    rw [en] at ri
    by_cases hv : v = 0
    · have ec : ctR (f c day) v m = m := by unfold ctR; rw [if_pos h0, if_pos hv]
      rw [ec]
      refine ⟨z, rn_i (full := cd_52) h1 (ok_n rfl) rfl (fun K hK => hK 0 _ _ _ ⟨_, _, ri, ⟨fun c2 => ⟨fun c3 => ⟨rfl, rfl⟩, fun c3 => absurd hv c3⟩, fun c2 => absurd (show (-1 : Int32) < 0 by decide) c2⟩⟩), ⟨rfl, rfl, rfl, rfl, rfl, fun _ _ _ => rfl⟩, ⟨h1, h2, h3, h4, h5, h6, h7, h8, h9, rfl, rfl, rfl⟩, hR, by rw [hv]; exact VW_0 h h0⟩
    · have m30 : m < 30 := by
        rcases Nat.lt_or_ge m 30 with w | w
        · exact w
        · exact absurd ⟨h0, hv, by omega⟩ hf
      have ec : ctR (f c day) v m = m + 1 := by unfold ctR; rw [if_pos h0, if_neg hv]
      rw [ec]
      rw [if_neg (by omega)] at rf
      have cm : (zI z 10 3).toNatClampNeg = m := by rw [h8]; exact nI_clamp (by omega)
      have vm : ∀ a, ln z a = 30 → vp_in (zI z 10 3) (ln z a) := fun a ha => by rw [ha, h8]; exact vp_in_nI m30 (by decide)
      obtain ⟨a1, a2⟩ := VW_add (C' := zI (sI (sI (sI (sI z 11 m c) 12 m day) 13 m v) 10 3 (nI (m + 1))) 11) (D' := zI (sI (sI (sI (sI z 11 m c) 12 m day) 13 m v) 10 3 (nI (m + 1))) 12) (V' := zI (sI (sI (sI (sI z 11 m c) 12 m day) 13 m v) 10 3 (nI (m + 1))) 13) hv hR h nm (fun i hi => ⟨by rw [sI_n (by omega), sI_n (by omega), sI_n (by omega), sI_n (by omega)], by rw [sI_n (by omega), sI_n (by omega), sI_n (by omega), sI_n (by omega)], by rw [sI_n (by omega), sI_n (by omega), sI_n (by omega), sI_n (by omega)]⟩) ⟨by rw [sI_n (by omega), sI_n (by omega), sI_n (by omega), sI_e], by rw [sI_n (by omega), sI_n (by omega), sI_e], by rw [sI_n (by omega), sI_e]⟩
      refine ⟨sI (sI (sI (sI z 11 m c) 12 m day) 13 m v) 10 3 (nI (m + 1)), rn_i (full := cd_52) h1 (ok_n rfl) rfl (fun K hK => hK 0 _ _ _ ⟨_, _, ri, ⟨fun c2 => ⟨fun c3 => absurd c3 hv, fun c3 => ⟨_, _, rf, ⟨fun c6 => ⟨⟨h1, h2⟩, ⟨h1, ⟨⟨h5.1, vm 11 h5.2⟩, ⟨⟨h1, h3⟩, ⟨h1, ⟨⟨h6.1, ?_⟩, ⟨⟨h1, h4⟩, ⟨h1, ⟨⟨h7.1, ?_⟩, ⟨h1, ⟨h1, ⟨rfl, ?_⟩⟩⟩⟩⟩⟩⟩⟩⟩⟩⟩⟩, fun c6 => absurd rfl c6⟩⟩⟩, fun c2 => absurd (show (-1 : Int32) < 0 by decide) c2⟩⟩), ⟨rfl, rfl, rfl, rfl, rfl, fun a j w => by rw [sI_n (by omega), sI_n (by omega), sI_n (by omega), sI_n (by omega)]⟩, ⟨h1, h2, h3, h4, h5, h6, h7, sI_e, by omega, rfl, rfl, rfl⟩, a1, a2⟩
      · show vp_in (zI (sI z 11 (zI z 10 3).toNatClampNeg c) 10 3) (ln z 12)
        rw [sI_n (by omega)]; exact vm 12 h6.2
      · show vp_in (zI (sI (sI z 11 (zI z 10 3).toNatClampNeg c) 12 (zI (sI z 11 (zI z 10 3).toNatClampNeg c) 10 3).toNatClampNeg day) 10 3) (ln z 13)
        rw [sI_n (by omega), sI_n (by omega)]; exact vm 13 h7.2
      · show sI (sI (sI (sI z 11 (zI z 10 3).toNatClampNeg c) 12 (zI (sI z 11 (zI z 10 3).toNatClampNeg c) 10 3).toNatClampNeg day) 13 (zI (sI (sI z 11 (zI z 10 3).toNatClampNeg c) 12 (zI (sI z 11 (zI z 10 3).toNatClampNeg c) 10 3).toNatClampNeg day) 10 3).toNatClampNeg v) 10 3 (zI (sI (sI (sI z 11 (zI z 10 3).toNatClampNeg c) 12 (zI (sI z 11 (zI z 10 3).toNatClampNeg c) 10 3).toNatClampNeg day) 13 (zI (sI (sI z 11 (zI z 10 3).toNatClampNeg c) 12 (zI (sI z 11 (zI z 10 3).toNatClampNeg c) 10 3).toNatClampNeg day) 10 3).toNatClampNeg v) 10 3 + 1) = _
        have e1 : ∀ q w, zI (sI z 11 q w) 10 3 = zI z 10 3 := fun q w => sI_n (by omega)
        have e2 : ∀ y q w, zI (sI y 12 q w) 10 3 = zI y 10 3 := fun y q w => sI_n (by omega)
        have e3 : ∀ y q w, zI (sI y 13 q w) 10 3 = zI y 10 3 := fun y q w => sI_n (by omega)
        rw [e3, e2, e1, cm, h8, nI_succ]
  · obtain ⟨i0, hi0, e0⟩ := VW_x h h0
    cases en : fiR (zI z 11) (zI z 12) c day m with
    | none => exact absurd (decide_eq_true e0) ((ff_none _ _ m).mp en i0 hi0)
    | some i =>
      obtain ⟨j1, j2, j3⟩ := fiR_s en
      have ei : i = i0 := hR.2 i i0 j1 hi0 (j2.trans e0.1.symm) (j3.trans e0.2.symm)
      subst ei
      rw [en] at ri
      have ri : Rn (d + 1) i_G_indexOf [.ref 10, .int c, .int day] z (some (.int (nI i))) z := ri
      have ci : (nI i).toNatClampNeg = i := nI_clamp (by omega)
      have np : ¬ nI i < 0 := nI_pos (by omega)
      by_cases hv : v = 0
      · have ec : ctR (f c day) v m = m - 1 := by unfold ctR; rw [if_neg h0, if_pos hv]
        rw [ec]
        have em : zI z 10 3 - 1 = nI (m - 1) := by rw [h8]; rw [show m = (m - 1) + 1 by omega, nI_pred]; rfl
        have cm : (zI z 10 3 - 1).toNatClampNeg = m - 1 := by rw [em]; exact nI_clamp (by omega)
        have vm : ∀ a, ln z a = 30 → vp_in (zI z 10 3 - 1) (ln z a) := fun a ha => by rw [ha, em]; exact vp_in_nI (by omega) (by decide)
        have vi : ∀ a, ln z a = 30 → vp_in (nI i) (ln z a) := fun a ha => by rw [ha]; exact vp_in_nI (by omega) (by decide)
        have rc : Rn (d + 1) i_G_change [.ref 10, .int (nI i), .int v] z none (sI (sI (sI (sI z 10 3 (nI (m - 1))) 11 i (zI z 11 (m - 1))) 12 i (zI z 12 (m - 1))) 13 i (zI z 13 (m - 1))) := by
          have x1 : zI (sI z 10 3 (zI z 10 3 - 1)) 10 3 = zI z 10 3 - 1 := sI_e
          have x2 : ∀ y a q w, a ≠ 10 → zI (sI y a q w) 10 3 = zI y 10 3 := fun y a q w ha => sI_n (fun q => ha q.1.symm)
          refine rn_i (full := cd_54) h1 (ok_n rfl) rfl (fun K hK => hK 0 _ _ _ ⟨fun c1 => ⟨h1, ⟨h1, ⟨⟨h1, h2⟩, ⟨⟨h1, h2⟩, ⟨h1, ⟨⟨h5.1, ?_⟩, ⟨⟨h5.1, vi 11 h5.2⟩, ⟨⟨h1, h3⟩, ⟨⟨h1, h3⟩, ⟨h1, ⟨⟨h6.1, ?_⟩, ⟨⟨h6.1, vi 12 h6.2⟩, ⟨⟨h1, h4⟩, ⟨⟨h1, h4⟩, ⟨h1, ⟨⟨h7.1, ?_⟩, ⟨⟨h7.1, vi 13 h7.2⟩, ⟨rfl, ?_⟩⟩⟩⟩⟩⟩⟩⟩⟩⟩⟩⟩⟩⟩⟩⟩⟩⟩, fun c1 => absurd hv c1⟩)
          · show vp_in (zI (sI z 10 3 (zI z 10 3 - 1)) 10 3) (ln z 11)
            rw [x1]; exact vm 11 h5.2
          · show vp_in (zI (sI (sI z 10 3 (zI z 10 3 - 1)) 11 (nI i).toNatClampNeg _) 10 3) (ln z 12)
            rw [x2 _ _ _ _ (by decide), x1]; exact vm 12 h6.2
          · show vp_in (zI (sI (sI (sI z 10 3 (zI z 10 3 - 1)) 11 (nI i).toNatClampNeg _) 12 (nI i).toNatClampNeg _) 10 3) (ln z 13)
            rw [x2 _ _ _ _ (by decide), x2 _ _ _ _ (by decide), x1]; exact vm 13 h7.2
          · show sI (sI (sI (sI z 10 3 (zI z 10 3 - 1)) 11 (nI i).toNatClampNeg (zI (sI z 10 3 (zI z 10 3 - 1)) 11 (zI (sI z 10 3 (zI z 10 3 - 1)) 10 3).toNatClampNeg)) 12 (nI i).toNatClampNeg (zI (sI (sI z 10 3 (zI z 10 3 - 1)) 11 (nI i).toNatClampNeg (zI (sI z 10 3 (zI z 10 3 - 1)) 11 (zI (sI z 10 3 (zI z 10 3 - 1)) 10 3).toNatClampNeg)) 12 (zI (sI (sI z 10 3 (zI z 10 3 - 1)) 11 (nI i).toNatClampNeg (zI (sI z 10 3 (zI z 10 3 - 1)) 11 (zI (sI z 10 3 (zI z 10 3 - 1)) 10 3).toNatClampNeg)) 10 3).toNatClampNeg)) 13 (nI i).toNatClampNeg (zI (sI (sI (sI z 10 3 (zI z 10 3 - 1)) 11 (nI i).toNatClampNeg (zI (sI z 10 3 (zI z 10 3 - 1)) 11 (zI (sI z 10 3 (zI z 10 3 - 1)) 10 3).toNatClampNeg)) 12 (nI i).toNatClampNeg (zI (sI (sI z 10 3 (zI z 10 3 - 1)) 11 (nI i).toNatClampNeg (zI (sI z 10 3 (zI z 10 3 - 1)) 11 (zI (sI z 10 3 (zI z 10 3 - 1)) 10 3).toNatClampNeg)) 12 (zI (sI (sI z 10 3 (zI z 10 3 - 1)) 11 (nI i).toNatClampNeg (zI (sI z 10 3 (zI z 10 3 - 1)) 11 (zI (sI z 10 3 (zI z 10 3 - 1)) 10 3).toNatClampNeg)) 10 3).toNatClampNeg)) 13 (zI (sI (sI (sI z 10 3 (zI z 10 3 - 1)) 11 (nI i).toNatClampNeg (zI (sI z 10 3 (zI z 10 3 - 1)) 11 (zI (sI z 10 3 (zI z 10 3 - 1)) 10 3).toNatClampNeg)) 12 (nI i).toNatClampNeg (zI (sI (sI z 10 3 (zI z 10 3 - 1)) 11 (nI i).toNatClampNeg (zI (sI z 10 3 (zI z 10 3 - 1)) 11 (zI (sI z 10 3 (zI z 10 3 - 1)) 10 3).toNatClampNeg)) 12 (zI (sI (sI z 10 3 (zI z 10 3 - 1)) 11 (nI i).toNatClampNeg (zI (sI z 10 3 (zI z 10 3 - 1)) 11 (zI (sI z 10 3 (zI z 10 3 - 1)) 10 3).toNatClampNeg)) 10 3).toNatClampNeg)) 10 3).toNatClampNeg) = _
            have y1 : ∀ a q w, a ≠ 10 → zI (sI z 10 3 w) a q = zI z a q := fun a q w ha => sI_n (fun q => ha q.1)
            have y2 : ∀ y q w j, zI (sI y 11 q w) 12 j = zI y 12 j := fun y q w j => sI_n (by omega)
            have y3 : ∀ y q w j, zI (sI y 11 q w) 13 j = zI y 13 j := fun y q w j => sI_n (by omega)
            have y4 : ∀ y q w j, zI (sI y 12 q w) 13 j = zI y 13 j := fun y q w j => sI_n (by omega)
            have x1' : zI (sI z 10 3 (nI (m - 1))) 10 3 = nI (m - 1) := sI_e
            have cm' : (nI (m - 1)).toNatClampNeg = m - 1 := nI_clamp (by omega)
            simp only [x1, x1', cm', x2 _ 11 _ _ (by decide), x2 _ 12 _ _ (by decide), y2, y3, y4, y1 11 _ _ (by decide), y1 12 _ _ (by decide), y1 13 _ _ (by decide), ci, cm, em]
        have ss : ∀ a j, a = 11 ∨ a = 12 ∨ a = 13 → zI (sI (sI (sI (sI z 10 3 (nI (m - 1))) 11 i (zI z 11 (m - 1))) 12 i (zI z 12 (m - 1))) 13 i (zI z 13 (m - 1))) a j = zI z a (if j = i then m - 1 else j) := fun a j ha => by
          by_cases e : j = i
          · rw [if_pos e, e]
            rcases ha with q | q | q <;> subst q
            · rw [sI_n (by omega), sI_n (by omega), sI_e]
            · rw [sI_n (by omega), sI_e]
            · rw [sI_e]
          · rw [if_neg e, sI_n (by omega), sI_n (by omega), sI_n (by omega), sI_n (by omega)]
        obtain ⟨b1, b2, b3⟩ := VW_sub (C' := zI (sI (sI (sI (sI z 10 3 (nI (m - 1))) 11 i (zI z 11 (m - 1))) 12 i (zI z 12 (m - 1))) 13 i (zI z 13 (m - 1))) 11) (D' := zI (sI (sI (sI (sI z 10 3 (nI (m - 1))) 11 i (zI z 11 (m - 1))) 12 i (zI z 12 (m - 1))) 13 i (zI z 13 (m - 1))) 12) (V' := zI (sI (sI (sI (sI z 10 3 (nI (m - 1))) 11 i (zI z 11 (m - 1))) 12 i (zI z 12 (m - 1))) 13 i (zI z 13 (m - 1))) 13) (m' := m - 1) (i0 := i) (fun j => if j = i then m - 1 else j) hR h hi0 e0 (fun j hj => by show (if j = i then m - 1 else j) < m ∧ (if j = i then m - 1 else j) ≠ i; split <;> omega) (fun a b ha hb w => by
          have w : (if a = i then m - 1 else a) = (if b = i then m - 1 else b) := w
          split at w <;> split at w <;> omega) (fun k hk hne => by
          by_cases e : k = m - 1
          · exact ⟨i, by omega, by show (if i = i then m - 1 else i) = k; rw [if_pos rfl]; omega⟩
          · exact ⟨k, by omega, if_neg hne⟩) (fun j hj => ⟨ss 11 j (Or.inl rfl), ss 12 j (Or.inr (Or.inl rfl)), ss 13 j (Or.inr (Or.inr rfl))⟩)
        refine ⟨_, rn_i (full := cd_52) h1 (ok_n rfl) rfl (fun K hK => hK 0 _ _ _ ⟨_, _, ri, ⟨fun c2 => absurd c2 np, fun c2 => ⟨_, _, rc, rfl, rfl⟩⟩⟩), ⟨rfl, rfl, rfl, rfl, rfl, fun a j w => by rw [sI_n (by omega), sI_n (by omega), sI_n (by omega), sI_n (by omega)]⟩, ⟨h1, h2, h3, h4, h5, h6, h7, by rw [sI_n (by omega), sI_n (by omega), sI_n (by omega), sI_e], by omega, rfl, rfl, rfl⟩, b1, by rw [hv]; exact b2⟩
      · have ec : ctR (f c day) v m = m := by unfold ctR; rw [if_neg h0, if_neg hv]
        rw [ec]
        have rc : Rn (d + 1) i_G_change [.ref 10, .int (nI i), .int v] z none (sI z 13 i v) := by
          refine rn_i (full := cd_54) h1 (ok_n rfl) rfl (fun K hK => hK 0 _ _ _ ⟨fun c1 => absurd c1 hv, fun c1 => ⟨⟨h1, h4⟩, ⟨⟨h7.1, ?_⟩, ⟨rfl, ?_⟩⟩⟩⟩)
          · show vp_in (nI i) (ln z 13)
            rw [h7.2]; exact vp_in_nI (by omega) (by decide)
          · show sI z 13 (nI i).toNatClampNeg v = _
            rw [ci]
        have e11 : zI (sI z 13 i v) 11 = zI z 11 := funext (fun j => sI_n (by omega))
        have e12 : zI (sI z 13 i v) 12 = zI z 12 := funext (fun j => sI_n (by omega))
        obtain ⟨b1, b2⟩ := VW_set (V' := zI (sI z 13 i v) 13) hv hR h hi0 e0 (fun j => by
          show (if 13 = 13 ∧ j = i then v else zI z 13 j) = _
          by_cases e : j = i
          · rw [if_pos ⟨rfl, e⟩, if_pos e]
          · rw [if_neg (fun w => e w.2), if_neg e])
        refine ⟨_, rn_i (full := cd_52) h1 (ok_n rfl) rfl (fun K hK => hK 0 _ _ _ ⟨_, _, ri, ⟨fun c2 => absurd c2 np, fun c2 => ⟨_, _, rc, rfl, rfl⟩⟩⟩), ⟨rfl, rfl, rfl, rfl, rfl, fun a j w => sI_n (by omega)⟩, ⟨h1, h2, h3, h4, h5, h6, h7, (sI_n (by omega)).trans h8, h9, rfl, rfl, rfl⟩, by rw [e11, e12]; exact b1, by rw [e11, e12]; exact b2⟩
