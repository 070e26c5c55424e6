/-! Cards as the class keeps them, frames, and reckonCard by the book. Own work. -/
theorem i32_ss (a b c : Int32) : a - (b + c) = a - b - c := by
  rw [Int32.sub_eq_add_neg, Int32.neg_add, Int32.sub_eq_add_neg, Int32.sub_eq_add_neg, Int32.sub_eq_add_neg, Int32.add_assoc]
theorem i32_22 (a h : Int32) : a + 2 + h - 2 = a + h := by
  rw [Int32.add_assoc, Int32.add_comm 2 h, ← Int32.add_assoc, Int32.add_sub_cancel]
theorem i32_2h (a h : Int32) : a + 2 + h = a + h + 2 := by
  rw [Int32.add_assoc, Int32.add_comm 2 h, ← Int32.add_assoc]
theorem aj_ad (u a h : Int32) : ajF u (a + 2 + h) = adF u (a + h) := by
  unfold ajF adF
  rw [i32_22, i32_2h]
/-- card k lies at x -/
def BCx (z : ZS) (A : Nat → Nat → Int32) (k x : Nat) : Prop :=
  75 ≤ x ∧ x + (if A 8 k = 2 then 2 else 3) ≤ zn z ∧ tg z x = 11 ∧ zI z x 0 = nI k ∧ zI z x 1 = A 8 k ∧ zI z x 3 = A 9 k ∧ zI z x 4 = A 10 k ∧ zI z x 6 = A 12 k ∧ zI z x 9 = A 13 k ∧ zI z x 10 = A 14 k ∧ (∃ p, p < 12 ∧ A 9 k = nI p ∧ zP z x 2 = 34 + p) ∧
  ((A 8 k = 2 ∧ zP z x 5 = 0) ∨ ((A 8 k = 0 ∨ A 8 k = 1) ∧ CK A k ∧ cN A k < 4 ∧ A 11 k = nI (cN A k) ∧ zP z x 5 = 22 + 3 * cN A k ∧ zP z x 7 = x + 1 ∧ zP z x 8 = x + 2 ∧ (tg z (x + 1) = 1 ∧ ln z (x + 1) = lsN A k - fsN A k) ∧ (tg z (x + 2) = 1 ∧ ln z (x + 2) = lsN A k - fsN A k) ∧ ∀ j, j < lsN A k - fsN A k → zI z (x + 1) j = A 15 (18 * k + (fsN A k + j))))
def CB (z : ZS) (cid : Nat → Nat) (A : Nat → Nat → Int32) (n : Nat) : Prop := (∀ k, k < n → BCx z A k (cid k)) ∧ (∀ j k, j < k → k < n → cid j + (if A 8 j = 2 then 2 else 3) ≤ cid k)
/-- the courses -/
def CS (z : ZS) (A : Nat → Nat → Int32) : Prop := ∀ c, c < 4 → tg z (22 + 3 * c) = 12 ∧ zP z (22 + 3 * c) 3 = 23 + 3 * c ∧ zP z (22 + 3 * c) 4 = 24 + 3 * c ∧ (tg z (23 + 3 * c) = 1 ∧ ln z (23 + 3 * c) = 18) ∧ (tg z (24 + 3 * c) = 1 ∧ ln z (24 + 3 * c) = 18) ∧ zI z (22 + 3 * c) 0 = nI c ∧ zI z (22 + 3 * c) 1 = A 0 c ∧ zI z (22 + 3 * c) 2 = A 1 c ∧ (∀ h, h < 18 → zI z (23 + 3 * c) h = A 2 (18 * c + h)) ∧ (∀ h, h < 18 → zI z (24 + 3 * c) h = A 3 (18 * c + h))
theorem CS_CO {z : ZS} {A : Nat → Nat → Int32} (h : CS z A) (c : Nat) (hc : c < 4) : CO z (22 + 3 * c) (A 0 c) (A 1 c) (fun h => A 2 (18 * c + h)) (fun h => A 3 (18 * c + h)) := by
  obtain ⟨h1, h2, h3, h4, h5, h6, h7, h8, h9, h10⟩ := h c hc
  exact ⟨h1, h7, h8, by rw [h2]; exact h4, by rw [h3]; exact h5, fun i hi => by rw [h2]; exact h9 i hi, fun i hi => by rw [h3]; exact h10 i hi⟩
theorem BC_HC {z : ZS} {A : Nat → Nat → Int32} {k x : Nat} (hS : CS z A) (h : BCx z A k x) (h2 : ¬ A 8 k = 2) : HC z x (x + 2) (22 + 3 * cN A k) (fsN A k) (lsN A k - fsN A k) (fun j => A 15 (18 * k + (fsN A k + j))) (A 0 (cN A k)) (A 1 (cN A k)) (fun h => A 2 (18 * cN A k + h)) (fun h => A 3 (18 * cN A k + h)) := by
  obtain ⟨b1, b2, b3, b4, b5, b6, b7, b8, b9, b10, b11, b12⟩ := h
  rcases b12 with w | ⟨c1, c2, c3, c4, c5, c6, c7, c8, c9, c10⟩
  · exact absurd w.1 h2
  have hfl : fsN A k ≤ lsN A k := by unfold lsN; omega
  obtain ⟨k1, k2, k3⟩ := c2
  obtain ⟨s1, s2, s3, s4⟩ := hS (cN A k) c3
  refine ⟨b3, by rw [b8, k1], by rw [c6]; exact c8, c7, c9, fun j hj => by rw [c6]; exact c10 j hj, by omega, c5, by omega, CS_CO hS _ c3, by omega, by omega, by omega, by omega, by omega, by rw [s2]; omega, by rw [s2]; omega, by rw [s3]; omega, by rw [s3]; omega⟩
/-- where settling writes -/
def WI (_ : Nat) (cid : Nat → Nat) (lp : List Nat) (A : Nat → Nat → Int32) (a j : Nat) : Prop := (a = 14 ∧ j = 2) ∨ a = 15 ∨ a = 16 ∨ (∃ k, k ∈ lp ∧ a = cid k ∧ (j = 12 ∨ j = 13 ∨ j = 16 ∨ j = 17)) ∨ (∃ k, k ∈ lp ∧ ¬ A 8 k = 2 ∧ a = cid k + 2)
def WP (p : Nat) (cid : Nat → Nat) (lp : List Nat) (a j : Nat) : Prop := (a = 34 + p ∧ j = 1) ∨ (∃ k, k ∈ lp ∧ a = cid k ∧ (j = 14 ∨ j = 15))
def Fz (p : Nat) (cid : Nat → Nat) (lp : List Nat) (A : Nat → Nat → Int32) (z z' : ZS) : Prop := z'.1 = z.1 ∧ z'.2.1 = z.2.1 ∧ z'.2.2.1 = z.2.2.1 ∧ z'.2.2.2.1 = z.2.2.2.1 ∧ (∀ a j, ¬ WI p cid lp A a j → zI z' a j = zI z a j) ∧ (∀ a j, ¬ WP p cid lp a j → zP z' a j = zP z a j)
theorem Fz_r (p : Nat) (cid : Nat → Nat) (lp : List Nat) (A : Nat → Nat → Int32) (z : ZS) : Fz p cid lp A z z := ⟨rfl, rfl, rfl, rfl, fun _ _ _ => rfl, fun _ _ _ => rfl⟩
theorem Fz_t {p : Nat} {cid : Nat → Nat} {lp : List Nat} {A : Nat → Nat → Int32} {z z' z'' : ZS} (h : Fz p cid lp A z z') (h' : Fz p cid lp A z' z'') : Fz p cid lp A z z'' := ⟨h'.1.trans h.1, h'.2.1.trans h.2.1, h'.2.2.1.trans h.2.2.1, h'.2.2.2.1.trans h.2.2.2.1, fun a j w => (h'.2.2.2.2.1 a j w).trans (h.2.2.2.2.1 a j w), fun a j w => (h'.2.2.2.2.2 a j w).trans (h.2.2.2.2.2 a j w)⟩
/-- ids of cards apart from one another -/
def SPC (cid : Nat → Nat) (A : Nat → Nat → Int32) (n : Nat) : Prop := (∀ k, k < n → 75 ≤ cid k) ∧ (∀ j k, j < k → k < n → cid j + (if A 8 j = 2 then 2 else 3) ≤ cid k)
theorem CB_S {z : ZS} {cid : Nat → Nat} {A : Nat → Nat → Int32} {n : Nat} (h : CB z cid A n) : SPC cid A n := ⟨fun k hk => (h.1 k hk).1, h.2⟩
theorem sp_ne {cid : Nat → Nat} {A : Nat → Nat → Int32} {n : Nat} (h : SPC cid A n) {j k : Nat} (hj : j < n) (hk : k < n) (ne : j ≠ k) : cid j ≠ cid k ∧ (¬ A 8 k = 2 → cid j ≠ cid k + 1 ∧ cid j ≠ cid k + 2 ∧ (¬ A 8 j = 2 → cid j + 1 ≠ cid k + 2 ∧ cid j + 2 ≠ cid k + 2 ∧ cid j + 2 ≠ cid k + 1)) := by
  rcases Nat.lt_or_ge j k with w | w
  · have := h.2 j k w hk
    by_cases e : A 8 j = 2
    · rw [if_pos e] at this
      exact ⟨by omega, fun _ => ⟨by omega, by omega, fun q => absurd e q⟩⟩
    · rw [if_neg e] at this
      exact ⟨by omega, fun _ => ⟨by omega, by omega, fun _ => ⟨by omega, by omega, by omega⟩⟩⟩
  · have := h.2 k j (by omega) hj
    by_cases e : A 8 k = 2
    · rw [if_pos e] at this
      exact ⟨by omega, fun q => absurd e q⟩
    · rw [if_neg e] at this
      exact ⟨by omega, fun _ => ⟨by omega, by omega, fun _ => ⟨by omega, by omega, by omega⟩⟩⟩
section FW
variable {p n : Nat} {cid : Nat → Nat} {lp : List Nat} {A : Nat → Nat → Int32}
theorem w_lo (h : SPC cid A n) (hl : ∀ k, k ∈ lp → k < n) {a j : Nat} (ha : a < 75) (n14 : ¬ (a = 14 ∧ j = 2)) (n15 : a ≠ 15) (n16 : a ≠ 16) (np : ¬ (a = 34 + p ∧ j = 2)) : ¬ WI p cid lp A a j := by
  rintro (w | w | w | ⟨k, hk, e, _⟩ | ⟨k, hk, _, e⟩)
  · exact n14 w
  · exact n15 w
  · exact n16 w
  · have := h.1 k (hl k hk); omega
  · have := h.1 k (hl k hk); omega
theorem w_card (h : SPC cid A n) (hl : ∀ k, k ∈ lp → k < n) (hp : p < 12) {k j : Nat} (hk : k < n) (hj : (j ≠ 12 ∧ j ≠ 13 ∧ j ≠ 16 ∧ j ≠ 17) ∨ ¬ k ∈ lp) : ¬ WI p cid lp A (cid k) j := by
  have h75 := h.1 k hk
  rintro (w | w | w | ⟨k', hk', e, w⟩ | ⟨k', hk', w, e⟩)
  · omega
  · omega
  · omega
  · by_cases ek : k = k'
    · subst ek
      rcases hj with q | q
      · omega
      · exact q hk'
    · exact (sp_ne h hk (hl k' hk') ek).1 e
  · by_cases ek : k = k'
    · subst ek; omega
    · exact ((sp_ne h hk (hl k' hk') ek).2 w).2.1 e
theorem w_shots (h : SPC cid A n) (hl : ∀ k, k ∈ lp → k < n) (hp : p < 12) {k j : Nat} (hk : k < n) (h2 : ¬ A 8 k = 2) : ¬ WI p cid lp A (cid k + 1) j := by
  have h75 := h.1 k hk
  rintro (w | w | w | ⟨k', hk', e, w⟩ | ⟨k', hk', w, e⟩)
  · omega
  · omega
  · omega
  · by_cases ek : k = k'
    · subst ek; omega
    · exact ((sp_ne h (hl k' hk') hk (Ne.symm ek)).2 h2).1 e.symm
  · by_cases ek : k = k'
    · subst ek; omega
    · exact ((sp_ne h hk (hl k' hk') ek).2 w).2.2 h2 |>.1 e
theorem w_share (h : SPC cid A n) (hl : ∀ k, k ∈ lp → k < n) (hp : p < 12) {k j : Nat} (hk : k < n) (h2 : ¬ A 8 k = 2) (hn : ¬ k ∈ lp) : ¬ WI p cid lp A (cid k + 2) j := by
  have h75 := h.1 k hk
  rintro (w | w | w | ⟨k', hk', e, w⟩ | ⟨k', hk', w, e⟩)
  · omega
  · omega
  · omega
  · by_cases ek : k = k'
    · subst ek; omega
    · exact ((sp_ne h (hl k' hk') hk (Ne.symm ek)).2 h2).2.1 e.symm
  · by_cases ek : k = k'
    · subst ek; exact hn hk'
    · exact ((sp_ne h hk (hl k' hk') ek).2 w).2.2 h2 |>.2.1 e
theorem v_lo (h : SPC cid A n) (hl : ∀ k, k ∈ lp → k < n) {a j : Nat} (ha : a < 75) (np : ¬ (a = 34 + p ∧ j = 1)) : ¬ WP p cid lp a j := by
  rintro (w | ⟨k, hk, e, _⟩)
  · exact np w
  · have := h.1 k (hl k hk); omega
theorem v_card (h : SPC cid A n) (hl : ∀ k, k ∈ lp → k < n) (hp : p < 12) {k j : Nat} (hk : k < n) (hj : (j ≠ 14 ∧ j ≠ 15) ∨ ¬ k ∈ lp) : ¬ WP p cid lp (cid k) j := by
  have h75 := h.1 k hk
  rintro (w | ⟨k', hk', e, w⟩)
  · omega
  · by_cases ek : k = k'
    · subst ek
      rcases hj with q | q
      · omega
      · exact q hk'
    · exact (sp_ne h hk (hl k' hk') ek).1 e
theorem Fz_CB (hp : p < 12) {z z' : ZS} (hl : ∀ k, k ∈ lp → k < n) (hF : Fz p cid lp A z z') (h : CB z cid A n) : CB z' cid A n := by
  have hS := CB_S h
  obtain ⟨f1, f2, f3, f4, f5, f6⟩ := hF
  refine ⟨fun k hk => ?_, h.2⟩
  obtain ⟨b1, b2, b3, b4, b5, b6, b7, b8, b9, b10, b11, b12⟩ := h.1 k hk
  have ti : ∀ j, j ≠ 12 → j ≠ 13 → j ≠ 16 → j ≠ 17 → zI z' (cid k) j = zI z (cid k) j := fun j a b c d => f5 _ _ (w_card hS hl hp hk (Or.inl ⟨a, b, c, d⟩))
  have tp : ∀ j, j ≠ 14 → j ≠ 15 → zP z' (cid k) j = zP z (cid k) j := fun j a b => f6 _ _ (v_card hS hl hp hk (Or.inl ⟨a, b⟩))
  have tt : tg z' = tg z := f3
  have tl : ln z' = ln z := f4
  have tn : zn z' = zn z := f1
  refine ⟨b1, by rw [tn]; exact b2, by rw [tt]; exact b3, by rw [ti 0 (by decide) (by decide) (by decide) (by decide)]; exact b4, by rw [ti 1 (by decide) (by decide) (by decide) (by decide)]; exact b5, by rw [ti 3 (by decide) (by decide) (by decide) (by decide)]; exact b6, by rw [ti 4 (by decide) (by decide) (by decide) (by decide)]; exact b7, by rw [ti 6 (by decide) (by decide) (by decide) (by decide)]; exact b8, by rw [ti 9 (by decide) (by decide) (by decide) (by decide)]; exact b9, by rw [ti 10 (by decide) (by decide) (by decide) (by decide)]; exact b10, by rw [tp 2 (by decide) (by decide)]; exact b11, ?_⟩
  rw [tp 5 (by decide) (by decide), tp 7 (by decide) (by decide), tp 8 (by decide) (by decide), tt, tl]
  rcases b12 with w | ⟨c1, c2, c3, c4, c5, c6, c7, c8, c9, c10⟩
  · exact Or.inl w
  · refine Or.inr ⟨c1, c2, c3, c4, c5, c6, c7, c8, c9, fun j hj => ?_⟩
    rw [f5 _ _ (w_shots hS hl hp hk (fun e => by rcases c1 with q | q <;> (rw [q] at e; exact absurd e (by decide))))]
    exact c10 j hj
theorem Fz_CS (hp : p < 12) {z z' : ZS} (hS : SPC cid A n) (hl : ∀ k, k ∈ lp → k < n) (hF : Fz p cid lp A z z') (h : CS z A) : CS z' A := by
  obtain ⟨f1, f2, f3, f4, f5, f6⟩ := hF
  have tt : tg z' = tg z := f3
  have tl : ln z' = ln z := f4
  intro c hc
  have ti : ∀ a j, 22 ≤ a → a < 34 → zI z' a j = zI z a j := fun a j a1 a2 => f5 _ _ (w_lo hS hl (by omega) (by omega) (by omega) (by omega) (by omega))
  have tp : ∀ a j, 22 ≤ a → a < 34 → zP z' a j = zP z a j := fun a j a1 a2 => f6 _ _ (v_lo hS hl (by omega) (by omega))
  obtain ⟨h1, h2, h3, h4, h5, h6, h7, h8, h9, h10⟩ := h c hc
  rw [tt, tl, tp _ _ (by omega) (by omega), tp _ _ (by omega) (by omega), ti _ 0 (by omega) (by omega), ti _ 1 (by omega) (by omega), ti _ 2 (by omega) (by omega)]
  exact ⟨h1, h2, h3, h4, h5, h6, h7, h8, fun h hh => by rw [ti _ _ (by omega) (by omega)]; exact h9 h hh, fun h hh => by rw [ti _ _ (by omega) (by omega)]; exact h10 h hh⟩
theorem Fz_RT (hp : p < 12) {z z' : ZS} (hS : SPC cid A n) (hl : ∀ k, k ∈ lp → k < n) (hF : Fz p cid lp A z z') {m : Nat} {C D V : Nat → Int32} (h : RT z m C D V) : RT z' m C D V := by
  obtain ⟨f1, f2, f3, f4, f5, f6⟩ := hF
  have tt : tg z' = tg z := f3
  have tl : ln z' = ln z := f4
  have ti : ∀ a j, 10 ≤ a → a < 14 → zI z' a j = zI z a j := fun a j a1 a2 => f5 _ _ (w_lo hS hl (by omega) (by omega) (by omega) (by omega) (by omega))
  have tp : ∀ a j, 10 ≤ a → a < 14 → zP z' a j = zP z a j := fun a j a1 a2 => f6 _ _ (v_lo hS hl (by omega) (by omega))
  have tf : ∀ a, 10 ≤ a → a < 14 → zI z' a = zI z a := fun a a1 a2 => funext (fun j => ti a j a1 a2)
  unfold RT at h ⊢
  rw [tt, tl, tp 10 0 (by omega) (by omega), tp 10 1 (by omega) (by omega), tp 10 2 (by omega) (by omega), tf 10 (by omega) (by omega), tf 11 (by omega) (by omega), tf 12 (by omega) (by omega), tf 13 (by omega) (by omega)]
  exact h
theorem Fz_BT (hp : p < 12) {z z' : ZS} (hS : SPC cid A n) (hl : ∀ k, k ∈ lp → k < n) (hF : Fz p cid lp A z z') (h : BT z) : BT z' := by
  obtain ⟨f1, f2, f3, f4, f5, f6⟩ := hF
  have tt : tg z' = tg z := f3
  have tl : ln z' = ln z := f4
  unfold BT at h ⊢
  rw [tt, tl, f6 14 0 (v_lo hS hl (by omega) (by omega)), f6 14 1 (v_lo hS hl (by omega) (by omega))]
  exact h
theorem Fz_ST (hp : p < 12) {z z' : ZS} (hS : SPC cid A n) (hl : ∀ k, k ∈ lp → k < n) (hF : Fz p cid lp A z z') (h : ST z) : ST z' := by
  obtain ⟨f1, f2, f3, f4, f5, f6⟩ := hF
  have tt : tg z' = tg z := f3
  have tl : ln z' = ln z := f4
  have tf : ∀ a, a < 4 → zI z' a = zI z a := fun a a1 => funext (fun j => f5 _ _ (w_lo hS hl (by omega) (by omega) (by omega) (by omega) (by omega)))
  unfold ST at h ⊢
  rw [tt, tl, tf 2 (by omega), tf 3 (by omega)]
  exact h
/-- one card's reckoning keeps the frame -/
theorem rk_F (z : ZS) {k : Nat} (hk : k ∈ lp) (mk hf : Int32) (pt o y : Nat) (F : Nat → Int32) (ho : o = cid k ∨ ∃ k', k' ∈ lp ∧ o = cid k') (hy : (y = cid k ∧ F = zI z (cid k)) ∨ (¬ A 8 k = 2 ∧ y = cid k + 2)) : Fz p cid lp A z (rkz z (cid k) mk hf pt o y F) := by
  refine ⟨rfl, rfl, rfl, rfl, fun a j w => ?_, fun a j w => ?_⟩
  · show (if a = cid k ∧ j = 12 then mk else if a = cid k ∧ j = 13 then hf else if a = y then F j else zI z a j) = _
    rw [if_neg (fun q => w (Or.inr (Or.inr (Or.inr (Or.inl ⟨k, hk, q.1, Or.inl q.2⟩))))), if_neg (fun q => w (Or.inr (Or.inr (Or.inr (Or.inl ⟨k, hk, q.1, Or.inr (Or.inl q.2)⟩)))))]
    by_cases e : a = y
    · rw [if_pos e]
      rcases hy with ⟨q1, q2⟩ | ⟨q1, q2⟩
      · rw [q2, e, q1]
      · exact absurd (Or.inr (Or.inr (Or.inr (Or.inr ⟨k, hk, q1, e.trans q2⟩)))) w
    · rw [if_neg e]
  · show (if a = cid k ∧ j = 14 then pt else if a = o ∧ j = 14 then cid k else zP z a j) = _
    rw [if_neg (fun q => w (Or.inr ⟨k, hk, q.1, Or.inl q.2⟩))]
    by_cases e : a = o ∧ j = 14
    · rcases ho with q | ⟨k', q1, q2⟩
      · exact absurd (Or.inr ⟨k, hk, e.1.trans q, Or.inl e.2⟩) w
      · exact absurd (Or.inr ⟨k', q1, e.1.trans q2, Or.inl e.2⟩) w
    · rw [if_neg e]
end FW
