/-! Calls of both: right. Own work. -/
/-- f is what the rows say -/
def VW (C D V : Nat → Int32) (m : Nat) (f : Int32 → Int32 → Int32) : Prop := (∀ i, i < m → f (C i) (D i) = V i) ∧ (∀ c d, (∀ i, i < m → ¬ (C i = c ∧ D i = d)) → f c d = 0)
def fU (f : Int32 → Int32 → Int32) (c day v : Int32) (c' d' : Int32) : Int32 := if c' = c ∧ d' = day then v else f c' d'
theorem fU_e (f : Int32 → Int32 → Int32) (c day v : Int32) : fU f c day v c day = v := if_pos ⟨rfl, rfl⟩
theorem fU_n {f : Int32 → Int32 → Int32} {c day v c' d' : Int32} (h : ¬ (c' = c ∧ d' = day)) : fU f c day v c' d' = f c' d' := if_neg h
theorem VW_vl {C D V : Nat → Int32} {m : Nat} {f : Int32 → Int32 → Int32} (h : VW C D V m f) (c d : Int32) : vlR C D V m c d = f c d := by
  cases hf : fiR C D c d m with
  | none =>
    have e : vlR C D V m c d = 0 := by unfold vlR; rw [hf]
    rw [e]
    exact (h.2 c d (fun i hi w => (ff_none _ _ m).mp hf i hi (decide_eq_true w))).symm
  | some i =>
    obtain ⟨h1, h2, h3⟩ := fiR_s hf
    have e : vlR C D V m c d = V i := by unfold vlR; rw [hf]
    rw [e, ← h.1 i h1, h2, h3]
theorem rg_c (A : Nat → Nat → Int32) (c d : Int32) : ∀ k, (∃ i, i < k ∧ A 4 i = c ∧ A 5 i = d ∧ rgF A c d k = A 6 i) ∨ ((∀ i, i < k → ¬ (A 4 i = c ∧ A 5 i = d)) ∧ rgF A c d k = 0)
  | 0 => Or.inr ⟨fun i hi => absurd hi (by omega), rfl⟩
  | k + 1 => by
    unfold rgF
    by_cases e : A 4 k = c ∧ A 5 k = d
    · rw [if_pos e]
      exact Or.inl ⟨k, by omega, e.1, e.2, rfl⟩
    · rw [if_neg e]
      rcases rg_c A c d k with ⟨i, h1, h2, h3, h4⟩ | ⟨h1, h2⟩
      · exact Or.inl ⟨i, by omega, h2, h3, h4⟩
      · refine Or.inr ⟨fun i hi => ?_, h2⟩
        by_cases e2 : i = k
        · rw [e2]; exact e
        · exact h1 i (by omega)
theorem VW_rg {A : Nat → Nat → Int32} {m : Nat} {f : Int32 → Int32 → Int32} (h : VW (A 4) (A 5) (A 6) m f) (c d : Int32) : rgF A c d m = f c d := by
  rcases rg_c A c d m with ⟨i, h1, h2, h3, h4⟩ | ⟨h1, h2⟩
  · rw [h4, ← h.1 i h1, h2, h3]
  · rw [h2, h.2 c d h1]
theorem rg_VW {A : Nat → Nat → Int32} {m : Nat} (h : RD (A 4) (A 5) (A 6) m) : VW (A 4) (A 5) (A 6) m (fun c d => rgF A c d m) := by
  refine ⟨fun i hi => ?_, fun c d hn => ?_⟩
  · show rgF A (A 4 i) (A 5 i) m = A 6 i
    rcases rg_c A (A 4 i) (A 5 i) m with ⟨j, h1, h2, h3, h4⟩ | ⟨h1, h2⟩
    · rw [h4, h.2 j i h1 hi h2 h3]
    · exact absurd ⟨rfl, rfl⟩ (h1 i hi)
  · show rgF A c d m = 0
    rcases rg_c A c d m with ⟨j, h1, h2, h3, h4⟩ | ⟨h1, h2⟩
    · exact absurd ⟨h2, h3⟩ (hn j h1)
    · exact h2
theorem vl_VW {C D V : Nat → Int32} {m : Nat} (h : RD C D V m) : VW C D V m (vlR C D V m) := by
  refine ⟨fun i hi => ?_, fun c d hn => ?_⟩
  · cases hf : fiR C D (C i) (D i) m with
    | none => exact absurd (decide_eq_true ⟨rfl, rfl⟩) ((ff_none _ _ m).mp hf i hi)
    | some j =>
      obtain ⟨h1, h2, h3⟩ := fiR_s hf
      have e : vlR C D V m (C i) (D i) = V j := by unfold vlR; rw [hf]
      rw [e, h.2 j i h1 hi h2 h3]
  · cases hf : fiR C D c d m with
    | none => unfold vlR; rw [hf]
    | some j =>
      obtain ⟨h1, h2, h3⟩ := fiR_s hf
      exact absurd ⟨h2, h3⟩ (hn j h1)
/-- a row more -/
theorem VW_add {C D V C' D' V' : Nat → Int32} {m : Nat} {f : Int32 → Int32 → Int32} {c day v : Int32} (hv : ¬ v = 0) (hR : RD C D V m) (h : VW C D V m f) (hn : ∀ i, i < m → ¬ (C i = c ∧ D i = day)) (e : ∀ i, i < m → C' i = C i ∧ D' i = D i ∧ V' i = V i) (em : C' m = c ∧ D' m = day ∧ V' m = v) : RD C' D' V' (m + 1) ∧ VW C' D' V' (m + 1) (fU f c day v) := by
  obtain ⟨m1, m2, m3⟩ := em
  refine ⟨⟨fun i hi => ?_, fun i j hi hj h1 h2 => ?_⟩, fun i hi => ?_, fun c' d' w => ?_⟩
  · by_cases q : i = m
    · rw [q, m3]; exact hv
    · obtain ⟨e1, e2, e3⟩ := e i (by omega)
      rw [e3]; exact hR.1 i (by omega)
  · by_cases q : i = m
    · by_cases q' : j = m
      · rw [q, q']
      · obtain ⟨e1, e2, e3⟩ := e j (by omega)
        rw [q, m1, e1] at h1
        rw [q, m2, e2] at h2
        exact absurd ⟨h1.symm, h2.symm⟩ (hn j (by omega))
    · obtain ⟨e1, e2, e3⟩ := e i (by omega)
      by_cases q' : j = m
      · rw [q', m1, e1] at h1
        rw [q', m2, e2] at h2
        exact absurd ⟨h1, h2⟩ (hn i (by omega))
      · obtain ⟨g1, g2, g3⟩ := e j (by omega)
        rw [e1, g1] at h1
        rw [e2, g2] at h2
        exact hR.2 i j (by omega) (by omega) h1 h2
  · by_cases q : i = m
    · rw [q, m1, m2, m3]; exact fU_e f c day v
    · obtain ⟨e1, e2, e3⟩ := e i (by omega)
      rw [e1, e2, e3, fU_n (hn i (by omega))]
      exact h.1 i (by omega)
  · have w1 := w m (by omega)
    rw [m1, m2] at w1
    rw [fU_n (fun q => w1 ⟨q.1.symm, q.2.symm⟩)]
    exact h.2 c' d' (fun i hi q => by
      obtain ⟨e1, e2, e3⟩ := e i hi
      exact w i (by omega) ⟨by rw [e1]; exact q.1, by rw [e2]; exact q.2⟩)
/-- a row less -/
theorem VW_sub {C D V C' D' V' : Nat → Int32} {m m' i0 : Nat} {f : Int32 → Int32 → Int32} {c day : Int32} (g : Nat → Nat) (hR : RD C D V m) (h : VW C D V m f) (h0 : i0 < m) (e0 : C i0 = c ∧ D i0 = day) (hg : ∀ i, i < m' → g i < m ∧ g i ≠ i0) (hi : ∀ i j, i < m' → j < m' → g i = g j → i = j) (hs : ∀ k, k < m → k ≠ i0 → ∃ i, i < m' ∧ g i = k) (e : ∀ i, i < m' → C' i = C (g i) ∧ D' i = D (g i) ∧ V' i = V (g i)) : RD C' D' V' m' ∧ VW C' D' V' m' (fU f c day 0) ∧ (∀ i, i < m' → ¬ (C' i = c ∧ D' i = day)) := by
  have nn : ∀ i, i < m' → ¬ (C' i = c ∧ D' i = day) := fun i hi' w => by
    obtain ⟨e1, e2, e3⟩ := e i hi'
    obtain ⟨g1, g2⟩ := hg i hi'
    rw [e1, e2] at w
    exact g2 (hR.2 (g i) i0 g1 h0 (w.1.trans e0.1.symm) (w.2.trans e0.2.symm))
  refine ⟨⟨fun i hi' => ?_, fun i j hi' hj h1 h2 => ?_⟩, ⟨fun i hi' => ?_, fun c' d' w => ?_⟩, nn⟩
  · rw [(e i hi').2.2]; exact hR.1 _ (hg i hi').1
  · rw [(e i hi').1, (e j hj).1] at h1
    rw [(e i hi').2.1, (e j hj).2.1] at h2
    exact hi i j hi' hj (hR.2 _ _ (hg i hi').1 (hg j hj).1 h1 h2)
  · rw [fU_n (nn i hi'), (e i hi').1, (e i hi').2.1, (e i hi').2.2]
    exact h.1 _ (hg i hi').1
  · by_cases q : c' = c ∧ d' = day
    · rw [q.1, q.2, fU_e]
    · rw [fU_n q]
      refine h.2 c' d' (fun k hk r => ?_)
      by_cases ek : k = i0
      · rw [ek] at r
        exact q ⟨r.1.symm.trans e0.1, r.2.symm.trans e0.2⟩
      · obtain ⟨i, hi', gi⟩ := hs k hk ek
        exact w i hi' ⟨by rw [(e i hi').1, gi]; exact r.1, by rw [(e i hi').2.1, gi]; exact r.2⟩
/-- a row's value changes -/
theorem VW_set {C D V V' : Nat → Int32} {m i0 : Nat} {f : Int32 → Int32 → Int32} {c day v : Int32} (hv : ¬ v = 0) (hR : RD C D V m) (h : VW C D V m f) (h0 : i0 < m) (e0 : C i0 = c ∧ D i0 = day) (e : ∀ i, V' i = if i = i0 then v else V i) : RD C D V' m ∧ VW C D V' m (fU f c day v) := by
  refine ⟨⟨fun i hi => ?_, hR.2⟩, fun i hi => ?_, fun c' d' w => ?_⟩
  · rw [e]
    by_cases q : i = i0
    · rw [if_pos q]; exact hv
    · rw [if_neg q]; exact hR.1 i hi
  · rw [e]
    by_cases q : i = i0
    · rw [if_pos q, q, e0.1, e0.2, fU_e]
    · rw [if_neg q, fU_n (fun r => q (hR.2 i i0 hi h0 (r.1.trans e0.1.symm) (r.2.trans e0.2.symm)))]
      exact h.1 i hi
  · have w0 := w i0 h0
    rw [e0.1, e0.2] at w0
    rw [fU_n (fun q => w0 ⟨q.1.symm, q.2.symm⟩)]
    exact h.2 c' d' w
theorem VW_0 {C D V : Nat → Int32} {m : Nat} {f : Int32 → Int32 → Int32} {c day : Int32} (h : VW C D V m f) (hn : f c day = 0) : VW C D V m (fU f c day 0) := by
  have e : fU f c day 0 = f := by
    funext a b
    by_cases q : a = c ∧ b = day
    · rw [q.1, q.2, fU_e, hn]
    · exact fU_n q
  rw [e]; exact h
theorem fU_fU (f : Int32 → Int32 → Int32) (c day u v : Int32) : fU (fU f c day u) c day v = fU f c day v := by
  funext a b
  unfold fU
  by_cases q : a = c ∧ b = day
  · rw [if_pos q, if_pos q]
  · rw [if_neg q, if_neg q, if_neg q]
theorem rm3_v (B : Nat → Nat → Int32) (m k q i : Nat) : rm3 B m k q i = if (q = 4 ∨ q = 5 ∨ q = 6) ∧ i = m then B q k else B q i := by
  have e3 : rm3 B m k = u2 (u2 (u2 B 4 m (B 4 k)) 5 m (B 5 k)) 6 m (B 6 k) := rfl
  rw [e3]
  show (if q = 6 ∧ i = m then B 6 k else if q = 5 ∧ i = m then B 5 k else if q = 4 ∧ i = m then B 4 k else B q i) = _
  by_cases e : i = m
  · by_cases q6 : q = 6
    · rw [if_pos ⟨q6, e⟩, if_pos ⟨Or.inr (Or.inr q6), e⟩, q6]
    · rw [if_neg (fun w => q6 w.1)]
      by_cases q5 : q = 5
      · rw [if_pos ⟨q5, e⟩, if_pos ⟨Or.inr (Or.inl q5), e⟩, q5]
      · rw [if_neg (fun w => q5 w.1)]
        by_cases q4 : q = 4
        · rw [if_pos ⟨q4, e⟩, if_pos ⟨Or.inl q4, e⟩, q4]
        · rw [if_neg (fun w => q4 w.1), if_neg (by omega)]
  · rw [if_neg (fun w => e w.2), if_neg (fun w => e w.2), if_neg (fun w => e w.2), if_neg (fun w => e w.2)]
theorem rm_no (A : Nat → Nat → Int32) (c day : Int32) : ∀ k, (∀ i, i < k → ¬ (A 4 i = c ∧ A 5 i = day)) → rmF A c day k = (k, A)
  | 0, _ => by unfold rmF; rfl
  | k + 1, h => by
    have ih := rm_no A c day k (fun i hi => h i (by omega))
    unfold rmF
    rw [ih]
    show (if A 4 k = c ∧ A 5 k = day then (k, A) else (k + 1, rm3 A k k)) = (k + 1, A)
    rw [if_neg (h k (by omega))]
    congr 1
    funext q i
    rw [rm3_v]
    by_cases e : (q = 4 ∨ q = 5 ∨ q = 6) ∧ i = k
    · rw [if_pos e, e.2]
    · rw [if_neg e]
theorem rm_yes (A : Nat → Nat → Int32) (c day : Int32) (i0 M : Nat) (e0 : A 4 i0 = c ∧ A 5 i0 = day) (hu : ∀ i, A 4 i = c ∧ A 5 i = day → i < M → i = i0) : ∀ k, i0 < k → k ≤ M → (rmF A c day k).1 = k - 1 ∧ (∀ q, ¬ (q = 4 ∨ q = 5 ∨ q = 6) → (rmF A c day k).2 q = A q) ∧ (∀ q i, (i < i0 ∨ k ≤ i) → (rmF A c day k).2 q i = A q i) ∧ (∀ q i, (q = 4 ∨ q = 5 ∨ q = 6) → i0 ≤ i → i < k - 1 → (rmF A c day k).2 q i = A q (i + 1))
  | 0, h, _ => absurd h (by omega)
  | k + 1, h, h30 => by
    by_cases ek : k = i0
    · have ih := rm_no A c day k (fun i hi w => by have := hu i w (by omega); omega)
      unfold rmF
      rw [ih]
      show ((if A 4 k = c ∧ A 5 k = day then (k, A) else (k + 1, rm3 A k k)).1 = k + 1 - 1) ∧ _
      rw [if_pos (by rw [ek]; exact e0)]
      exact ⟨rfl, fun _ _ => rfl, fun _ _ _ => rfl, fun q i _ a b => absurd b (by omega)⟩
    · obtain ⟨h1, h2, h3, h4⟩ := rm_yes A c day i0 M e0 hu k (by omega) (by omega)
      unfold rmF
      rw [h3 4 k (Or.inr (Nat.le_refl _)), h3 5 k (Or.inr (Nat.le_refl _)), if_neg (fun w => ek (hu k w (by omega)))]
      refine ⟨by show (rmF A c day k).1 + 1 = _; omega, fun q hq => ?_, fun q i hi => ?_, fun q i hq a b => ?_⟩
      · funext i
        show rm3 (rmF A c day k).2 (rmF A c day k).1 k q i = _
        rw [rm3_v, if_neg (fun w => hq w.1), h2 q hq]
      · show rm3 (rmF A c day k).2 (rmF A c day k).1 k q i = _
        rw [rm3_v, if_neg (by omega)]
        exact h3 q i (by omega)
      · show rm3 (rmF A c day k).2 (rmF A c day k).1 k q i = _
        rw [rm3_v]
        by_cases e : i = k - 1
        · rw [if_pos ⟨hq, by omega⟩, h3 q k (Or.inr (Nat.le_refl _)), e, show k - 1 + 1 = k by omega]
        · rw [if_neg (by omega)]
          exact h4 q i hq a (by omega)
