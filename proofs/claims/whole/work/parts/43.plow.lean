/-! LOW purely: the model's and the class's are the same. Own work. -/
theorem gl_cg {q q' : Nat → Bool} (O : Nat → Nat) : ∀ i, (∀ j, j < i → q (O j) = q' (O j)) → gl q O i = gl q' O i
  | 0, _ => rfl
  | i + 1, h => by unfold gl; rw [gl_cg O i (fun j hj => h j (by omega)), h i (by omega)]
theorem gl_flt (q r : Nat → Bool) (O : Nat → Nat) : ∀ i, gl (fun k => q k && r k) O i = (gl q O i).filter r
  | 0 => rfl
  | i + 1 => by
    unfold gl
    rw [gl_flt q r O i]
    by_cases hq : q (O i) = true
    · rw [if_pos hq, List.filter_cons]
      by_cases hr : r (O i) = true
      · rw [if_pos (by rw [hq, hr]; rfl), if_pos hr]
      · rw [if_neg (by rw [hq]; simpa using hr), if_neg hr]
    · rw [if_neg hq, if_neg (by intro w; rw [Bool.and_eq_true] at w; exact hq w.1)]
/-- those behind place i fail -/
theorem gl_cut (q : Nat → Bool) (O : Nat → Nat) (i : Nat) : ∀ m, (∀ j, i ≤ j → j < i + m → ¬ q (O j) = true) → gl q O (i + m) = gl q O i
  | 0, _ => rfl
  | m + 1, h => by
    show (if q (O (i + m)) = true then _ else _) = _
    rw [if_neg (h (i + m) (by omega) (by omega))]
    exact gl_cut q O i m (fun j h1 h2 => h j h1 (by omega))
/-- a list whose days don't rise -/
def dn (D : Nat → Int32) (l : List Nat) : Prop := l.Pairwise (fun x y => D y ≤ D x)
theorem dn_i {D : Nat → Int32} {l : List Nat} (h : dn D l) {a b : Nat} (hab : a ≤ b) (hb : b < l.length) : D (l.getD b 0) ≤ D (l.getD a 0) := by
  by_cases e : a = b
  · rw [e]; exact Int32.le_refl _
  · rw [gd_el l a (by omega), gd_el l b hb]
    exact List.pairwise_iff_getElem.mp h a b (by omega) hb (by omega)
theorem gl_dn (q : Nat → Bool) (O : Nat → Nat) (D : Nat → Int32) : ∀ i, (∀ a b, a < b → b < i → D (O a) ≤ D (O b)) → dn D (gl q O i)
  | 0, _ => List.Pairwise.nil
  | i + 1, h => by
    have ih := gl_dn q O D i (fun a b h1 h2 => h a b h1 (by omega))
    unfold gl
    split
    · refine List.pairwise_cons.mpr ⟨fun y hy => ?_, ih⟩
      obtain ⟨_, j, hj, e⟩ := (gl_mem q O y i).mp hy
      rw [← e]; exact h j i hj (by omega)
    · exact ih
theorem flt_dn {D : Nat → Int32} {l : List Nat} (h : dn D l) (r : Nat → Bool) : dn D (l.filter r) := List.Pairwise.sublist List.filter_sublist h
theorem flt_drop (D : Nat → Int32) (day : Int32) (l : List Nat) (h : dn D l) (i0 : Nat) (hi : stp0 D day l i0) : l.filter (fun k => decide (D k < day)) = l.drop i0 := by
  obtain ⟨h1, h2, h3⟩ := hi
  conv => lhs; rw [← List.take_append_drop i0 l]
  rw [List.filter_append]
  have e1 : (l.take i0).filter (fun k => decide (D k < day)) = [] := by
    rw [List.filter_eq_nil_iff]
    intro a ha
    obtain ⟨j, hj, e⟩ := List.mem_iff_getElem.mp ha
    rw [List.length_take] at hj
    have := h2 j (by omega)
    rw [gd_el l j (by omega)] at this
    rw [List.getElem_take] at e
    rw [e] at this
    simpa using this
  have e2 : (l.drop i0).filter (fun k => decide (D k < day)) = l.drop i0 := by
    rw [List.filter_eq_self]
    intro a ha
    obtain ⟨j, hj, e⟩ := List.mem_iff_getElem.mp ha
    rw [List.length_drop] at hj
    have a1 := h3 (by omega)
    have a2 := dn_i h (a := i0) (b := i0 + j) (by omega) (by omega)
    rw [List.getElem_drop] at e
    rw [gd_el l (i0 + j) (by omega), e] at a2
    refine decide_eq_true ?_
    rw [i32_le] at a2; rw [i32_lt] at a1 ⊢; omega
  rw [e1, e2, List.nil_append]
theorem d_succ {x : Int32} (h : 0 ≤ x ∧ x ≤ 9999) : (x + 1).toInt = x.toInt + 1 := by
  obtain ⟨j, hj, e⟩ := rng_nI (x := x) (N := 9999) (by decide) h
  rw [e, ← nI_succ, nI_toInt (by omega), nI_toInt (by omega)]; omega
/-- j begins a day of l whose RAW counts -/
def Cd (D : Nat → Int32) (day : Int32) (l : List Nat) (j : Nat) : Prop := j < l.length ∧ (j = 0 ∨ ¬ D (l.getD (j - 1) 0) = D (l.getD j 0)) ∧ 20 ≤ l.length - j ∧ day - 364 ≤ D (l.getD j 0) + 1
theorem mnO_le (o : Option Int32) (r : Int32) : mnO o r ≤ r ∧ (∀ u, o = some u → mnO o r ≤ u) ∧ (mnO o r = r ∨ o = some (mnO o r)) := by
  cases o with
  | none => exact ⟨Int32.le_refl _, fun u h => (by cases h), Or.inl rfl⟩
  | some l =>
    show (if r ≤ l then r else l) ≤ r ∧ (∀ u, some l = some u → (if r ≤ l then r else l) ≤ u) ∧ ((if r ≤ l then r else l) = r ∨ some l = some (if r ≤ l then r else l))
    by_cases h : r ≤ l
    · rw [if_pos h]; exact ⟨Int32.le_refl _, fun u e => (by cases e; exact h), Or.inl rfl⟩
    · rw [if_neg h]; exact ⟨Int32.le_of_lt (Int32.not_le.mp h), fun u e => (by cases e; exact Int32.le_refl _), Or.inr rfl⟩
theorem lwL_is (b : Bk) (D : Nat → Int32) (day : Int32) (l : List Nat) (hd : dn D l) (hD : ∀ x, x ∈ l → 0 ≤ D x ∧ D x ≤ 9999) : ∀ (m i : Nat) (low : Option Int32) (dm : Int32), i + m = l.length → dm = (if i = 0 then -1 else D (l.getD (i - 1) 0)) →
    (∀ v, lwL b D day (l.drop i) low dm = some v → low = some v ∨ ∃ j, i ≤ j ∧ Cd D day l j ∧ v = rwL b (l.drop j)) ∧ (∀ j, i ≤ j → Cd D day l j → ∃ v, lwL b D day (l.drop i) low dm = some v ∧ v ≤ rwL b (l.drop j)) ∧ (∀ u, low = some u → ∃ v, lwL b D day (l.drop i) low dm = some v ∧ v ≤ u) := by
  intro m
  induction m with
  | zero =>
    intro i low dm hi hdm
    rw [List.drop_of_length_le (by omega)]
    refine ⟨fun v h => Or.inl h, fun j hj hc => ?_, fun u h => ⟨u, h, Int32.le_refl _⟩⟩
    have := hc.1
    omega
  | succ m ih =>
    intro i low dm hi hdm
    have hil : i < l.length := by omega
    have ih := ih (i + 1)
    have len : (l.drop i).length = l.length - i := List.length_drop
    have hle : ∀ j, i ≤ j → j < l.length → D (l.getD j 0) ≤ D (l.getD i 0) := fun j h1 h2 => dn_i hd h1 h2
    have hDm : ∀ j, j < l.length → 0 ≤ D (l.getD j 0) ∧ D (l.getD j 0) ≤ 9999 := fun j hj => hD _ (gd_mem l j hj)
    have base : (¬ ∃ j, i ≤ j ∧ Cd D day l j) → (∀ v, low = some v → low = some v ∨ ∃ j, i ≤ j ∧ Cd D day l j ∧ v = rwL b (l.drop j)) ∧ (∀ j, i ≤ j → Cd D day l j → ∃ v, low = some v ∧ v ≤ rwL b (l.drop j)) ∧ (∀ u, low = some u → ∃ v, low = some v ∧ v ≤ u) := fun hn => ⟨fun v h => Or.inl h, fun j h1 h2 => absurd ⟨j, h1, h2⟩ hn, fun u h => ⟨u, h, Int32.le_refl _⟩⟩
    have ed := drop_c l i hil
    rw [ed] at len ⊢
    unfold lwL
    rw [len]
    by_cases h20 : l.length - i < 20
    · rw [if_pos h20]
      exact base (fun ⟨j, h1, h2⟩ => by have := h2.2.2.1; omega)
    · rw [if_neg h20]
      by_cases h364 : day - 364 ≤ D (l.getD i 0) + 1
      · rw [if_neg (fun w => w h364)]
        by_cases hdm' : D (l.getD i 0) = dm
        · rw [if_pos hdm']
          have hi0 : ¬ i = 0 := fun e => by
            rw [if_pos e] at hdm
            have := (hDm i hil).1
            rw [hdm', hdm] at this; exact absurd this (by decide)
          rw [if_neg hi0] at hdm
          have nc : ¬ Cd D day l i := fun c => c.2.1.elim hi0 (fun w => w (by rw [← hdm, hdm']))
          obtain ⟨g1, g2, g3⟩ := ih low dm (by omega) (by rw [if_neg (by omega), show i + 1 - 1 = i by omega, hdm'])
          refine ⟨fun v h => (g1 v h).imp id (fun ⟨j, h1, h2⟩ => ⟨j, by omega, h2⟩), fun j h1 h2 => ?_, g3⟩
          by_cases e : j = i
          · rw [e] at h2; exact absurd h2 nc
          · exact g2 j (by omega) h2
        · rw [if_neg hdm']
          have ci : Cd D day l i := ⟨hil, by
            by_cases e : i = 0
            · exact Or.inl e
            · rw [if_neg e] at hdm
              exact Or.inr (fun w => hdm' (by rw [hdm, w])), by omega, h364⟩
          obtain ⟨g1, g2, g3⟩ := ih (some (mnO low (rwL b (l.getD i 0 :: l.drop (i + 1))))) (D (l.getD i 0)) (by omega) (by rw [if_neg (by omega), show i + 1 - 1 = i by omega])
          rw [← ed] at g1 g2 g3 ⊢
          obtain ⟨m1, m2, m3⟩ := mnO_le low (rwL b (l.drop i))
          obtain ⟨v0, e0, l0⟩ := g3 _ rfl
          refine ⟨fun v h => ?_, fun j h1 h2 => ?_, fun u hu => ?_⟩
          · rcases g1 v h with w | ⟨j, h1, h2⟩
            · have w : mnO low (rwL b (l.drop i)) = v := by cases w; rfl
              rcases m3 with q | q
              · exact Or.inr ⟨i, Nat.le_refl _, ci, by rw [← w, q]⟩
              · exact Or.inl (by rw [← w]; exact q)
            · exact Or.inr ⟨j, by omega, h2⟩
          · by_cases e : j = i
            · subst e
              exact ⟨v0, e0, Int32.le_trans l0 m1⟩
            · exact g2 j (by omega) h2
          · exact ⟨v0, e0, Int32.le_trans l0 (m2 u hu)⟩
      · rw [if_pos h364]
        refine base (fun ⟨j, h1, h2⟩ => h364 ?_)
        have a := h2.2.2.2
        have b' := hle j h1 h2.1
        have d1 := d_succ (hDm i hil)
        have d2 := d_succ (hDm j h2.1)
        rw [i32_le] at a b' ⊢
        omega
theorem lowF_is (b : Bk) (A : Nat → Nat → Int32) (O : Nat → Nat) (n : Nat) (p day : Int32) : ∀ k, (∀ v, lowF b A O n p day k = some v → ∃ x, x < k ∧ lwC b A O n p day x = true ∧ v = rwL b (gM b A O n p (A 10 x + 1))) ∧ (∀ x, x < k → lwC b A O n p day x = true → ∃ v, lowF b A O n p day k = some v ∧ v ≤ rwL b (gM b A O n p (A 10 x + 1)))
  | 0 => ⟨fun v h => (by cases h), fun x hx => (by omega)⟩
  | k + 1 => by
    obtain ⟨h1, h2⟩ := lowF_is b A O n p day k
    unfold lowF
    by_cases hc : lwC b A O n p day k = true
    · rw [if_pos hc]
      obtain ⟨m1, m2, m3⟩ := mnO_le (lowF b A O n p day k) (rwL b (gM b A O n p (A 10 k + 1)))
      refine ⟨fun v h => ?_, fun x hx hw => ⟨_, rfl, ?_⟩⟩
      · cases h
        rcases m3 with q | q
        · exact ⟨k, by omega, hc, q⟩
        · obtain ⟨x, hx, h⟩ := h1 _ q
          exact ⟨x, by omega, h⟩
      · by_cases e : x = k
        · subst e; exact m1
        · obtain ⟨v, e1, e2⟩ := h2 x (by omega) hw
          exact Int32.le_trans (m2 v e1) e2
    · rw [if_neg hc]
      refine ⟨fun v h => ?_, fun x hx hw => ?_⟩
      · obtain ⟨x, hx, h⟩ := h1 v h
        exact ⟨x, by omega, h⟩
      · by_cases e : x = k
        · subst e; exact absurd hw hc
        · exact h2 x (by omega) hw
/-- marked cards of a player -/
def qP (b : Bk) (A : Nat → Nat → Int32) (p : Int32) (k : Nat) : Bool := (b.1 k).isSome && decide (A 9 k = p)
theorem gM_flt (b : Bk) (A : Nat → Nat → Int32) (O : Nat → Nat) (n : Nat) (p day : Int32) : gM b A O n p day = (gl (qP b A p) O n).filter (fun k => decide (A 10 k < day)) := gl_flt (qP b A p) (fun k => decide (A 10 k < day)) O n
theorem low_eq (b : Bk) (A : Nat → Nat → Int32) (O : Nat → Nat) (n : Nat) (p day : Int32) (hO : ∀ i, i < n → O i < n) (sur : ∀ x, x < n → ∃ i, i < n ∧ O i = x) (hs : ∀ a b, a < b → b < n → A 10 (O a) ≤ A 10 (O b)) (hD : ∀ x, x < n → 0 ≤ A 10 x ∧ A 10 x ≤ 9999) : lowF b A O n p day n = lwL b (A 10) day (gM b A O n p day) none (-1) := by
  have hd0 : dn (A 10) (gl (qP b A p) O n) := gl_dn _ O (A 10) n hs
  have hmem : ∀ x, x ∈ gl (qP b A p) O n ↔ x < n ∧ (b.1 x).isSome = true ∧ A 9 x = p := by
    intro x
    rw [gl_mem]
    unfold qP
    rw [Bool.and_eq_true, decide_eq_true_iff]
    constructor
    · rintro ⟨h, j, hj, e⟩
      exact ⟨e ▸ hO j hj, h⟩
    · rintro ⟨h1, h2⟩
      obtain ⟨j, hj, e⟩ := sur x h1
      exact ⟨h2, j, hj, e⟩
  have hl0 : ∀ day, gM b A O n p day = (gl (qP b A p) O n).filter (fun k => decide (A 10 k < day)) := gM_flt b A O n p
  generalize gl (qP b A p) O n = l0 at hd0 hmem hl0
  obtain ⟨i0, hi0⟩ := stp0_ex (A 10) day l0
  have el : gM b A O n p day = l0.drop i0 := by rw [hl0, flt_drop (A 10) day l0 hd0 i0 hi0]
  have gd : ∀ j, (l0.drop i0).getD j 0 = l0.getD (i0 + j) 0 := fun j => by rw [List.getD_eq_getElem?_getD, List.getD_eq_getElem?_getD, List.getElem?_drop]
  have ld : (l0.drop i0).length = l0.length - i0 := List.length_drop
  have hD0 : ∀ j, j < l0.length → 0 ≤ A 10 (l0.getD j 0) ∧ A 10 (l0.getD j 0) ≤ 9999 := fun j hj => hD _ ((hmem _).mp (gd_mem l0 j hj)).1
  -- a card's day behind it
  have lt_s : ∀ x y : Int32, (0 ≤ x ∧ x ≤ 9999) → (y < x + 1 ↔ y ≤ x) := fun x y hx => by rw [i32_lt, i32_le, d_succ hx]; omega
  have le_s : ∀ x y : Int32, (0 ≤ x ∧ x ≤ 9999) → (x + 1 ≤ y ↔ x < y) := fun x y hx => by rw [i32_le, i32_lt, d_succ hx]; omega
  have toC : ∀ x, x < n → lwC b A O n p day x = true → ∃ j, Cd (A 10) day (l0.drop i0) j ∧ gM b A O n p (A 10 x + 1) = (l0.drop i0).drop j := by
    intro x hx hw
    obtain ⟨w1, w2, w3, w4, w5⟩ := of_decide_eq_true hw
    have hDx := hD x hx
    have w3 : A 10 x < day := (le_s _ _ hDx).mp (Int32.not_lt.mp w3)
    obtain ⟨i1, hi1⟩ := stp0_ex (A 10) (A 10 x + 1) l0
    have e1 : gM b A O n p (A 10 x + 1) = l0.drop i1 := by rw [hl0, flt_drop (A 10) _ l0 hd0 i1 hi1]
    obtain ⟨ix, hix, ex⟩ := List.mem_iff_getElem.mp ((hmem x).mpr ⟨hx, w1, w2⟩)
    have ex : l0.getD ix 0 = x := by rw [gd_el l0 ix hix]; exact ex
    have i1x : i1 ≤ ix := by
      rcases Nat.lt_or_ge ix i1 with w | w
      · have := hi1.2.1 ix w
        rw [ex, le_s _ _ hDx, i32_lt] at this; omega
      · exact w
    have i01 : i0 ≤ i1 := by
      rcases Nat.lt_or_ge i1 i0 with w | w
      · have a := hi0.2.1 i1 w
        have b' := hi1.2.2 (by omega)
        rw [lt_s _ _ hDx] at b'
        rw [i32_le] at a b'; rw [i32_lt] at w3; omega
      · exact w
    have ed : A 10 (l0.getD i1 0) = A 10 x := by
      have a := hi1.2.2 (by omega)
      have b' := dn_i hd0 (a := i1) (b := ix) i1x hix
      rw [ex] at b'
      rw [lt_s _ _ hDx] at a
      rw [i32_eq]; rw [i32_le] at a b'; omega
    refine ⟨i1 - i0, ⟨by rw [ld]; omega, ?_, ?_, ?_⟩, ?_⟩
    · by_cases e : i1 = i0
      · exact Or.inl (by omega)
      · refine Or.inr (fun w => ?_)
        rw [gd, gd, show i0 + (i1 - i0) = i1 by omega, show i0 + (i1 - i0 - 1) = i1 - 1 by omega, ed] at w
        have := hi1.2.1 (i1 - 1) (by omega)
        rw [w, le_s _ _ hDx, i32_lt] at this; omega
    · rw [ld]
      rw [e1] at w5
      unfold m20 at w5
      rw [List.length_drop] at w5
      omega
    · rw [gd, show i0 + (i1 - i0) = i1 by omega, ed]; exact w4
    · rw [List.drop_drop, show i0 + (i1 - i0) = i1 by omega]; exact e1
  have ofC : ∀ j, Cd (A 10) day (l0.drop i0) j → ∃ x, x < n ∧ lwC b A O n p day x = true ∧ gM b A O n p (A 10 x + 1) = (l0.drop i0).drop j := by
    intro j hc
    obtain ⟨c1, c2, c3, c4⟩ := hc
    rw [ld] at c1 c3
    rw [gd] at c4
    have hj : i0 + j < l0.length := by omega
    obtain ⟨x1, x2, x3⟩ := (hmem _).mp (gd_mem l0 (i0 + j) hj)
    have hDx := hD0 (i0 + j) hj
    have ltd : A 10 (l0.getD (i0 + j) 0) < day := by
      have a := hi0.2.2 (by omega)
      have b' := dn_i hd0 (a := i0) (b := i0 + j) (by omega) hj
      rw [i32_lt] at a ⊢; rw [i32_le] at b'; omega
    have st : stp0 (A 10) (A 10 (l0.getD (i0 + j) 0) + 1) l0 (i0 + j) := by
      refine ⟨by omega, fun i hi => ?_, fun _ => (lt_s _ _ hDx).mpr (Int32.le_refl _)⟩
      rw [le_s _ _ hDx]
      rcases Nat.lt_or_ge i i0 with w | w
      · have := hi0.2.1 i w
        rw [i32_le] at this; rw [i32_lt] at ltd ⊢; omega
      · rcases c2 with e | e
        · omega
        · rw [gd, gd] at e
          have a := dn_i hd0 (a := i) (b := i0 + (j - 1)) (by omega) (by omega)
          have b' := dn_i hd0 (a := i0 + (j - 1)) (b := i0 + j) (by omega) hj
          rw [i32_le] at a b'; rw [i32_lt]
          have : ¬ (A 10 (l0.getD (i0 + (j - 1)) 0)).toInt = (A 10 (l0.getD (i0 + j) 0)).toInt := fun w => e (toInt_inj w)
          omega
    have e1 : gM b A O n p (A 10 (l0.getD (i0 + j) 0) + 1) = l0.drop (i0 + j) := by rw [hl0, flt_drop (A 10) _ l0 hd0 _ st]
    refine ⟨_, x1, decide_eq_true ⟨x2, x3, ?_, c4, ?_⟩, by rw [e1, List.drop_drop]⟩
    · exact Int32.not_lt.mpr ((le_s _ _ hDx).mpr ltd)
    · rw [e1]; unfold m20; rw [List.length_drop]; omega
  rw [el]
  have hdl : dn (A 10) (l0.drop i0) := List.Pairwise.sublist (List.drop_sublist _ _) hd0
  have hDl : ∀ x, x ∈ l0.drop i0 → 0 ≤ A 10 x ∧ A 10 x ≤ 9999 := fun x hx => hD x ((hmem x).mp (List.mem_of_mem_drop hx)).1
  have L := lwL_is b (A 10) day (l0.drop i0) hdl hDl (l0.drop i0).length 0 none (-1) (by omega) rfl
  rw [List.drop_zero] at L
  obtain ⟨L1, L2, _⟩ := L
  obtain ⟨F1, F2⟩ := lowF_is b A O n p day n
  generalize lwL b (A 10) day (l0.drop i0) none (-1) = u at L1 L2 ⊢
  generalize lowF b A O n p day n = v at F1 F2 ⊢
  have uv : ∀ x, u = some x → ∃ y, v = some y ∧ y ≤ x := by
    intro x hx
    rcases L1 x hx with w | ⟨j, _, c, e⟩
    · cases w
    · obtain ⟨k, k1, k2, k3⟩ := ofC j c
      obtain ⟨y, y1, y2⟩ := F2 k k1 k2
      exact ⟨y, y1, by rw [e, ← k3]; exact y2⟩
  have vu : ∀ x, v = some x → ∃ y, u = some y ∧ y ≤ x := by
    intro x hx
    obtain ⟨k, k1, k2, k3⟩ := F1 x hx
    obtain ⟨j, c, e⟩ := toC k k1 k2
    obtain ⟨y, y1, y2⟩ := L2 j (by omega) c
    exact ⟨y, y1, by rw [k3, e]; exact y2⟩
  cases hu : u with
  | none =>
    cases hv : v with
    | none => rfl
    | some x => obtain ⟨y, h, _⟩ := vu x hv; rw [hu] at h; cases h
  | some x =>
    obtain ⟨y, h1, h2⟩ := uv x hu
    obtain ⟨x', h3, h4⟩ := vu y h1
    rw [hu] at h3
    cases h3
    rw [h1]
    congr 1
    rw [i32_eq]; rw [i32_le] at h2 h4; omega
