/-! A player's own book, and that the model's book is made of them. Own work. -/
theorem insL_cg {w w' : Nat → Int32} (c : Nat) (hc : w c = w' c) : ∀ l : List Nat, (∀ y, y ∈ l → w y = w' y) → insL w c l = insL w' c l
  | [], _ => rfl
  | y :: t, h => by unfold insL; rw [hc, h y List.mem_cons_self, insL_cg c hc t (fun z hz => h z (List.mem_cons_of_mem _ hz))]
theorem sp_cg {w w' : Nat → Int32} : ∀ m, (∀ c, c < m → w c = w' c) → sp w m = sp w' m
  | 0, _ => rfl
  | m + 1, h => by
    unfold sp
    rw [sp_cg m (fun c hc => h c (by omega)), insL_cg m (h m (by omega)) _ (fun y hy => h y (by have := (sp_mem w' y m).mp hy; omega))]
theorem sw_cg {w w' : Nat → Int32} (s : List Nat) : ∀ k, (∀ j, j < k → w (s.getD j 0) = w' (s.getD j 0)) → sw w s k = sw w' s k
  | 0, _ => rfl
  | k + 1, h => by unfold sw; rw [sw_cg s k (fun j hj => h j (by omega)), h k (by omega)]
theorem rwL_cg {b b' : Bk} {l : List Nat} (h : ∀ x, x ∈ l → b'.1 x = b.1 x) : rwL b' l = rwL b l := by
  have hm : m20 l ≤ l.length ∧ m20 l ≤ 20 := by unfold m20; omega
  have hw : ∀ c, c < m20 l → wl b' l c = wl b l c := fun c hc => by
    unfold wl mv; rw [h _ (gd_mem l c (by omega))]
  have tk := tkN_le (m20 l) hm.2
  unfold rwL rawS
  rw [sp_cg (m20 l) hw, sw_cg (w := wl b' l) (w' := wl b l) _ (tkN (m20 l)) (fun j hj => hw _ (sp_lt (wl b l) (m20 l) j (by omega)))]
theorem rawO_cg {b b' : Bk} {l : List Nat} (h : ∀ x, x ∈ l → b'.1 x = b.1 x) : rawO b' l = rawO b l := by
  unfold rawO; rw [rwL_cg h]
theorem lwL_cg {b b' : Bk} (D : Nat → Int32) (day : Int32) : ∀ (l : List Nat) (low : Option Int32) (dm : Int32), (∀ x, x ∈ l → b'.1 x = b.1 x) → lwL b' D day l low dm = lwL b D day l low dm
  | [], _, _, _ => rfl
  | k :: t, low, dm, h => by
    have ht : ∀ x, x ∈ t → b'.1 x = b.1 x := fun x hx => h x (List.mem_cons_of_mem _ hx)
    unfold lwL
    rw [rwL_cg h, lwL_cg D day t low dm ht, lwL_cg D day t _ _ ht]
def mkd (b : Bk) (t : List Nat) : List Nat := t.filter (fun x => (b.1 x).isSome)
def gP (b : Bk) (A : Nat → Nat → Int32) (t : List Nat) (day : Int32) : List Nat := (mkd b t).filter (fun x => decide (A 10 x < day))
def nuP (b : Bk) (A : Nat → Nat → Int32) (t : List Nat) (day : Int32) : Int32 := numS (rawO b (gP b A t day)) (lwL b (A 10) day (gP b A t day) none (-1))
def gfP (b : Bk) (A : Nat → Nat → Int32) (t : List Nat) (k : Nat) : Int32 := gvT (nuP b A t (A 10 k)) A (cN A k)
def asP (b : Bk) (A : Nat → Nat → Int32) (t : List Nat) (k : Nat) : Int32 := asF A k (cN A k) (gfP b A t k) (fsN A k) (lsN A k - fsN A k)
def mkP (b : Bk) (A : Nat → Nat → Int32) (t : List Nat) (R k : Nat) : Int32 := rnd (113 * (10 * asP b A t k - A 0 (cN A k) - 10 * rgF A (A 11 k) (A 10 k) R)) (A 1 (cN A k))
def hfP (b : Bk) (A : Nat → Nat → Int32) (t : List Nat) (R k : Nat) : Int32 := rnd (113 * (10 * asP b A t k - A 0 (cN A k) / 2 - 5 * rgF A (A 11 k) (A 10 k) R)) (A 1 (cN A k))
def qV (b : Bk) (A : Nat → Nat → Int32) (k o : Nat) : Bool := decide ((b.2.1 o).isSome = true ∧ b.2.2 o = none ∧ ¬ 60 < A 10 k - A 10 o)
def wtP (b : Bk) (A : Nat → Nat → Int32) (t : List Nat) (k : Nat) : Option Nat := t.reverse.find? (qV b A k)
def stP (A : Nat → Nat → Int32) (R : Nat) (b : Bk) (t : List Nat) (k : Nat) : Bk :=
  if ¬ A 14 k = 0 then b else if A 8 k = 2 then (va_up b.1 k (some (A 13 k)), b.2)
  else if A 8 k = 0 then (if plF A k < 14 then b else (va_up b.1 k (some (mkP b A t R k)), b.2))
  else if plF A k < 7 then b else jnB b k (hfP b A t R k) (wtP b A t k)
/-- the book of a player's cards, the latest first -/
def pb (A : Nat → Nat → Int32) (R : Nat) : List Nat → Bk
  | [] => b0
  | k :: t => stP A R (pb A R t) t k
theorem ff_flt (q r : Nat → Bool) (O : Nat → Nat) : ∀ i, ff (fun o => q o && r o) O i = (gl q O i).reverse.find? r
  | 0 => rfl
  | i + 1 => by
    unfold ff gl
    rw [ff_flt q r O i]
    by_cases hq : q (O i) = true
    · rw [if_pos hq, List.reverse_cons, List.find?_append]
      cases hf : (gl q O i).reverse.find? r with
      | some x => rfl
      | none =>
        show (if (q (O i) && r (O i)) = true then some (O i) else none) = [O i].find? r
        rw [hq, List.find?_singleton, Bool.true_and]
    · rw [if_neg hq]
      cases hf : (gl q O i).reverse.find? r with
      | some x => rfl
      | none =>
        show (if (q (O i) && r (O i)) = true then some (O i) else none) = none
        rw [if_neg (by intro w; rw [Bool.and_eq_true] at w; exact hq w.1)]
theorem ff_cut (q : Nat → Bool) (O : Nat → Nat) (i : Nat) : ∀ m, (∀ j, i ≤ j → j < i + m → ¬ q (O j) = true) → ff q O (i + m) = ff q O i
  | 0, _ => rfl
  | m + 1, h => by
    show (match ff q O (i + m) with | some x => some x | none => if q (O (i + m)) = true then some (O (i + m)) else none) = _
    rw [ff_cut q O i m (fun j h1 h2 => h j h1 (by omega)), if_neg (h (i + m) (by omega) (by omega))]
    cases ff q O i <;> rfl
def qp (A : Nat → Nat → Int32) (p : Int32) (k : Nat) : Bool := decide (A 9 k = p)
/-- books agree on a player's cards -/
def Ep (A : Nat → Nat → Int32) (p : Int32) (b c : Bk) : Prop := ∀ k, A 9 k = p → b.1 k = c.1 k ∧ b.2.1 k = c.2.1 k ∧ b.2.2 k = c.2.2 k
section PGlob
variable (A : Nat → Nat → Int32) (O : Nat → Nat) (n R : Nat)
def OrdOK : Prop := (∀ i, i < n → O i < n) ∧ (∀ x, x < n → ∃ i, i < n ∧ O i = x) ∧ (∀ a b, a < b → b < n → A 10 (O a) ≤ A 10 (O b)) ∧ (∀ i j, i < n → j < n → O i = O j → i = j) ∧ (∀ x, x < n → 0 ≤ A 10 x ∧ A 10 x ≤ 9999)
theorem gM_gP (hO : OrdOK A O n) (p : Int32) (b c : Bk) (i : Nat) (hi : i ≤ n) (hb : ∀ k, A 9 k = p → b.1 k = c.1 k) (day : Int32) (hd : ∀ j, i ≤ j → j < n → day ≤ A 10 (O j)) : gM b A O n p day = gP c A (gl (qp A p) O i) day := by
  have e1 : gM b A O n p day = gl (qM b (A 9) (A 10) p day) O i := by
    have := gl_cut (qM b (A 9) (A 10) p day) O i (n - i) (fun j h1 h2 w => by
      unfold qM at w
      rw [Bool.and_eq_true] at w
      exact absurd (hd j h1 (by omega)) (Int32.not_le.mpr (of_decide_eq_true w.2)))
    rw [show i + (n - i) = n by omega] at this
    exact this
  have e2 : gl (qM b (A 9) (A 10) p day) O i = gl (fun k => (qp A p k && (c.1 k).isSome) && decide (A 10 k < day)) O i := by
    refine gl_cg O i (fun j hj => ?_)
    unfold qM qp
    by_cases h : A 9 (O j) = p
    · rw [hb _ h, decide_eq_true h, Bool.and_true, Bool.true_and]
    · rw [decide_eq_false h, Bool.and_false, Bool.false_and]; rfl
  rw [e1, e2, gl_flt (fun k => qp A p k && (c.1 k).isSome) (fun k => decide (A 10 k < day)), gl_flt (qp A p) (fun k => (c.1 k).isSome)]
  rfl
theorem gP_mem {b : Bk} {A : Nat → Nat → Int32} {t : List Nat} {day : Int32} {x : Nat} (h : x ∈ gP b A t day) : x ∈ t := (List.mem_filter.mp (List.mem_filter.mp h).1).1
theorem num_eq (hO : OrdOK A O n) (p : Int32) (b c : Bk) (i : Nat) (hi : i ≤ n) (hb : ∀ k, A 9 k = p → b.1 k = c.1 k) (day : Int32) (hd : ∀ j, i ≤ j → j < n → day ≤ A 10 (O j)) : numB b A O n p day = nuP c A (gl (qp A p) O i) day := by
  have hg := gM_gP A O n hO p b c i hi hb day hd
  unfold numB nuP
  rw [low_eq b A O n p day hO.1 hO.2.1 hO.2.2.1 hO.2.2.2.2, hg]
  have hx : ∀ x, x ∈ gP c A (gl (qp A p) O i) day → b.1 x = c.1 x := fun x hx => hb x (of_decide_eq_true ((gl_mem _ _ _ _).mp (gP_mem hx)).1)
  rw [rawO_cg hx, lwL_cg (A 10) day _ _ _ hx]
theorem bkStep_oth (b : Bk) (k x : Nat) (h : ¬ A 9 x = A 9 k) : (bkStep A O n R b k).1 x = b.1 x ∧ (bkStep A O n R b k).2.1 x = b.2.1 x ∧ (bkStep A O n R b k).2.2 x = b.2.2 x := by
  have ne : ¬ x = k := fun e => h (by rw [e])
  have up : ∀ v : Option Int32, (va_up b.1 k v, b.2).1 x = b.1 x ∧ (va_up b.1 k v, b.2).2.1 x = b.2.1 x ∧ (va_up b.1 k v, b.2).2.2 x = b.2.2 x := fun v => ⟨by show (if x = k then _ else b.1 x) = _; rw [if_neg ne], rfl, rfl⟩
  unfold bkStep
  split
  · exact ⟨rfl, rfl, rfl⟩
  · split
    · exact up _
    · split
      · split
        · exact ⟨rfl, rfl, rfl⟩
        · exact up _
      · split
        · exact ⟨rfl, rfl, rfl⟩
        · cases hff : ff (qW b A k) O n with
          | none =>
            refine ⟨rfl, ?_, rfl⟩
            show (if x = k then _ else b.2.1 x) = _
            rw [if_neg ne]
          | some o =>
            have hq := of_decide_eq_true (ff_some _ _ _ _ hff).1
            have no : ¬ x = o := fun e => h (by rw [e]; exact hq.2.2.1)
            refine ⟨?_, ?_, ?_⟩
            · show (if x = k then _ else b.1 x) = _
              rw [if_neg ne]
            · show (if x = k then _ else b.2.1 x) = _
              rw [if_neg ne]
            · show (if x = k then _ else if x = o then _ else b.2.2 x) = _
              rw [if_neg ne, if_neg no]
theorem bkStep_own (hO : OrdOK A O n) (c : Bk) (i : Nat) (hi : i < n) (hE : Ep A (A 9 (O i)) (bkA A O n R i) c) : Ep A (A 9 (O i)) (bkStep A O n R (bkA A O n R i) (O i)) (stP A R c (gl (qp A (A 9 (O i))) O i) (O i)) := by
  generalize hb : bkA A O n R i = b at hE
  have hfr : ∀ j, i ≤ j → j < n → fr b (O j) := fun j h1 h2 => by rw [← hb]; exact bkA_fr A O n R hO.2.2.2.1 i (by omega) j h1 h2
  generalize hk : O i = k at hE
  have hnum := num_eq A O n hO (A 9 k) b c i (by omega) (fun x hx => (hE x hx).1) (A 10 k) (fun j h1 h2 => by
    by_cases e : i = j
    · rw [← e, hk]; exact Int32.le_refl _
    · rw [← hk]; exact hO.2.2.1 i j (by omega) h2)
  have hgf : gfB b A O n k (cN A k) = gfP c A (gl (qp A (A 9 k)) O i) k := by unfold gfB gfP; rw [hnum]
  have has : asB b A O n k (cN A k) = asP c A (gl (qp A (A 9 k)) O i) k := by unfold asB asP; rw [hgf]
  have hmk : mkV b A O n R k = mkP c A (gl (qp A (A 9 k)) O i) R k := by unfold mkV mkP; rw [has]
  have hhf : hfV b A O n R k = hfP c A (gl (qp A (A 9 k)) O i) R k := by unfold hfV hfP; rw [has]
  have hff : ff (qW b A k) O n = wtP c A (gl (qp A (A 9 k)) O i) k := by
    unfold wtP
    rw [← ff_flt (qp A (A 9 k)) (qV c A k) O i]
    have e1 := ff_cut (qW b A k) O i (n - i) (fun j h1 h2 w => by
      have := (of_decide_eq_true w).1
      rw [(hfr j h1 (by omega)).2.1] at this; exact absurd this (by decide))
    rw [show i + (n - i) = n by omega] at e1
    rw [e1]
    refine ff_cg O i (fun j hj => ?_)
    unfold qW qp qV
    by_cases h : A 9 (O j) = A 9 k
    · have := hE (O j) h
      rw [this.2.1, this.2.2, decide_eq_true h, Bool.true_and]
      exact decide_eq_decide.mpr ⟨fun w => ⟨w.1, w.2.1, w.2.2.2⟩, fun w => ⟨w.1, w.2.1, h, w.2.2⟩⟩
    · rw [decide_eq_false h, Bool.false_and]
      exact decide_eq_false (fun w => h w.2.2.1)
  have up : ∀ v : Option Int32, Ep A (A 9 k) (va_up b.1 k v, b.2) (va_up c.1 k v, c.2) := fun v x hx => by
    refine ⟨?_, (hE x hx).2⟩
    show (if x = k then v else b.1 x) = if x = k then v else c.1 x
    rw [(hE x hx).1]
  unfold bkStep stP
  rw [hmk, hhf, hff]
  split
  · exact hE
  · split
    · exact up _
    · split
      · split
        · exact hE
        · exact up _
      · split
        · exact hE
        · cases hw : wtP c A (gl (qp A (A 9 k)) O i) k with
          | none =>
            intro x hx
            refine ⟨(hE x hx).1, ?_, (hE x hx).2.2⟩
            show (if x = k then _ else b.2.1 x) = if x = k then _ else c.2.1 x
            rw [(hE x hx).2.1]
          | some o =>
            have ho : A 9 o = A 9 k := by
              rw [hw] at hff
              exact (of_decide_eq_true (ff_some _ _ _ _ hff).1).2.2.1
            intro x hx
            refine ⟨?_, ?_, ?_⟩
            · show (if x = k then some ((b.2.1 o).getD 0 + _) else b.1 x) = if x = k then some ((c.2.1 o).getD 0 + _) else c.1 x
              rw [(hE x hx).1, (hE o ho).2.1]
            · show (if x = k then _ else b.2.1 x) = if x = k then _ else c.2.1 x
              rw [(hE x hx).2.1]
            · show (if x = k then _ else if x = o then _ else b.2.2 x) = if x = k then _ else if x = o then _ else c.2.2 x
              rw [(hE x hx).2.2]
theorem glob (hO : OrdOK A O n) (p : Int32) : ∀ i, i ≤ n → Ep A p (bkA A O n R i) (pb A R (gl (qp A p) O i))
  | 0, _ => fun k _ => ⟨rfl, rfl, rfl⟩
  | i + 1, hi => by
    have ih := glob hO p i (by omega)
    show Ep A p (bkStep A O n R (bkA A O n R i) (O i)) (pb A R (gl (qp A p) O (i + 1)))
    unfold gl
    by_cases h : A 9 (O i) = p
    · have hq : qp A p (O i) = true := decide_eq_true h
      rw [if_pos hq]
      subst h
      exact bkStep_own A O n R hO _ i (by omega) ih
    · have hq : ¬ qp A p (O i) = true := fun w => h (of_decide_eq_true w)
      rw [if_neg hq]
      intro x hx
      obtain ⟨e1, e2, e3⟩ := bkStep_oth A O n R (bkA A O n R i) (O i) x (fun w => h (by rw [← w]; exact hx))
      rw [e1, e2, e3]
      exact ih x hx
end PGlob
/-- a step leaves the marks of others -/
theorem stP_oth (A : Nat → Nat → Int32) (R : Nat) (b : Bk) (t : List Nat) (k x : Nat) (ne : ¬ x = k) : (stP A R b t k).1 x = b.1 x ∧ (stP A R b t k).2.1 x = b.2.1 x := by
  have up : ∀ v : Option Int32, (va_up b.1 k v, b.2).1 x = b.1 x ∧ (va_up b.1 k v, b.2).2.1 x = b.2.1 x := fun v => ⟨by show (if x = k then _ else b.1 x) = _; rw [if_neg ne], rfl⟩
  unfold stP
  split
  · exact ⟨rfl, rfl⟩
  · split
    · exact up _
    · split
      · split
        · exact ⟨rfl, rfl⟩
        · exact up _
      · split
        · exact ⟨rfl, rfl⟩
        · cases wtP b A t k with
          | none =>
            refine ⟨rfl, ?_⟩
            show (if x = k then _ else b.2.1 x) = _
            rw [if_neg ne]
          | some o =>
            refine ⟨?_, ?_⟩
            · show (if x = k then _ else b.1 x) = _
              rw [if_neg ne]
            · show (if x = k then _ else b.2.1 x) = _
              rw [if_neg ne]
theorem mkd_cg {b b' : Bk} {t : List Nat} (h : ∀ x, x ∈ t → b'.1 x = b.1 x) : mkd b' t = mkd b t := List.filter_congr (fun x hx => by rw [h x hx])
theorem nuP_cg {b b' : Bk} {A : Nat → Nat → Int32} {t : List Nat} (h : ∀ x, x ∈ t → b'.1 x = b.1 x) (day : Int32) : nuP b' A t day = nuP b A t day := by
  unfold nuP gP
  rw [mkd_cg h]
  have hx : ∀ x, x ∈ (mkd b t).filter (fun x => decide (A 10 x < day)) → b'.1 x = b.1 x := fun x hx => h x (List.mem_filter.mp (List.mem_filter.mp hx).1).1
  rw [rawO_cg hx, lwL_cg (A 10) day _ _ _ hx]
/-- a NUMBER doesn't see a later card -/
theorem nuP_ext (A : Nat → Nat → Int32) (R : Nat) (t : List Nat) (k : Nat) (hk : ¬ k ∈ t) (day : Int32) (hd : day ≤ A 10 k) : nuP (pb A R (k :: t)) A (k :: t) day = nuP (pb A R t) A t day := by
  have hc : ∀ x, x ∈ t → (pb A R (k :: t)).1 x = (pb A R t).1 x := fun x hx => (stP_oth A R _ t k x (fun e => hk (e ▸ hx))).1
  rw [← nuP_cg (A := A) hc day]
  unfold nuP gP mkd
  rw [List.filter_filter, List.filter_filter, List.filter_cons, if_neg]
  intro w
  rw [Bool.and_eq_true] at w
  exact absurd hd (Int32.not_le.mpr (of_decide_eq_true w.1))
