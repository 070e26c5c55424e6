/-! The book purely, and findLast, findMakers, rawOfMakers by it. Own work. -/
/-- the book: MARK, HALF, JOINED by card -/
abbrev Bk : Type := (Nat → Option Int32) × (Nat → Option Int32) × (Nat → Option Nat)
/-- those of ORDER's first i that pass q, the latest first -/
def gl (q : Nat → Bool) (O : Nat → Nat) : Nat → List Nat
  | 0 => []
  | i + 1 => if q (O i) = true then O i :: gl q O i else gl q O i
def qM (b : Bk) (P D : Nat → Int32) (p day : Int32) (k : Nat) : Bool := (b.1 k).isSome && decide (P k = p) && decide (D k < day)
def BR (A : Nat → Nat → Int32) (n : Nat) (O : Nat → Nat) (b : Bk) : Prop :=
  (∀ i, i < n → O i < n ∧ A 18 i = nI (O i)) ∧ (∀ k, k < n → (A 19 k = 0 ↔ b.1 k = none)) ∧ (∀ k v, k < n → b.1 k = some v → A 20 k = v) ∧
  (∀ k, k < n → (A 21 k = 0 ↔ b.2.1 k = none)) ∧ (∀ k v, k < n → b.2.1 k = some v → A 22 k = v) ∧
  (∀ k, k < n → A 23 k = if (b.2.1 k).isSome = true ∧ b.2.2 k = none then 1 else 0) ∧ (∀ k, k < n → A 24 k = obI (b.2.2 k)) ∧ (∀ k j, k < n → b.2.2 k = some j → j < n)
def Ag (V V' : Nat → Int32) : Prop := ∀ k, k ≠ 29 → k ≠ 31 → k ≠ 34 → V' k = V k
def AgA (A A' : Nat → Nat → Int32) : Prop := ∀ j, j ≠ 25 → j ≠ 26 → j ≠ 27 → A' j = A j
theorem Ag_r (V : Nat → Int32) : Ag V V := fun _ _ _ _ => rfl
theorem AgA_r (A : Nat → Nat → Int32) : AgA A A := fun _ _ _ _ => rfl
theorem Ag_t {V V' V'' : Nat → Int32} (h : Ag V V') (h' : Ag V' V'') : Ag V V'' := fun k a b c => (h' k a b c).trans (h k a b c)
theorem AgA_t {A A' A'' : Nat → Nat → Int32} (h : AgA A A') (h' : AgA A' A'') : AgA A A'' := fun k a b c => (h' k a b c).trans (h k a b c)
theorem BR_ag {A A' : Nat → Nat → Int32} {n : Nat} {O : Nat → Nat} {b : Bk} (h : AgA A A') (hB : BR A n O b) : BR A' n O b := by
  unfold BR at hB ⊢
  rw [h 18 (by decide) (by decide) (by decide), h 19 (by decide) (by decide) (by decide), h 20 (by decide) (by decide) (by decide), h 21 (by decide) (by decide) (by decide), h 22 (by decide) (by decide) (by decide), h 23 (by decide) (by decide) (by decide), h 24 (by decide) (by decide) (by decide)]
  exact hB
theorem gl_mem (q : Nat → Bool) (O : Nat → Nat) (x : Nat) : ∀ i, x ∈ gl q O i ↔ q x = true ∧ ∃ j, j < i ∧ O j = x
  | 0 => by simp [gl]
  | i + 1 => by
    unfold gl
    have ih := gl_mem q O x i
    split
    · rename_i h
      rw [List.mem_cons, ih]
      constructor
      · rintro (e | ⟨a, j, hj, e⟩)
        · subst e; exact ⟨h, i, by omega, rfl⟩
        · exact ⟨a, j, by omega, e⟩
      · rintro ⟨a, j, hj, e⟩
        by_cases hji : j = i
        · subst hji; exact Or.inl e.symm
        · exact Or.inr ⟨a, j, by omega, e⟩
    · rename_i h
      rw [ih]
      constructor
      · rintro ⟨a, j, hj, e⟩; exact ⟨a, j, by omega, e⟩
      · rintro ⟨a, j, hj, e⟩
        refine ⟨a, j, ?_, e⟩
        by_cases hji : j = i
        · subst hji; rw [e] at h; exact absurd a h
        · omega
theorem gd_mem (l : List Nat) (k : Nat) (h : k < l.length) : l.getD k 0 ∈ l := by rw [gd_el l k h]; exact List.getElem_mem h
theorem gl_lt (q : Nat → Bool) (O : Nat → Nat) (n i : Nat) (hO : ∀ j, j < i → O j < n) (k : Nat) (hk : k < (gl q O i).length) : (gl q O i).getD k 0 < n := by
  obtain ⟨_, j, hj, e⟩ := (gl_mem q O _ i).mp (gd_mem _ k hk)
  rw [← e]; exact hO j hj
theorem glF_gl (A : Nat → Nat → Int32) (n : Nat) (O : Nat → Nat) (b : Bk) (h60 : n ≤ 60) (hB : BR A n O b) (p day : Int32) : ∀ (i m0 : Nat) (L0 : Nat → Int32), i ≤ n → m0 ≤ 20 →
    (glF A p day i m0 L0).1 = min 20 (m0 + (gl (qM b (A 9) (A 10) p day) O i).length) ∧ ∀ j, (glF A p day i m0 L0).2 j = if m0 ≤ j ∧ j < min 20 (m0 + (gl (qM b (A 9) (A 10) p day) O i).length) then nI ((gl (qM b (A 9) (A 10) p day) O i).getD (j - m0) 0) else L0 j
  | 0, m0, L0, _, h20 => by
    unfold glF gl
    refine ⟨by simp; omega, fun j => ?_⟩
    rw [if_neg (by simp; omega)]
  | i + 1, m0, L0, hi, h20 => by
    have hO := hB.1 i (by omega)
    have cO : (A 18 i).toNatClampNeg = O i := by rw [hO.2]; exact nI_clamp (by omega)
    have hq : (¬ A 19 (A 18 i).toNatClampNeg = 0 ∧ A 9 (A 18 i).toNatClampNeg = p ∧ A 10 (A 18 i).toNatClampNeg < day) ↔ qM b (A 9) (A 10) p day (O i) = true := by
      rw [cO, hB.2.1 _ hO.1]
      unfold qM
      rw [Bool.and_eq_true, Bool.and_eq_true, decide_eq_true_iff, decide_eq_true_iff]
      cases h : b.1 (O i) with
      | none => simp
      | some v => simp
    unfold glF
    by_cases h : 20 ≤ m0
    · rw [if_pos h]
      refine ⟨by show m0 = _; omega, fun j => ?_⟩
      rw [if_neg (by omega)]
    · rw [if_neg h]
      by_cases hc : qM b (A 9) (A 10) p day (O i) = true
      · rw [if_pos (hq.mpr hc)]
        have ih := glF_gl A n O b h60 hB p day i (m0 + 1) (upd L0 m0 (A 18 i)) (by omega) (by omega)
        have e : gl (qM b (A 9) (A 10) p day) O (i + 1) = O i :: gl (qM b (A 9) (A 10) p day) O i := by
          show (if _ then _ else _) = _
          rw [if_pos hc]
        rw [e, List.length_cons]
        refine ⟨by rw [ih.1]; omega, fun j => ?_⟩
        rw [ih.2 j]
        by_cases hj : j = m0
        · subst hj
          rw [if_neg (by omega), if_pos (by omega)]
          unfold upd
          rw [if_pos rfl, hO.2, show j - j = 0 by omega]; rfl
        · by_cases hr : m0 + 1 ≤ j ∧ j < min 20 (m0 + 1 + (gl (qM b (A 9) (A 10) p day) O i).length)
          · rw [if_pos hr, if_pos (by omega)]
            rw [show j - m0 = j - (m0 + 1) + 1 by omega]; rfl
          · rw [if_neg hr, if_neg (by omega)]
            unfold upd
            rw [if_neg hj]
      · rw [if_neg (fun w => hc (hq.mp w))]
        have e : gl (qM b (A 9) (A 10) p day) O (i + 1) = gl (qM b (A 9) (A 10) p day) O i := by
          show (if _ then _ else _) = _
          rw [if_neg hc]
        rw [e]
        exact glF_gl A n O b h60 hB p day i m0 L0 (by omega) h20
theorem rvF_is (m : Nat) (L : Nat → Int32) : ∀ k, k ≤ m / 2 → ∀ j, rvF m L k j = if j < m ∧ (j < k ∨ m ≤ j + k) then L (m - 1 - j) else L j
  | 0, _, j => by
    show L j = _
    rw [if_neg (by omega)]
  | k + 1, hk, j => by
    have ih := rvF_is m L k (by omega)
    show upd (upd (rvF m L k) k (rvF m L k (m - 1 - k))) (m - 1 - k) (rvF m L k k) j = _
    have e1 : rvF m L k k = L k := by rw [ih k, if_neg (by omega)]
    have e2 : rvF m L k (m - 1 - k) = L (m - 1 - k) := by rw [ih (m - 1 - k), if_neg (by omega)]
    rw [e1, e2]
    unfold upd
    rw [ih j]
    by_cases h1 : j = m - 1 - k
    · rw [if_pos h1, if_pos (by omega)]
      rw [show m - 1 - j = k by omega]
    · rw [if_neg h1]
      by_cases h2 : j = k
      · rw [if_pos h2, if_pos (by omega), h2]
      · rw [if_neg h2]
        by_cases h3 : j < m ∧ (j < k ∨ m ≤ j + k)
        · rw [if_pos h3, if_pos (by omega)]
        · rw [if_neg h3, if_neg (by omega)]
/-- the LAST of a list of marked ones -/
def m20 (l : List Nat) : Nat := min 20 l.length
def mv (b : Bk) (k : Nat) : Int32 := (b.1 k).getD 0
def wl (b : Bk) (l : List Nat) (c : Nat) : Int32 := mv b (l.getD c 0)
def sw (w : Nat → Int32) (s : List Nat) : Nat → Int32
  | 0 => 0
  | k + 1 => sw w s k + w (s.getD k 0)
def rawS (w : Nat → Int32) (m : Nat) : Int32 := if rnd (sw w (sp w m) (tkN m)) (nI (tkN m)) - lsF m < 540 then rnd (sw w (sp w m) (tkN m)) (nI (tkN m)) - lsF m else 540
def rwL (b : Bk) (l : List Nat) : Int32 := rawS (wl b l) (m20 l)
/-- the marked ones of a player ahead of a day -/
def gM (b : Bk) (A : Nat → Nat → Int32) (O : Nat → Nat) (n : Nat) (p day : Int32) : List Nat := gl (qM b (A 9) (A 10) p day) O n
theorem tkN_le (m : Nat) (h : m ≤ 20) : tkN m ≤ m ∧ tkN m ≤ 8 := by
  unfold tkN
  repeat' split
  all_goals omega
theorem tkN_0 (m : Nat) : tkN m = 0 ↔ m < 3 := by
  unfold tkN
  repeat' split
  all_goals omega
section MGath
variable (d : Nat) (z0 : ZS) (V : Nat → Int32) (A : Nat → Nat → Int32)
theorem M_last (hM : MT z0) (n : Nat) (hn : V 10 = nI n) (h60 : n ≤ 60) (O : Nat → Nat) (b : Bk) (hB : BR A n O b) (p day : Int32) : ∃ L' : Nat → Int32, Rn (d + 1) i_M_findLast [.ref 46, .int p, .int day] (mz z0 V A) none (mz z0 (upd V 29 (nI (m20 (gM b A O n p day)))) (sA A 25 L')) ∧ ∀ i, i < m20 (gM b A O n p day) → L' i = nI ((gM b A O n p day).getD (m20 (gM b A O n p day) - 1 - i) 0) := by
  have hO : okB (A 18) n := fun j hj => ⟨O j, by have := (hB.1 j hj).1; omega, (hB.1 j hj).2⟩
  have r := M_findLast d z0 V A hM n hn h60 hO p day
  have g := glF_gl A n O b h60 hB p day n 0 (A 25) (Nat.le_refl _) (by omega)
  have e : (glF A p day n 0 (A 25)).1 = m20 (gM b A O n p day) := by rw [g.1]; unfold m20 gM; rw [Nat.zero_add]
  rw [e] at r
  refine ⟨_, r, fun i hi => ?_⟩
  have hm : m20 (gM b A O n p day) = min 20 (0 + (gl (qM b (A 9) (A 10) p day) O n).length) := by unfold m20 gM; rw [Nat.zero_add]
  rw [rvF_is _ _ _ (Nat.le_refl _)]
  have v : ∀ j, j < m20 (gM b A O n p day) → (glF A p day n 0 (A 25)).2 j = nI ((gM b A O n p day).getD j 0) := by
    intro j hj
    rw [g.2 j, if_pos ⟨by omega, by omega⟩]; rfl
  by_cases h : i < m20 (gM b A O n p day) ∧ (i < m20 (gM b A O n p day) / 2 ∨ m20 (gM b A O n p day) ≤ i + m20 (gM b A O n p day) / 2)
  · rw [if_pos h, v _ (by omega)]
  · rw [if_neg h, v _ (by omega), show m20 (gM b A O n p day) - 1 - i = i by omega]
theorem M_findMakers (hM : MT z0) (n : Nat) (hn : V 10 = nI n) (h60 : n ≤ 60) (O : Nat → Nat) (b : Bk) (hB : BR A n O b) (p day : Int32) : ∃ (V' : Nat → Int32) (A' : Nat → Nat → Int32), Rn (d + 2) i_M_findMakers [.ref 46, .int p, .int day] (mz z0 V A) none (mz z0 V' A') ∧ Ag V V' ∧ AgA A A' ∧ V' 34 = V 34 ∧ V' 29 = nI (m20 (gM b A O n p day)) ∧ V' 31 = nI (tkN (m20 (gM b A O n p day))) ∧
    ∀ j, j < tkN (m20 (gM b A O n p day)) → A' 26 j = nI ((gM b A O n p day).getD ((sp (wl b (gM b A O n p day)) (m20 (gM b A O n p day))).getD j 0) 0) := by
  obtain ⟨L, r, hL⟩ := M_last d z0 V A hM n hn h60 O b hB p day
  have hlt : ∀ k, k < (gM b A O n p day).length → (gM b A O n p day).getD k 0 < n ∧ (b.1 ((gM b A O n p day).getD k 0)).isSome = true := by
    intro k hk
    refine ⟨gl_lt _ O n n (fun j hj => (hB.1 j hj).1) k hk, ?_⟩
    have := ((gl_mem _ O _ n).mp (gd_mem _ k hk)).1
    unfold qM at this
    rw [Bool.and_eq_true, Bool.and_eq_true] at this
    exact this.1.1
  have hm20 : m20 (gM b A O n p day) ≤ 20 ∧ m20 (gM b A O n p day) ≤ (gM b A O n p day).length := by unfold m20; omega
  generalize gM b A O n p day = l at r hL hlt hm20 ⊢
  generalize hmm : m20 l = m at r hL hm20 ⊢
  have tk := tkN_le m hm20.1
  have hL25 : okB ((sA A 25 L) 25) m := by
    intro j hj
    show ∃ q, q < 60 ∧ L j = nI q
    exact ⟨_, by have := (hlt (m - 1 - j) (by omega)).1; omega, hL j hj⟩
  have hw : ∀ i, i < m → (fun i => (sA A 25 L) 20 ((sA A 25 L) 25 i).toNatClampNeg) i = wl b l (m - 1 - i) := by
    intro i hi
    show A 20 (L i).toNatClampNeg = _
    obtain ⟨h1, h2⟩ := hlt (m - 1 - i) (by omega)
    rw [hL i hi, nI_clamp (by omega)]
    obtain ⟨v, hv⟩ := Option.isSome_iff_exists.mp h2
    rw [hB.2.2.1 _ v h1 hv]
    unfold wl mv
    rw [hv]; rfl
  have tz : ∀ (T : Nat → Int32) (k i : Nat), i < k → tzF T k i = 0 := by
    intro T k
    induction k with
    | zero => intro i hi; omega
    | succ k ih =>
      intro i hi
      show upd (tzF T k) k 0 i = 0
      unfold upd
      by_cases e : i = k
      · rw [if_pos e]
      · rw [if_neg e]; exact ih i (by omega)
  have os := osF_sp (wl b l) ((sA A 25 L) 25) (tzF ((sA A 25 L) 27) m) ((sA A 25 L) 26) (fun i => (sA A 25 L) 20 ((sA A 25 L) 25 i).toNatClampNeg) m hw (fun i hi => tz _ m i hi)
  refine ⟨upd (upd V 29 (nI m)) 31 (nI (tkN m)), sA (sA (sA A 25 L) 27 (osF (fun i => (sA A 25 L) 20 ((sA A 25 L) 25 i).toNatClampNeg) ((sA A 25 L) 25) (tzF ((sA A 25 L) 27) m) ((sA A 25 L) 26) m (tkN m)).1) 26 (osF (fun i => (sA A 25 L) 20 ((sA A 25 L) 25 i).toNatClampNeg) ((sA A 25 L) 25) (tzF ((sA A 25 L) 27) m) ((sA A 25 L) 26) m (tkN m)).2, rn_i (full := cd_146) hM.1 (ok_n rfl) rfl (fun K hK => hK 0 _ _ _ ⟨_, _, r, ⟨hM.1, ⟨_, _, M_taken d _ m (by omega), ⟨hM.1, ?_⟩⟩⟩⟩), ?_, ?_, ?_, ?_, ?_, ?_⟩
  · rw [mz_sV]
    exact M_mak (d := d + 1) z0 (upd (upd V 29 (nI m)) 31 (nI (tkN m))) (sA A 25 L) hM m (tkN m) rfl rfl hm20.1 tk.2 hL25 p day _ rfl (fun k hk => ⟨_, (os k (by omega)).2.2 (by omega)⟩) K _ hK ⟨rfl, rfl⟩ _ _
  · intro k a b' c
    show (if k = 31 then _ else if k = 29 then _ else V k) = V k
    rw [if_neg b', if_neg a]
  · intro j a b' c
    show (if j = 26 then _ else if j = 27 then _ else if j = 25 then L else A j) = A j
    rw [if_neg b', if_neg c, if_neg a]
  · rfl
  · rfl
  · rfl
  · intro j hj
    show (osF _ _ _ _ m (tkN m)).2 j = _
    rw [(os (tkN m) tk.1).2.1 j hj]
    show L (m - 1 - (sp (wl b l) m).getD j 0) = _
    have s := sp_lt (wl b l) m j (by omega)
    rw [hL _ (by omega), show m - 1 - (m - 1 - (sp (wl b l) m).getD j 0) = (sp (wl b l) m).getD j 0 by omega]
/-- rawOfMakers behind findMakers -/
theorem M_raw (hM : MT z0) (b : Bk) (l : List Nat) (n : Nat) (h60 : n ≤ 60) (hlt : ∀ k, k < l.length → l.getD k 0 < n ∧ A 20 (l.getD k 0) = mv b (l.getD k 0)) (h29 : V 29 = nI (m20 l)) (h31 : V 31 = nI (tkN (m20 l))) (h26 : ∀ j, j < tkN (m20 l) → A 26 j = nI (l.getD ((sp (wl b l) (m20 l)).getD j 0) 0)) (h3 : ¬ tkN (m20 l) = 0) : Rn (d + 3) i_M_rawOfMakers [.ref 46] (mz z0 V A) (some (.int (rwL b l))) (mz z0 V A) := by
  have hm20 : m20 l ≤ 20 ∧ m20 l ≤ l.length := by unfold m20; omega
  have tk := tkN_le (m20 l) hm20.1
  have sl : ∀ j, j < tkN (m20 l) → l.getD ((sp (wl b l) (m20 l)).getD j 0) 0 < n ∧ A 20 (l.getD ((sp (wl b l) (m20 l)).getD j 0) 0) = mv b (l.getD ((sp (wl b l) (m20 l)).getD j 0) 0) := fun j hj => hlt _ (by have := sp_lt (wl b l) (m20 l) j (by omega); omega)
  have r := M_rawOfMakers d z0 V A hM (tkN (m20 l)) (m20 l) h31 (by omega) tk.2 h29 hm20.1 (fun j hj => ⟨_, by have := (sl j hj).1; omega, h26 j hj⟩)
  have sm : ∀ k, k ≤ tkN (m20 l) → smF A k = sw (wl b l) (sp (wl b l) (m20 l)) k := by
    intro k
    induction k with
    | zero => intro _; rfl
    | succ k ih =>
      intro hk
      show smF A k + A 20 (A 26 k).toNatClampNeg = _
      rw [ih (by omega), h26 k (by omega), nI_clamp (by have := (sl k (by omega)).1; omega), (sl k (by omega)).2]; rfl
  have e : rwF A (tkN (m20 l)) (m20 l) = rwL b l := by
    unfold rwF rwL rawS
    rw [sm _ (Nat.le_refl _)]
  rw [e] at r
  exact r
end MGath
