/-! ORDER as a list; the model's writeBook. Own work. -/
def insO (D : Nat → Int32) (k : Nat) : List Nat → List Nat
  | [] => [k]
  | y :: t => if D k < D y then k :: y :: t else y :: insO D k t
def odl (D : Nat → Int32) : Nat → List Nat
  | 0 => []
  | k + 1 => insO D k (odl D k)
def oF (D : Nat → Int32) (n i : Nat) : Nat := (odl D n).getD i 0
theorem insO_mem (D : Nat → Int32) (k x : Nat) : ∀ l : List Nat, x ∈ insO D k l ↔ x = k ∨ x ∈ l
  | [] => by simp [insO]
  | y :: t => by
    unfold insO
    split
    · simp
    · have := insO_mem D k x t
      simp only [List.mem_cons, this]
      constructor
      · rintro (h | h | h)
        · exact Or.inr (Or.inl h)
        · exact Or.inl h
        · exact Or.inr (Or.inr h)
      · rintro (h | h | h)
        · exact Or.inr (Or.inl h)
        · exact Or.inl h
        · exact Or.inr (Or.inr h)
theorem insO_len (D : Nat → Int32) (k : Nat) : ∀ l : List Nat, (insO D k l).length = l.length + 1
  | [] => rfl
  | y :: t => by
    unfold insO
    split
    · rfl
    · show (insO D k t).length + 1 = _
      rw [insO_len D k t]; rfl
theorem odl_mem (D : Nat → Int32) (x : Nat) : ∀ n, x ∈ odl D n ↔ x < n
  | 0 => by simp [odl]
  | n + 1 => by unfold odl; rw [insO_mem, odl_mem D x n]; omega
theorem odl_len (D : Nat → Int32) : ∀ n, (odl D n).length = n
  | 0 => rfl
  | n + 1 => by unfold odl; rw [insO_len, odl_len D n]
def rO (D : Nat → Int32) (x y : Nat) : Prop := D x ≤ D y ∧ x ≠ y
theorem insO_pw (D : Nat → Int32) (k : Nat) : ∀ l : List Nat, l.Pairwise (rO D) → (∀ y, y ∈ l → y < k) → (insO D k l).Pairwise (rO D)
  | [], _, _ => by simp [insO]
  | y :: t, h, hc => by
    unfold insO
    have hy := List.pairwise_cons.mp h
    split
    · rename_i hlt
      refine List.pairwise_cons.mpr ⟨fun z hz => ⟨?_, by have := hc z hz; omega⟩, h⟩
      rcases List.mem_cons.mp hz with e | e
      · rw [e]; exact Int32.le_of_lt hlt
      · have := (hy.1 z e).1
        rw [i32_le] at this ⊢
        rw [i32_lt] at hlt
        omega
    · rename_i hlt
      refine List.pairwise_cons.mpr ⟨fun z hz => ?_, insO_pw D k t hy.2 (fun z hz => hc z (List.mem_cons_of_mem _ hz))⟩
      rcases (insO_mem D k z t).mp hz with e | e
      · refine ⟨by rw [e]; exact Int32.not_lt.mp hlt, ?_⟩
        have := hc y List.mem_cons_self
        omega
      · exact hy.1 z e
theorem odl_pw (D : Nat → Int32) : ∀ n, (odl D n).Pairwise (rO D)
  | 0 => List.Pairwise.nil
  | n + 1 => insO_pw D n _ (odl_pw D n) (fun y hy => (odl_mem D y n).mp hy)
theorem oF_lt (D : Nat → Int32) (n i : Nat) (h : i < n) : oF D n i < n := (odl_mem D _ n).mp (gd_mem _ i (by rw [odl_len]; exact h))
theorem oF_r (D : Nat → Int32) (n i j : Nat) (h : i < j) (hj : j < n) : rO D (oF D n i) (oF D n j) := by
  unfold oF
  rw [gd_el _ i (by rw [odl_len]; omega), gd_el _ j (by rw [odl_len]; omega)]
  exact List.pairwise_iff_getElem.mp (odl_pw D n) i j (by rw [odl_len]; omega) (by rw [odl_len]; omega) h
theorem oF_inj (D : Nat → Int32) (n i j : Nat) (hi : i < n) (hj : j < n) (e : oF D n i = oF D n j) : i = j := by
  rcases Nat.lt_trichotomy i j with h | h | h
  · exact absurd e (oF_r D n i j h hj).2
  · exact h
  · exact absurd e.symm (oF_r D n j i h hi).2
theorem oF_sur (D : Nat → Int32) (n x : Nat) (h : x < n) : ∃ i, i < n ∧ oF D n i = x := by
  obtain ⟨i, hi, e⟩ := List.mem_iff_getElem.mp ((odl_mem D x n).mpr h)
  refine ⟨i, by rw [odl_len] at hi; exact hi, ?_⟩
  unfold oF; rw [gd_el _ i hi]; exact e
theorem insO_at (D : Nat → Int32) (k : Nat) : ∀ (l : List Nat) (p : Nat), p ≤ l.length → (∀ j, j < p → D (l.getD j 0) ≤ D k) → (∀ j, p ≤ j → j < l.length → D k < D (l.getD j 0)) → ∀ j, (insO D k l).getD j 0 = if j < p then l.getD j 0 else if j = p then k else l.getD (j - 1) 0
  | [], p, hp, _, _, j => by
    have : p = 0 := by simpa using hp
    subst this
    cases j with
    | zero => rfl
    | succ j => simp [insO]
  | y :: t, 0, _, _, h2, j => by
    have this : D k < D y := h2 0 (by omega) (by simp)
    have e : insO D k (y :: t) = k :: y :: t := by
      show (if _ then _ else _) = _
      rw [if_pos this]
    rw [e]
    cases j with
    | zero => rfl
    | succ j => rfl
  | y :: t, p + 1, hp, h1, h2, j => by
    have this : D y ≤ D k := h1 0 (by omega)
    have e : insO D k (y :: t) = y :: insO D k t := by
      show (if _ then _ else _) = _
      rw [if_neg (Int32.not_lt.mpr this)]
    rw [e]
    have ih := insO_at D k t p (by simpa using hp) (fun j hj => h1 (j + 1) (by omega)) (fun j hj hl => h2 (j + 1) (by omega) (by simpa using hl))
    cases j with
    | zero => rw [if_pos (by omega)]; rfl
    | succ j =>
      show (insO D k t).getD j 0 = _
      rw [ih j]
      by_cases a : j < p
      · rw [if_pos a, if_pos (by omega)]; rfl
      · rw [if_neg a]
        by_cases b : j = p
        · rw [if_pos b, if_neg (by omega), if_pos (by omega)]
        · rw [if_neg b, if_neg (by omega), if_neg (by omega)]
          rw [show j + 1 - 1 = (j - 1) + 1 by omega]; rfl
theorem isF_at (D : Nat → Int32) (k : Nat) (l : List Nat) (h60 : ∀ j, j < l.length → l.getD j 0 < 60) (hs : ∀ a b, a < b → b < l.length → D (l.getD a 0) ≤ D (l.getD b 0)) : ∀ (i : Nat) (B : Nat → Int32), i ≤ l.length → (∀ j, j < i → B j = nI (l.getD j 0)) → (∀ j, i ≤ j → j < l.length → B (j + 1) = nI (l.getD j 0)) → (∀ j, i ≤ j → j < l.length → D k < D (l.getD j 0)) →
    ∃ p, p ≤ l.length ∧ (∀ j, j < p → D (l.getD j 0) ≤ D k) ∧ (∀ j, p ≤ j → j < l.length → D k < D (l.getD j 0)) ∧ ∀ j, j ≤ l.length → isF D k i B j = nI (if j < p then l.getD j 0 else if j = p then k else l.getD (j - 1) 0)
  | 0, B, hi, h1, h2, h3 => by
    refine ⟨0, by omega, fun j hj => by omega, h3, fun j hj => ?_⟩
    show upd B 0 (nI k) j = _
    rw [if_neg (by omega)]
    unfold upd
    by_cases e : j = 0
    · rw [if_pos e, if_pos e]
    · rw [if_neg e, if_neg e]
      have := h2 (j - 1) (by omega) (by omega)
      rw [show j - 1 + 1 = j by omega] at this; exact this
  | i + 1, B, hi, h1, h2, h3 => by
    have eB := h1 i (by omega)
    have cB : (B i).toNatClampNeg = l.getD i 0 := by rw [eB]; exact nI_clamp (by have := h60 i (by omega); omega)
    unfold isF
    rw [cB]
    by_cases hd : D (l.getD i 0) ≤ D k
    · rw [if_pos hd]
      refine ⟨i + 1, hi, fun j hj => ?_, h3, fun j hj => ?_⟩
      · by_cases e : j = i
        · rw [e]; exact hd
        · have := hs j i (by omega) (by omega)
          rw [i32_le] at this hd ⊢; omega
      · unfold upd
        by_cases e : j = i + 1
        · rw [if_pos e, if_neg (by omega), if_pos e]
        · rw [if_neg e]
          by_cases a : j < i + 1
          · rw [if_pos a]; exact h1 j a
          · rw [if_neg a, if_neg e]
            have := h2 (j - 1) (by omega) (by omega)
            rw [show j - 1 + 1 = j by omega] at this; exact this
    · rw [if_neg hd]
      have hd' := Int32.not_le.mp hd
      refine isF_at D k l h60 hs i _ (by omega) (fun j hj => ?_) (fun j hj hl => ?_) (fun j hj hl => ?_)
      · unfold upd
        rw [if_neg (by omega)]; exact h1 j (by omega)
      · unfold upd
        by_cases e : j = i
        · rw [if_pos (by omega), e]; exact eB
        · rw [if_neg (by omega)]; exact h2 j (by omega) hl
      · by_cases e : j = i
        · rw [e]; exact hd'
        · exact h3 j (by omega) hl
theorem foF_odl (D : Nat → Int32) (B : Nat → Int32) : ∀ k, k ≤ 60 → ∀ j, j < k → foF D k B j = nI (oF D k j)
  | 0, _, j, hj => by omega
  | k + 1, hk, j, hj => by
    have ih := foF_odl D B k (by omega)
    show isF D k k (foF D k B) j = nI ((insO D k (odl D k)).getD j 0)
    have L := odl_len D k
    obtain ⟨p, p1, p2, p3, p4⟩ := isF_at D k (odl D k) (fun j hj => by rw [L] at hj; have := oF_lt D k j hj; unfold oF at this; omega) (fun a b hab hb => by rw [L] at hb; exact (oF_r D k a b hab hb).1) k (foF D k B) (by omega) (fun j hj => ih j hj) (fun j h1 h2 => by omega) (fun j h1 h2 => by omega)
    rw [p4 j (by omega), insO_at D k (odl D k) p p1 p2 p3 j]
def b0 : Bk := (fun _ => none, fun _ => none, fun _ => none)
/-- the book behind ORDER's first i -/
def bkA (A : Nat → Nat → Int32) (O : Nat → Nat) (n R : Nat) : Nat → Bk
  | 0 => b0
  | i + 1 => bkStep A O n R (bkA A O n R i) (O i)
theorem bkA_fr (A : Nat → Nat → Int32) (O : Nat → Nat) (n R : Nat) (inj : ∀ i j, i < n → j < n → O i = O j → i = j) : ∀ i, i ≤ n → ∀ j, i ≤ j → j < n → fr (bkA A O n R i) (O j)
  | 0, _, j, _, _ => ⟨rfl, rfl, rfl⟩
  | i + 1, hi, j, hj, hn => step_fr (bkA_fr A O n R inj i (by omega) j (by omega) hn) (fun e => by have := inj j i hn (by omega) e; omega)
def clF (A : Nat → Nat → Int32) : Nat → Nat → Nat → Int32
  | 0 => A
  | k + 1 => u2 (u2 (u2 (u2 (clF A k) 19 k 0) 21 k 0) 23 k 0) 24 k (-1)
theorem clF_o (A : Nat → Nat → Int32) (q : Nat) (hq : q < 19) : ∀ k, clF A k q = A q
  | 0 => rfl
  | k + 1 => by
    rw [← clF_o A q hq k]; funext i
    show (if q = 24 ∧ i = k then _ else if q = 23 ∧ i = k then _ else if q = 21 ∧ i = k then _ else if q = 19 ∧ i = k then _ else clF A k q i) = _
    rw [if_neg (by omega), if_neg (by omega), if_neg (by omega), if_neg (by omega)]
theorem clF_i (A : Nat → Nat → Int32) (j : Nat) : ∀ k, j < k → clF A k 19 j = 0 ∧ clF A k 21 j = 0 ∧ clF A k 23 j = 0 ∧ clF A k 24 j = -1
  | 0, h => by omega
  | k + 1, h => by
    show (if 19 = 19 ∧ j = k then (0 : Int32) else clF A k 19 j) = 0 ∧ (if 21 = 21 ∧ j = k then (0 : Int32) else clF A k 21 j) = 0 ∧ (if 23 = 23 ∧ j = k then (0 : Int32) else clF A k 23 j) = 0 ∧ (if 24 = 24 ∧ j = k then (-1 : Int32) else clF A k 24 j) = -1
    by_cases e : j = k
    · rw [if_pos ⟨rfl, e⟩, if_pos ⟨rfl, e⟩, if_pos ⟨rfl, e⟩, if_pos ⟨rfl, e⟩]; exact ⟨rfl, rfl, rfl, rfl⟩
    · rw [if_neg (fun w => e w.2), if_neg (fun w => e w.2), if_neg (fun w => e w.2), if_neg (fun w => e w.2)]; exact clF_i A j k (by omega)
theorem BR_clr (A : Nat → Nat → Int32) (n : Nat) (O : Nat → Nat) (h : ∀ i, i < n → O i < n ∧ A 18 i = nI (O i)) : BR (clF A n) n O b0 := by
  have i := fun j hj => clF_i A j n hj
  refine ⟨fun j hj => ⟨(h j hj).1, by rw [clF_o A 18 (by decide)]; exact (h j hj).2⟩, fun k hk => ⟨fun _ => rfl, fun _ => (i k hk).1⟩, fun k v _ e => (by cases e), fun k hk => ⟨fun _ => rfl, fun _ => (i k hk).2.1⟩, fun k v _ e => (by cases e), fun k hk => (i k hk).2.2.1, fun k hk => (i k hk).2.2.2, fun k j _ e => (by cases e)⟩
section MWb
variable (d : Nat) (z0 : ZS) (V : Nat → Int32) (A : Nat → Nat → Int32)
theorem M_writeBook (hM : MT z0) (n : Nat) (hn : V 10 = nI n) (h60 : n ≤ 60) (R : Nat) (hR : V 4 = nI R) (h30 : R ≤ 30) (hW : ∀ k, k < n → WK A k) (hS : SL A) : ∃ (V' : Nat → Int32) (A' : Nat → Nat → Int32), Rn (d + 10) i_M_writeBook [.ref 46] (mz z0 V A) none (mz z0 V' A') ∧ Ag V V' ∧ AgB A A' ∧ BR A' n (oF (A 10) n) (bkA A (oF (A 10) n) n R n) := by
  have q : Rq (d + 10) i_M_writeBook [.ref 46] (mz z0 V A) (fun r z' => ∃ (V' : Nat → Int32) (A' : Nat → Nat → Int32), r = none ∧ z' = mz z0 V' A' ∧ Ag V V' ∧ AgB A A' ∧ BR A' n (oF (A 10) n) (bkA A (oF (A 10) n) n R n)) := by
    refine rq_i (full := cd_135) hM.1 (fun _ _ _ => ok_n rfl) rfl (fun K hK => hK 0 _ _ _ ⟨_, _, M_findOrder (d + 8) z0 V A hM n hn h60, ?_⟩)
    generalize hO : oF (A 10) n = O
    have hlt : ∀ i, i < n → O i < n := fun i hi => by rw [← hO]; exact oF_lt _ n i hi
    have inj : ∀ i j, i < n → j < n → O i = O j → i = j := by rw [← hO]; exact oF_inj (A 10) n
    generalize hA1 : sA A 18 (foF (A 10) n (A 18)) = A1
    have ab1 : AgB A A1 := fun j hj => by
      rw [← hA1]
      show (if j = 18 then _ else A j) = A j
      rw [if_neg (by omega)]
    have h18 : ∀ i, i < n → O i < n ∧ A1 18 i = nI (O i) := fun i hi => ⟨hlt i hi, by
      rw [← hA1, ← hO]
      exact foF_odl (A 10) (A 18) n h60 i hi⟩
    have key2 := loop_up (P := fun i => ∀ (V' : Nat → Int32) (A' : Nat → Nat → Int32) (v : Value), Ag V V' → AgB A A' → BR A' n O (bkA A O n R i) → K 50 [.ref 46, .int (nI i), v] [] (mz z0 V' A')) n (fun i hi ih V' A' v hV hA hB => ?_) 0 (by omega)
    · refine loop_up (P := fun k => ∀ v : Value, K 6 [.ref 46, .int (nI k), v] [] (mz z0 V (clF A1 k))) n (fun k hk ih v => ?_) 0 (by omega) .null
      have vk : k < n → vp_in (nI k) 60 := fun h => vp_in_nI (by omega) (by decide)
      have lt : ¬ V 10 ≤ nI k → k < n := fun c1 => by rw [hn] at c1; exact nI_leN (by omega) (by omega) c1
      refine hK 4 _ _ _ ⟨hM.1, ⟨fun c1 => ?_, fun c1 => ⟨mt_g hM 19 (by decide), ⟨mt_b hM 19 (by decide) (vk (lt c1)) (Or.inl rfl), ⟨mt_g hM 21 (by decide), ⟨mt_b hM 21 (by decide) (vk (lt c1)) (Or.inl rfl), ⟨mt_g hM 23 (by decide), ⟨mt_b hM 23 (by decide) (vk (lt c1)) (Or.inl rfl), ⟨mt_g hM 24 (by decide), ⟨mt_l hM 24 (by decide) (vk (lt c1)), ?_⟩⟩⟩⟩⟩⟩⟩⟩⟩⟩
      · have c1 : V 10 ≤ nI k := c1
        rw [hn] at c1
        have c1 : n ≤ k := (nI_leI (by omega) (by omega)).mp c1
        have : k = n := by omega
        subst this
        exact key2 V (clF A1 k) v (Ag_r V) (AgB_t ab1 (fun j hj => clF_o A1 j (by omega) k)) (BR_clr A1 k O h18)
      · have c1 := lt c1
        have ih := ih c1 v
        have ck : (nI k).toNatClampNeg = k := nI_clamp (by omega)
        rw [mz_sA (by decide) (by decide), mz_sA (by decide) (by decide), mz_sA (by decide) (by decide), mz_sA (by decide) (by decide), ck]
        rw [nI_succ] at ih
        exact ih
    · have h10 : V' 10 = nI n := (hV 10 (by decide) (by decide) (by decide)).trans hn
      have h4 : V' 4 = nI R := (hV 4 (by decide) (by decide) (by decide)).trans hR
      by_cases hin : i < n
      · have hOi := hB.1 i hin
        have ci : (nI i).toNatClampNeg = i := nI_clamp (by omega)
        have vi : vp_in (nI i) 60 := vp_in_nI (by omega) (by decide)
        have e18 : A' 18 (nI i).toNatClampNeg = nI (O i) := by rw [ci]; exact hOi.2
        have vo : vp_in (A' 18 (nI i).toNatClampNeg) 60 := by rw [e18]; exact vp_in_nI (by omega) (by decide)
        have co : (A' 18 (nI i).toNatClampNeg).toNatClampNeg = O i := by rw [e18]; exact nI_clamp (by omega)
        have c1' : ¬ V' 10 ≤ nI i := by rw [h10]; exact nI_ge (by omega) (by omega)
        have e14 : A' 14 = A 14 := hA 14 (by decide)
        have ih := ih hin
        rw [nI_succ] at ih
        by_cases hv : A 14 (O i) = 0
        · have WK' : WK A' (O i) := by
            have := hW (O i) hOi.1
            unfold WK at this ⊢
            rw [hA 8 (by decide), hA 11 (by decide)]
            exact this.imp id (fun w => ⟨w.1, CK_b hA w.2.1, w.2.2⟩)
          have SL' : SL A' := by unfold SL; rw [hA 1 (by decide)]; exact hS
          obtain ⟨V2, A2, r, g1, g2, g3⟩ := M_writeCard d z0 V' A' hM n h10 h60 R h4 h30 O _ hB (O i) hOi.1 WK' SL' (by rw [e14]; exact hv) (bkA_fr A O n R inj i (by omega) i (by omega) hin)
          rw [bkStep_b hA] at g3
          have r' : Rn (d + 9) i_M_writeCard [.ref 46, .int (A' 18 (nI i).toNatClampNeg)] (mz z0 V' A') none (mz z0 V2 A2) := by rw [e18]; exact r
          refine hK 32 _ _ _ ⟨hM.1, ⟨fun c1 => absurd c1 c1', fun c1 => ⟨mt_g hM 18 (by decide), ⟨mt_l hM 18 (by decide) vi, ⟨mt_g hM 14 (by decide), ⟨mt_l hM 14 (by decide) vo, ⟨fun c5 => ⟨_, _, r', ?_⟩, fun c5 => ?_⟩⟩⟩⟩⟩⟩⟩
          · exact ih V2 A2 _ (Ag_t hV g1) (AgB_t hA g2) g3
          · have c5 : ¬ A' 14 (A' 18 (nI i).toNatClampNeg).toNatClampNeg = 0 := c5
            rw [co, e14] at c5; exact absurd hv c5
        · refine hK 32 _ _ _ ⟨hM.1, ⟨fun c1 => absurd c1 c1', fun c1 => ⟨mt_g hM 18 (by decide), ⟨mt_l hM 18 (by decide) vi, ⟨mt_g hM 14 (by decide), ⟨mt_l hM 14 (by decide) vo, ⟨fun c5 => ?_, fun c5 => ?_⟩⟩⟩⟩⟩⟩⟩
          · have c5 : A' 14 (A' 18 (nI i).toNatClampNeg).toNatClampNeg = 0 := c5
            rw [co, e14] at c5; exact absurd c5 hv
          · refine ih V' A' _ hV hA ?_
            have e : bkA A O n R (i + 1) = bkA A O n R i := by
              show bkStep _ _ _ _ _ _ = _
              unfold bkStep; rw [if_pos hv]
            rw [e]; exact hB
      · have : i = n := by omega
        subst this
        refine hK 32 _ _ _ ⟨hM.1, ⟨fun c1 => ⟨V', A', rfl, rfl, hV, hA, by rw [hO]; exact hB⟩, fun c1 => absurd ?_ c1⟩⟩
        show V' 10 ≤ nI i
        rw [h10]; exact Int32.le_refl _
  obtain ⟨r, z', h, V', A', e1, e2, h1, h2, h3⟩ := q
  subst e1; subst e2
  exact ⟨V', A', h, h1, h2, h3⟩
end MWb
