/-! The model's join, writeCard. Own work. -/
/-- the first of ORDER's first i that passes q -/
def ff (q : Nat → Bool) (O : Nat → Nat) : Nat → Option Nat
  | 0 => none
  | i + 1 => match ff q O i with
    | some x => some x
    | none => if q (O i) = true then some (O i) else none
theorem ff_mono (q : Nat → Bool) (O : Nat → Nat) (x : Nat) {i : Nat} (h : ff q O i = some x) : ∀ m, ff q O (i + m) = some x
  | 0 => h
  | m + 1 => by
    show (match ff q O (i + m) with | some x => some x | none => if q (O (i + m)) = true then some (O (i + m)) else none) = some x
    rw [ff_mono q O x h m]
theorem ff_some (q : Nat → Bool) (O : Nat → Nat) (x : Nat) : ∀ i, ff q O i = some x → q x = true ∧ ∃ j, j < i ∧ O j = x ∧ ∀ j', j' < j → ¬ q (O j') = true
  | 0, h => by simp [ff] at h
  | i + 1, h => by
    unfold ff at h
    cases hf : ff q O i with
    | some y =>
      rw [hf] at h
      obtain ⟨a, j, hj, e, l⟩ := ff_some q O y i hf
      cases h
      exact ⟨a, j, by omega, e, l⟩
    | none =>
      rw [hf] at h
      dsimp only at h
      by_cases hq : q (O i) = true
      · rw [if_pos hq] at h
        cases h
        refine ⟨hq, i, by omega, rfl, fun j' hj' w => ?_⟩
        have : ∀ m, m ≤ i → ff q O m = none → ∀ j, j < m → ¬ q (O j) = true := by
          intro m
          induction m with
          | zero => intro _ _ j hj; omega
          | succ m ih =>
            intro hm hn j hj
            unfold ff at hn
            cases hm' : ff q O m with
            | some y => rw [hm'] at hn; cases hn
            | none =>
              rw [hm'] at hn
              dsimp only at hn
              by_cases hqm : q (O m) = true
              · rw [if_pos hqm] at hn; cases hn
              · by_cases hjm : j = m
                · subst hjm; exact hqm
                · exact ih (by omega) hm' j (by omega)
        exact this i (Nat.le_refl _) hf j' hj' w
      · rw [if_neg hq] at h; cases h
theorem ff_none (q : Nat → Bool) (O : Nat → Nat) : ∀ i, (ff q O i = none ↔ ∀ j, j < i → ¬ q (O j) = true)
  | 0 => ⟨fun _ j hj => by omega, fun _ => rfl⟩
  | i + 1 => by
    have ih := ff_none q O i
    unfold ff
    cases hf : ff q O i with
    | some y =>
      obtain ⟨a, j, hj, e, _⟩ := ff_some q O y i hf
      constructor
      · intro h; cases h
      · intro h; exact absurd (e ▸ a) (h j (by omega))
    | none =>
      have hl := ih.mp hf
      dsimp only
      by_cases hq : q (O i) = true
      · rw [if_pos hq]
        exact ⟨(fun h => by cases h), fun h => absurd hq (h i (by omega))⟩
      · rw [if_neg hq]
        refine ⟨fun _ j hj => ?_, fun _ => rfl⟩
        by_cases hji : j = i
        · subst hji; exact hq
        · exact hl j (by omega)
theorem ff_cg {q q' : Nat → Bool} (O : Nat → Nat) : ∀ i, (∀ j, j < i → q (O j) = q' (O j)) → ff q O i = ff q' O i
  | 0, _ => rfl
  | i + 1, h => by unfold ff; rw [ff_cg O i (fun j hj => h j (by omega)), h i (by omega)]
def qJ (A : Nat → Nat → Int32) (k o : Nat) : Bool := decide (¬ A 23 o = 0 ∧ A 9 o = A 9 k ∧ ¬ 60 < A 10 k - A 10 o)
def jnA (A : Nat → Nat → Int32) (k : Nat) : Option Nat → Nat → Nat → Int32
  | none => u2 A 23 k 1
  | some o => u2 (u2 (u2 (u2 (u2 A 23 o 0) 24 o (nI k)) 24 k (nI o)) 19 k 1) 20 k (A 22 o + A 22 k)
section MJoin
variable (d : Nat) (z0 : ZS) (V : Nat → Int32) (A : Nat → Nat → Int32)
theorem M_join (hM : MT z0) (n : Nat) (hn : V 10 = nI n) (h60 : n ≤ 60) (O : Nat → Nat) (hO : ∀ i, i < n → O i < n ∧ A 18 i = nI (O i)) (k : Nat) (hk : k < 60) : Rn (d + 1) i_M_join [.ref 46, .int (nI k)] (mz z0 V A) none (mz z0 V (jnA A k (ff (qJ A k) O n))) := by
  have vk : vp_in (nI k) 60 := vp_in_nI hk (by decide)
  have ck : (nI k).toNatClampNeg = k := nI_clamp (by omega)
  refine rn_i (full := cd_137) hM.1 (ok_n rfl) rfl (fun K hK => hK 0 _ _ _ ?_)
  refine loop_up (P := fun i => ∀ v : Value, ff (qJ A k) O i = none → K 2 [.ref 46, .int (nI k), .int (nI i), v] [] (mz z0 V A)) n (fun i hi ih v hf => ?_) 0 (by omega) .null rfl
  refine hK 2 _ _ _ ⟨hM.1, ⟨fun c1 => ⟨mt_g hM 23 (by decide), ⟨mt_b hM 23 (by decide) vk (Or.inr rfl), ⟨rfl, ?_⟩⟩⟩, fun c1 => ?_⟩⟩
  · have c1 : V 10 ≤ nI i := c1
    rw [hn] at c1
    have c1 : n ≤ i := (nI_leI (by omega) (by omega)).mp c1
    have : i = n := by omega
    subst this
    rw [hf, mz_sA (by decide) (by decide)]
    show mz z0 V (u2 A 23 (nI k).toNatClampNeg 1) = _
    rw [ck]; rfl
  · have c1 : ¬ V 10 ≤ nI i := c1
    rw [hn] at c1
    have c1 := nI_leN (by omega) (by omega) c1
    have ih := ih c1
    obtain ⟨hOi, e18⟩ := hO i c1
    have ci : (nI i).toNatClampNeg = i := nI_clamp (by omega)
    have vi : vp_in (nI i) 60 := vp_in_nI (by omega) (by decide)
    have cA : A 18 (nI i).toNatClampNeg = nI (O i) := by rw [ci]; exact e18
    have co : (A 18 (nI i).toNatClampNeg).toNatClampNeg = O i := by rw [cA]; exact nI_clamp (by omega)
    have vo : vp_in (A 18 (nI i).toNatClampNeg) 60 := by rw [cA]; exact vp_in_nI (by omega) (by decide)
    have nx_ : ¬ qJ A k (O i) = true → ∀ v : Value, K 2 [.ref 46, .int (nI k), .int (nI i + 1), v] [] (mz z0 V A) := by
      intro hq v
      have g := ih v (by unfold ff; rw [hf]; dsimp only; rw [if_neg hq])
      rw [nI_succ] at g; exact g
    refine ⟨mt_g hM 18 (by decide), ⟨mt_l hM 18 (by decide) vi, ⟨mt_g hM 23 (by decide), ⟨mt_l hM 23 (by decide) vo, ⟨fun c7 => ?_,
      fun c7 => ⟨mt_g hM 9 (by decide), ⟨mt_l hM 9 (by decide) vo, ⟨mt_g hM 9 (by decide), ⟨mt_l hM 9 (by decide) vk, ⟨fun c11 => ⟨mt_g hM 10 (by decide), ⟨mt_l hM 10 (by decide) vk, ⟨mt_g hM 10 (by decide), ⟨mt_l hM 10 (by decide) vo, ⟨fun c14 => ?_,
          fun c14 => ⟨mt_g hM 23 (by decide), ⟨mt_b hM 23 (by decide) vo (Or.inl rfl), ⟨mt_g hM 24 (by decide), ⟨mt_l hM 24 (by decide) vo, ⟨mt_g hM 24 (by decide), ⟨mt_l hM 24 (by decide) vk, ⟨mt_g hM 19 (by decide), ⟨mt_b hM 19 (by decide) vk (Or.inr rfl), ⟨mt_g hM 20 (by decide), ⟨mt_g hM 22 (by decide), ⟨mt_l hM 22 (by decide) vo, ⟨mt_g hM 22 (by decide), ⟨mt_l hM 22 (by decide) vk, ⟨mt_l hM 20 (by decide) vk, ⟨rfl, ?_⟩⟩⟩⟩⟩⟩⟩⟩⟩⟩⟩⟩⟩⟩⟩⟩⟩⟩⟩⟩,
        fun c11 => ?_⟩⟩⟩⟩⟩⟩⟩⟩⟩⟩
    · have c7 : A 23 (A 18 (nI i).toNatClampNeg).toNatClampNeg = 0 := c7
      rw [co] at c7
      exact nx_ (fun w => (of_decide_eq_true w).1 c7) _
    · have c14 : 60 < A 10 (nI k).toNatClampNeg - A 10 (A 18 (nI i).toNatClampNeg).toNatClampNeg := c14
      rw [co, ck] at c14
      exact nx_ (fun w => (of_decide_eq_true w).2.2 c14) _
    · have c7 : ¬ A 23 (A 18 (nI i).toNatClampNeg).toNatClampNeg = 0 := c7
      have c11 : A 9 (A 18 (nI i).toNatClampNeg).toNatClampNeg = A 9 (nI k).toNatClampNeg := c11
      have c14 : ¬ 60 < A 10 (nI k).toNatClampNeg - A 10 (A 18 (nI i).toNatClampNeg).toNatClampNeg := c14
      rw [co] at c7
      rw [co, ck] at c11 c14
      have hq : qJ A k (O i) = true := decide_eq_true ⟨c7, c11, c14⟩
      have hf1 : ff (qJ A k) O (i + 1) = some (O i) := by unfold ff; rw [hf]; dsimp only; rw [if_pos hq]
      have hfn : ff (qJ A k) O n = some (O i) := by
        have := ff_mono (qJ A k) O (O i) hf1 (n - (i + 1))
        rw [show i + 1 + (n - (i + 1)) = n by omega] at this; exact this
      rw [hfn]
      rw [mz_sA (by decide) (by decide), mz_sA (by decide) (by decide), mz_sA (by decide) (by decide), mz_sA (by decide) (by decide), mz_sA (by decide) (by decide)]
      show mz z0 V (u2 (u2 (u2 (u2 (u2 A 23 (A 18 (nI i).toNatClampNeg).toNatClampNeg 0) 24 (A 18 (nI i).toNatClampNeg).toNatClampNeg (nI k)) 24 (nI k).toNatClampNeg (A 18 (nI i).toNatClampNeg)) 19 (nI k).toNatClampNeg 1) 20 (nI k).toNatClampNeg (A 22 (A 18 (nI i).toNatClampNeg).toNatClampNeg + A 22 (nI k).toNatClampNeg)) = _
      rw [co, ck, cA]; rfl
    · have c11 : ¬ A 9 (A 18 (nI i).toNatClampNeg).toNatClampNeg = A 9 (nI k).toNatClampNeg := c11
      rw [co, ck] at c11
      exact nx_ (fun w => c11 (of_decide_eq_true w).2.1) _
end MJoin
