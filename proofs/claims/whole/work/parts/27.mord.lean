/-! The model's findOrder. Own work. -/
def sA (A : Nat → Nat → Int32) (j : Nat) (B : Nat → Int32) : Nat → Nat → Int32 := fun q => if q = j then B else A q
theorem sA_id (A : Nat → Nat → Int32) (j : Nat) : sA A j (A j) = A := by
  funext q; unfold sA; by_cases h : q = j
  · rw [if_pos h, h]
  · rw [if_neg h]
theorem u2_sA (A : Nat → Nat → Int32) (j i : Nat) (B : Nat → Int32) (x : Int32) : u2 (sA A j B) j i x = sA A j (upd B i x) := by
  funext q k; unfold u2 sA upd; by_cases h : q = j
  · rw [if_pos h, if_pos h]
    by_cases hk : k = i
    · rw [if_pos ⟨h, hk⟩, if_pos hk]
    · rw [if_neg (fun w => hk w.2), if_neg hk]
  · rw [if_neg h, if_neg h, if_neg (fun w => h w.1)]
/-- card k goes to its place among i that are in order -/
def isF (D : Nat → Int32) (k : Nat) : Nat → (Nat → Int32) → Nat → Int32
  | 0, B => upd B 0 (nI k)
  | i + 1, B => if D (B i).toNatClampNeg ≤ D k then upd B (i + 1) (nI k) else isF D k i (upd B (i + 1) (B i))
def foF (D : Nat → Int32) : Nat → (Nat → Int32) → Nat → Int32
  | 0, B => B
  | k + 1, B => isF D k k (foF D k B)
def okB (B : Nat → Int32) (k : Nat) : Prop := ∀ j, j < k → ∃ q, q < 60 ∧ B j = nI q
theorem okB_upd {B : Nat → Int32} {k i q : Nat} (h : okB B k) (hq : q < 60) : okB (upd B i (nI q)) k := by
  intro j hj
  unfold upd
  by_cases hi : j = i
  · rw [if_pos hi]; exact ⟨q, hq, rfl⟩
  · rw [if_neg hi]; exact h j hj
/-- all but place i are cards' numbers -/
theorem isF_ok (D : Nat → Int32) (k : Nat) (hk : k < 60) : ∀ (i : Nat) (B : Nat → Int32), i ≤ k → (∀ j, j < k + 1 → j ≠ i → ∃ q, q < 60 ∧ B j = nI q) → okB (isF D k i B) (k + 1)
  | 0, B, _, h => by
    intro j hj
    show ∃ q, q < 60 ∧ upd B 0 (nI k) j = nI q
    unfold upd
    by_cases h0 : j = 0
    · rw [if_pos h0]; exact ⟨k, hk, rfl⟩
    · rw [if_neg h0]; exact h j hj h0
  | i + 1, B, hi, h => by
    unfold isF
    split
    · intro j hj
      unfold upd
      by_cases h0 : j = i + 1
      · rw [if_pos h0]; exact ⟨k, hk, rfl⟩
      · rw [if_neg h0]; exact h j hj h0
    · refine isF_ok D k hk i _ (by omega) (fun j hj hne => ?_)
      unfold upd
      by_cases h0 : j = i + 1
      · rw [if_pos h0]; exact h i (by omega) (by omega)
      · rw [if_neg h0]; exact h j hj h0
theorem foF_ok (D : Nat → Int32) (B : Nat → Int32) : ∀ k, k ≤ 60 → okB (foF D k B) k
  | 0, _ => fun j hj => absurd hj (by omega)
  | k + 1, hk => isF_ok D k (by omega) k _ (Nat.le_refl _) (fun j hj hne => foF_ok D B k (by omega) j (by omega))
section MOrd
variable (d : Nat) (z0 : ZS) (V : Nat → Int32) (A : Nat → Nat → Int32)
theorem M_findOrder (hM : MT z0) (n : Nat) (hn : V 10 = nI n) (h60 : n ≤ 60) : Rn (d + 1) i_M_findOrder [.ref 46] (mz z0 V A) none (mz z0 V (sA A 18 (foF (A 10) n (A 18)))) := by
  refine rn_i (full := cd_134) hM.1 trivial rfl (fun K hK => ?_)
  have key := loop_up (P := fun k => ∀ v : Value, K 2 [.ref 46, .int (nI k), v] [] (mz z0 V (sA A 18 (foF (A 10) k (A 18))))) n (fun k hk ih v => ?_) 0 (by omega)
  · have k0 := key .null
    rw [show foF (A 10) 0 (A 18) = A 18 from rfl, sA_id] at k0
    exact hK 0 _ _ _ k0
  · refine hK 2 _ _ _ ⟨hM.1, ⟨fun c1 => ?_, fun c1 => ?_⟩⟩
    · have c1 : V 10 ≤ nI k := c1
      rw [hn] at c1
      have c1 : n ≤ k := (nI_leI (by omega) (by omega)).mp c1
      have : k = n := by omega
      subst this
      exact ⟨rfl, rfl⟩
    · have c1 : ¬ V 10 ≤ nI k := c1
      rw [hn] at c1
      have c1 := nI_leN (by omega) (by omega) c1
      have ih := ih c1
      have vk : vp_in (nI k) 60 := vp_in_nI (by omega) (by decide)
      have ck : (nI k).toNatClampNeg = k := nI_clamp (by omega)
      have inner : ∀ (i : Nat) (B : Nat → Int32), i ≤ k → (∀ j, j < i → ∃ q, q < 60 ∧ B j = nI q) → (∀ v : Value, K 2 [.ref 46, .int (nI k + 1), v] [] (mz z0 V (sA A 18 (isF (A 10) k i B)))) → K 12 [.ref 46, .int (nI k), .int (nI i)] [] (mz z0 V (sA A 18 B)) := by
        intro i
        induction i with
        | zero =>
          intro B hi hB fin
          refine hK 8 _ _ _ ⟨fun c1 => ⟨mt_g hM 18 (by decide), ⟨mt_l hM 18 (by decide) (vp_in_nI (n := 0) (by decide) (by decide)), ?_⟩⟩, fun c1 => absurd (show nI 0 ≤ 0 by decide) c1⟩
          rw [mz_sA (by decide) (by decide)]
          have f := fin (.int (nI 0))
          show K 2 [.ref 46, .int (nI k + 1), .int (nI 0)] [] (mz z0 V (u2 (sA A 18 B) 18 (nI 0).toNatClampNeg (nI k)))
          rw [u2_sA]
          exact f
        | succ i ihi =>
          intro B hi hB fin
          obtain ⟨q, hq, hBq⟩ := hB i (by omega)
          have hp : nI (i + 1) - 1 = nI i := nI_pred i
          have ci : (nI i).toNatClampNeg = i := nI_clamp (by omega)
          have ci1 : (nI (i + 1)).toNatClampNeg = i + 1 := nI_clamp (by omega)
          have vi : vp_in (nI (i + 1) - 1) 60 := by rw [hp]; exact vp_in_nI (by omega) (by decide)
          have vi1 : vp_in (nI (i + 1)) 60 := vp_in_nI (by omega) (by decide)
          have vB : vp_in (B (nI (i + 1) - 1).toNatClampNeg) 60 := by rw [hp, ci, hBq]; exact vp_in_nI hq (by decide)
          refine hK 8 _ _ _ ⟨fun c1 => absurd c1 (nI_nle (by omega) (by omega)), fun c1 => ⟨mt_g hM 10 (by decide), ⟨mt_g hM 18 (by decide), ⟨mt_l hM 18 (by decide) vi, ⟨mt_l hM 10 (by decide) vB, ⟨mt_g hM 10 (by decide), ⟨mt_l hM 10 (by decide) vk, ⟨fun c7 => ⟨mt_g hM 18 (by decide), ⟨mt_l hM 18 (by decide) vi1, ?_⟩⟩, fun c7 => ⟨mt_g hM 18 (by decide), ⟨mt_g hM 18 (by decide), ⟨mt_l hM 18 (by decide) vi, ⟨mt_l hM 18 (by decide) vi1, ?_⟩⟩⟩⟩⟩⟩⟩⟩⟩⟩⟩⟩
          · have c7 : A 10 (B (nI (i + 1) - 1).toNatClampNeg).toNatClampNeg ≤ A 10 (nI k).toNatClampNeg := c7
            rw [hp, ci, ck] at c7
            rw [mz_sA (by decide) (by decide)]
            have f := fin (.int (nI (i + 1)))
            simp only [isF, c7, if_true] at f
            show K 2 [.ref 46, .int (nI k + 1), .int (nI (i + 1))] [] (mz z0 V (u2 (sA A 18 B) 18 (nI (i + 1)).toNatClampNeg (nI k)))
            rw [u2_sA, ci1]
            exact f
          · have c7 : ¬ A 10 (B (nI (i + 1) - 1).toNatClampNeg).toNatClampNeg ≤ A 10 (nI k).toNatClampNeg := c7
            rw [hp, ci, ck] at c7
            rw [mz_sA (by decide) (by decide)]
            show K 12 [.ref 46, .int (nI k), .int (nI (i + 1) + (-1))] [] (mz z0 V (u2 (sA A 18 B) 18 (nI (i + 1)).toNatClampNeg (B (nI (i + 1) - 1).toNatClampNeg)))
            rw [u2_sA, pk_m1, ci1, hp, ci]
            refine ihi _ (by omega) (fun j hj => ?_) (fun v => ?_)
            · rw [show upd B (i + 1) (B i) j = B j from if_neg (by omega)]
              exact hB j (by omega)
            · have f := fin v
              simp only [isF, c7, if_false] at f
              exact f
      refine inner k _ (Nat.le_refl _) (foF_ok (A 10) (A 18) k (by omega)) (fun v => ?_)
      have := ih v
      rw [nI_succ] at this
      exact this
end MOrd
