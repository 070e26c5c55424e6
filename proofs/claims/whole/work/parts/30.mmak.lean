/-! The model's findMakers. Own work. -/
theorem u2_sA2 (A : Nat → Nat → Int32) (T M : Nat → Int32) (i : Nat) (x : Int32) : u2 (sA (sA A 27 T) 26 M) 27 i x = sA (sA A 27 (upd T i x)) 26 M := by
  funext q k; unfold u2 sA upd; by_cases h : q = 26
  · rw [if_neg (fun w => by have := w.1; omega), if_pos h, if_pos h]
  · rw [if_neg h, if_neg h]
    by_cases h2 : q = 27
    · rw [if_pos h2, if_pos h2]
      by_cases hk : k = i
      · rw [if_pos ⟨h2, hk⟩, if_pos hk]
      · rw [if_neg (fun w => hk w.2), if_neg hk]
    · rw [if_neg h2, if_neg h2, if_neg (fun w => h2 w.1)]
/-- the best of the first i that aren't taken: W marks by place, T what is taken -/
def bsF (W T : Nat → Int32) : Nat → Option Nat
  | 0 => none
  | i + 1 => if T i = 0 then (match bsF W T i with
    | none => some i
    | some b => if W b ≤ W i then some b else some i) else bsF W T i
def obI : Option Nat → Int32
  | none => -1
  | some b => nI b
theorem bsF_lt (W T : Nat → Int32) : ∀ (i b : Nat), bsF W T i = some b → b < i
  | 0, b, h => by cases h
  | i + 1, b, h => by
    unfold bsF at h
    split at h
    · split at h
      · cases h; omega
      · rename_i b' hb
        have := bsF_lt W T i b' hb
        split at h <;> cases h <;> omega
    · have := bsF_lt W T i b h; omega
def tzF (T : Nat → Int32) : Nat → Nat → Int32
  | 0 => T
  | i + 1 => upd (tzF T i) i 0
/-- k of them are taken: what is taken, and who they are -/
def osF (W L T M : Nat → Int32) (m : Nat) : Nat → (Nat → Int32) × (Nat → Int32)
  | 0 => (T, M)
  | k + 1 => match bsF W (osF W L T M m k).1 m with
    | some b => (upd (osF W L T M m k).1 b 1, upd (osF W L T M m k).2 k (L b))
    | none => osF W L T M m k
section MMak
variable (d : Nat) (z0 : ZS) (V : Nat → Int32) (A : Nat → Nat → Int32)
/-- findMakers behind findLast and taken: L the cards, W their marks -/
theorem M_mak (hM : MT z0) (m mk : Nat) (hV29 : V 29 = nI m) (hV31 : V 31 = nI mk) (hm : m ≤ 20) (hmk : mk ≤ 8) (hL : okB (A 25) m) (p day : Int32) (W : Nat → Int32) (hW : W = fun i => A 20 (A 25 i).toNatClampNeg)
    (hs : ∀ k, k < mk → ∃ b, bsF W (osF W (A 25) (tzF (A 27) m) (A 26) m k).1 m = some b) (K : Zk) (Rt : Option Value → ZS → Prop) (hK : Sf (Rn d) cd_146 Rt K)
    (hR : Rt none (mz z0 V (sA (sA A 27 (osF W (A 25) (tzF (A 27) m) (A 26) m mk).1) 26 (osF W (A 25) (tzF (A 27) m) (A 26) m mk).2))) : ∀ v w : Value, K 19 [.ref 46, .int p, .int day, .int 0, v, w] [] (mz z0 V A) := by
  -- the choosing
  have outer := loop_up (P := fun k => ∀ v w : Value, K 42 [.ref 46, .int p, .int day, .int (nI k), v, w] [] (mz z0 V (sA (sA A 27 (osF W (A 25) (tzF (A 27) m) (A 26) m k).1) 26 (osF W (A 25) (tzF (A 27) m) (A 26) m k).2))) mk (fun k hk ih v w => ?_) 0 (by omega)
  · have ini := loop_up (P := fun i => ∀ v w : Value, K 19 [.ref 46, .int p, .int day, .int (nI i), v, w] [] (mz z0 V (sA (sA A 27 (tzF (A 27) i)) 26 (A 26)))) m (fun i hi ih v w => ?_) 0 (by omega)
    · intro v w
      have g := ini v w
      rw [show tzF (A 27) 0 = A 27 from rfl, sA_id, sA_id] at g
      exact g
    · refine hK 11 _ _ _ ⟨hM.1, ⟨fun c1 => ?_, fun c1 => ⟨mt_g hM 27 (by decide), ⟨mt_b hM 27 (by decide) ?_ (Or.inl rfl), ?_⟩⟩⟩⟩
      · have c1 : V 29 ≤ nI i := c1
        rw [hV29] at c1
        have c1 : m ≤ i := (nI_leI (by omega) (by omega)).mp c1
        have : i = m := by omega
        subst this
        exact outer v w
      · have c1 : ¬ V 29 ≤ nI i := c1
        rw [hV29] at c1
        have c1 := nI_leN (by omega) (by omega) c1
        exact vp_in_nI (by show _ < 20; omega) (by decide)
      · have c1 : ¬ V 29 ≤ nI i := c1
        rw [hV29] at c1
        have c1 := nI_leN (by omega) (by omega) c1
        have g := ih c1 v w
        rw [mz_sA (by decide) (by decide)]
        show K 19 [.ref 46, .int p, .int day, .int (nI i + 1), v, w] [] (mz z0 V (u2 (sA (sA A 27 (tzF (A 27) i)) 26 (A 26)) 27 (nI i).toNatClampNeg 0))
        rw [u2_sA2, nI_clamp (by omega), nI_1]
        exact g
  · generalize hT : osF W (A 25) (tzF (A 27) m) (A 26) m k = TM at ih ⊢
    obtain ⟨T, M⟩ := TM
    refine hK 24 _ _ _ ⟨hM.1, ⟨fun c1 => ?_, fun c1 => ?_⟩⟩
    · have c1 : V 31 ≤ nI k := c1
      rw [hV31] at c1
      have c1 : mk ≤ k := (nI_leI (by omega) (by omega)).mp c1
      have : k = mk := by omega
      subst this
      rw [hT] at hR
      exact hR
    · have c1 : ¬ V 31 ≤ nI k := c1
      rw [hV31] at c1
      have c1 := nI_leN (by omega) (by omega) c1
      have ih := ih c1
      obtain ⟨b, hb⟩ := hs k c1
      rw [hT] at hb
      have hb : bsF W T m = some b := hb
      have hbm := bsF_lt W T m b hb
      have vL : ∀ i, i < m → vp_in (A 25 i) 60 := fun i hi => by obtain ⟨q, hq, e⟩ := hL i hi; rw [e]; exact vp_in_nI hq (by decide)
      have inner := loop_up (P := fun i => K 56 [.ref 46, .int p, .int day, .int (nI k), .int (obI (bsF W T i)), .int (nI i)] [] (mz z0 V (sA (sA A 27 T) 26 M))) m (fun i hi ihi => ?_) 0 (by omega)
      · exact inner
      · have ci : (nI i).toNatClampNeg = i := nI_clamp (by omega)
        refine hK 32 _ _ _ ⟨hM.1, ⟨fun c2 => ?_, fun c2 => ?_⟩⟩
        · have c2 : V 29 ≤ nI i := c2
          rw [hV29] at c2
          have c2 : m ≤ i := (nI_leI (by omega) (by omega)).mp c2
          have : i = m := by omega
          subst this
          rw [hb]
          have cb : (nI b).toNatClampNeg = b := nI_clamp (by omega)
          have vb : vp_in (nI b) 20 := vp_in_nI (by omega) (by decide)
          refine ⟨mt_g hM 27 (by decide), ⟨mt_b hM 27 (by decide) vb (Or.inr rfl), ⟨mt_g hM 26 (by decide), ⟨mt_g hM 25 (by decide), ⟨mt_l hM 25 (by decide) vb, ⟨mt_l hM 26 (by decide) (vp_in_nI (by show _ < 8; omega) (by decide)), ?_⟩⟩⟩⟩⟩⟩
          rw [mz_sA (by decide) (by decide), mz_sA (by decide) (by decide)]
          have g := ih (.int (nI b)) (.int (nI i))
          simp only [osF, hT, hb] at g
          show K 42 [.ref 46, .int p, .int day, .int (nI k + 1), .int (nI b), .int (nI i)] [] (mz z0 V (u2 (u2 (sA (sA A 27 T) 26 M) 27 (nI b).toNatClampNeg 1) 26 (nI k).toNatClampNeg (A 25 (nI b).toNatClampNeg)))
          rw [u2_sA2, u2_sA, cb, nI_clamp (n := k) (by omega), nI_1]
          exact g
        · have c2 : ¬ V 29 ≤ nI i := c2
          rw [hV29] at c2
          have c2 := nI_leN (by omega) (by omega) c2
          have ihi := ihi c2
          rw [nI_succ] at ihi
          have vi : vp_in (nI i) 20 := vp_in_nI (by omega) (by decide)
          have vq : vp_in (A 25 (nI i).toNatClampNeg) 60 := by rw [ci]; exact vL i c2
          cases hbi : bsF W T i with
          | none =>
            refine ⟨mt_g hM 27 (by decide), ⟨mt_l hM 27 (by decide) vi, ⟨fun c8 => ⟨fun c9 => ?_, fun c9 => absurd (show (-1 : Int32) < 0 by decide) c9⟩, fun c8 => ?_⟩⟩⟩
            · have c8 : T (nI i).toNatClampNeg = 0 := c8
              rw [ci] at c8
              simp only [bsF, c8, if_true, hbi, obI] at ihi
              exact ihi
            · have c8 : ¬ T (nI i).toNatClampNeg = 0 := c8
              rw [ci] at c8
              simp only [bsF, c8, if_false, hbi, obI] at ihi
              exact ihi
          | some b' =>
            have hb' := bsF_lt W T i b' hbi
            have cb : (nI b').toNatClampNeg = b' := nI_clamp (by omega)
            have vb : vp_in (nI b') 20 := vp_in_nI (by omega) (by decide)
            have vqb : vp_in (A 25 (nI b').toNatClampNeg) 60 := by rw [cb]; exact vL b' (by omega)
            refine ⟨mt_g hM 27 (by decide), ⟨mt_l hM 27 (by decide) vi, ⟨fun c8 => ⟨fun c9 => absurd c9 (nI_pos (by omega)), fun c9 => ⟨mt_g hM 20 (by decide), ⟨mt_g hM 25 (by decide), ⟨mt_l hM 25 (by decide) vi, ⟨mt_l hM 20 (by decide) vq, ⟨mt_g hM 20 (by decide), ⟨mt_g hM 25 (by decide), ⟨mt_l hM 25 (by decide) vb, ⟨mt_l hM 20 (by decide) vqb, ⟨fun c15 => ?_, fun c15 => ?_⟩⟩⟩⟩⟩⟩⟩⟩⟩⟩, fun c8 => ?_⟩⟩⟩
            · have c8 : T (nI i).toNatClampNeg = 0 := c8
              have c15 : A 20 (A 25 (nI b').toNatClampNeg).toNatClampNeg ≤ A 20 (A 25 (nI i).toNatClampNeg).toNatClampNeg := c15
              rw [ci] at c8
              rw [ci, cb] at c15
              have c15 : W b' ≤ W i := by rw [hW]; exact c15
              simp only [bsF, c8, if_true, hbi, c15, obI] at ihi
              exact ihi
            · have c8 : T (nI i).toNatClampNeg = 0 := c8
              have c15 : ¬ A 20 (A 25 (nI b').toNatClampNeg).toNatClampNeg ≤ A 20 (A 25 (nI i).toNatClampNeg).toNatClampNeg := c15
              rw [ci] at c8
              rw [ci, cb] at c15
              have c15 : ¬ W b' ≤ W i := by rw [hW]; exact c15
              simp only [bsF, c8, if_true, hbi, c15, if_false, obI] at ihi
              exact ihi
            · have c8 : ¬ T (nI i).toNatClampNeg = 0 := c8
              rw [ci] at c8
              simp only [bsF, c8, if_false, hbi, obI] at ihi
              exact ihi
end MMak
