/-! The model's findLast. Own work. -/
def tstL (A : Nat → Nat → Int32) (p day : Int32) (q : Nat) : Prop := ¬ A 19 q = 0 ∧ A 9 q = p ∧ A 10 q < day
def glF (A : Nat → Nat → Int32) (p day : Int32) : Nat → Nat → (Nat → Int32) → Nat × (Nat → Int32)
  | 0, m, L => (m, L)
  | i + 1, m, L => if 20 ≤ m then (m, L) else if ¬ A 19 (A 18 i).toNatClampNeg = 0 ∧ A 9 (A 18 i).toNatClampNeg = p ∧ A 10 (A 18 i).toNatClampNeg < day then glF A p day i (m + 1) (upd L m (A 18 i)) else glF A p day i m L
theorem glF_le (A : Nat → Nat → Int32) (p day : Int32) : ∀ (i m : Nat) (L : Nat → Int32), m ≤ 20 → (glF A p day i m L).1 ≤ 20
  | 0, m, L, h => h
  | i + 1, m, L, h => by
    unfold glF
    split
    · exact h
    · split
      · exact glF_le A p day i (m + 1) _ (by omega)
      · exact glF_le A p day i m _ h
/-- the first and the last k of m are turned about -/
def rvF (m : Nat) (L : Nat → Int32) : Nat → Nat → Int32
  | 0 => L
  | k + 1 => upd (upd (rvF m L k) k (rvF m L k (m - 1 - k))) (m - 1 - k) (rvF m L k k)
section MLast
variable (d : Nat) (z0 : ZS) (V : Nat → Int32) (A : Nat → Nat → Int32)
theorem M_findLast (hM : MT z0) (n : Nat) (hn : V 10 = nI n) (h60 : n ≤ 60) (hO : okB (A 18) n) (p day : Int32) : Rn (d + 1) i_M_findLast [.ref 46, .int p, .int day] (mz z0 V A) none (mz z0 (upd V 29 (nI (glF A p day n 0 (A 25)).1)) (sA A 25 (rvF (glF A p day n 0 (A 25)).1 (glF A p day n 0 (A 25)).2 ((glF A p day n 0 (A 25)).1 / 2)))) := by
  refine rn_i (full := cd_143) hM.1 trivial rfl (fun K hK => ?_)
  have hm20 := glF_le A p day n 0 (A 25) (by omega)
  generalize hR : glF A p day n 0 (A 25) = R at hm20 hK ⊢
  obtain ⟨m, L⟩ := R
  have hm20 : m ≤ 20 := hm20
  have v29 : ∀ x : Nat, upd V 29 (nI x) 29 = nI x := fun x => if_pos rfl
  have half : nI m / 2 = nI (m / 2) := by rw [show (2 : Int32) = nI 2 from rfl]; exact pk_div (by omega) (by decide) (by decide)
  -- the turning
  have turn := loop_up (P := fun k => ∀ v : Value, K 94 [.ref 46, .int p, .int day, .int (nI k), v] [] (mz z0 (upd V 29 (nI m)) (sA A 25 (rvF m L k)))) (m / 2) (fun k hk ih v => ?_) 0 (by omega)
  · -- the gathering
    have gat : ∀ (i m0 : Nat) (L0 : Nat → Int32), i ≤ n → m0 ≤ 20 → glF A p day i m0 L0 = (m, L) → ∀ v : Value, K 12 [.ref 46, .int p, .int day, .int (nI i - 1), v] [] (mz z0 (upd V 29 (nI m0)) (sA A 25 L0)) := by
      intro i
      induction i with
      | zero =>
        intro m0 L0 _ _ he v
        cases he
        exact hK 8 _ _ _ ⟨fun c1 => turn v, fun c1 => absurd (show nI 0 - 1 < 0 by decide) c1⟩
      | succ i ihi =>
        intro m0 L0 hi hm0 he v
        have ci : (nI i).toNatClampNeg = i := nI_clamp (by omega)
        obtain ⟨q, hq, hOq⟩ := hO i (by omega)
        have vi : vp_in (nI i) 60 := vp_in_nI (by omega) (by decide)
        have vq : vp_in (A 18 (nI i).toNatClampNeg) 60 := by rw [ci, hOq]; exact vp_in_nI hq (by decide)
        have m1 : ∀ x : Int32, x + (-1) = x - 1 := fun x => by rw [Int32.sub_eq_add_neg]
        rw [nI_pred]
        refine hK 8 _ _ _ ⟨fun c1 => absurd c1 (nI_pos (by omega)), fun c1 => ⟨hM.1, ⟨fun c3 => ?_, fun c3 => ?_⟩⟩⟩
        · have c3 : 20 ≤ upd V 29 (nI m0) 29 := c3
          rw [v29] at c3
          have c3 : 20 ≤ m0 := (nI_leI (a := 20) (by decide) (by omega)).mp c3
          unfold glF at he
          rw [if_pos c3] at he
          cases he
          exact turn v
        · have c3 : ¬ 20 ≤ upd V 29 (nI m0) 29 := c3
          rw [v29] at c3
          have c3 := nI_leN (a := 20) (by decide) (by omega) c3
          have skip : ¬ (¬ A 19 (A 18 i).toNatClampNeg = 0 ∧ A 9 (A 18 i).toNatClampNeg = p ∧ A 10 (A 18 i).toNatClampNeg < day) → ∀ v : Value, K 12 [.ref 46, .int p, .int day, .int (nI i + (-1)), v] [] (mz z0 (upd V 29 (nI m0)) (sA A 25 L0)) := by
            intro hq2 v
            unfold glF at he
            rw [if_neg (by omega), if_neg hq2] at he
            rw [m1]
            exact ihi m0 L0 (by omega) hm0 he v
          refine ⟨mt_g hM 18 (by decide), ⟨mt_l hM 18 (by decide) vi, ⟨mt_g hM 19 (by decide), ⟨mt_l hM 19 (by decide) vq, ⟨fun c7 => ?_, fun c7 => ⟨mt_g hM 9 (by decide), ⟨mt_l hM 9 (by decide) vq, ⟨fun c10 => ⟨mt_g hM 10 (by decide), ⟨mt_l hM 10 (by decide) vq, ⟨fun c12 => ?_, fun c12 => ⟨mt_g hM 25 (by decide), ⟨hM.1, ⟨mt_l hM 25 (by decide) ?_, ⟨hM.1, ⟨hM.1, ?_⟩⟩⟩⟩⟩⟩⟩⟩, fun c10 => ?_⟩⟩⟩⟩⟩⟩⟩⟩
          · have c7 : A 19 (A 18 (nI i).toNatClampNeg).toNatClampNeg = 0 := c7
            rw [ci] at c7
            exact skip (fun w => w.1 c7) _
          · have c12 : day ≤ A 10 (A 18 (nI i).toNatClampNeg).toNatClampNeg := c12
            rw [ci] at c12
            exact skip (fun w => Int32.not_lt.mpr c12 w.2.2) _
          · show vp_in (upd V 29 (nI m0) 29) 20
            rw [v29]; exact vp_in_nI c3 (by decide)
          · have c7 : ¬ A 19 (A 18 (nI i).toNatClampNeg).toNatClampNeg = 0 := c7
            have c10 : A 9 (A 18 (nI i).toNatClampNeg).toNatClampNeg = p := c10
            have c12 : ¬ day ≤ A 10 (A 18 (nI i).toNatClampNeg).toNatClampNeg := c12
            rw [ci] at c7 c10 c12
            unfold glF at he
            rw [if_neg (by omega), if_pos ⟨c7, c10, Int32.not_le.mp c12⟩] at he
            have g := ihi (m0 + 1) _ (by omega) (by omega) he (.int (A 18 (nI i).toNatClampNeg))
            rw [mz_sA (by decide) (by decide), mz_sV]
            show K 12 [.ref 46, .int p, .int day, .int (nI i + (-1)), .int (A 18 (nI i).toNatClampNeg)] [] (mz z0 (upd (upd V 29 (nI m0)) 29 (upd V 29 (nI m0) 29 + 1)) (u2 (sA A 25 L0) 25 (upd V 29 (nI m0) 29).toNatClampNeg (A 18 (nI i).toNatClampNeg)))
            rw [u2_sA, upd_upd, v29, nI_1, nI_clamp (n := m0) (by omega), m1]
            rw [ci] at g ⊢
            exact g
          · have c10 : ¬ A 9 (A 18 (nI i).toNatClampNeg).toNatClampNeg = p := c10
            rw [ci] at c10
            exact skip (fun w => c10 w.2.1) _
    refine hK 0 _ _ _ ⟨hM.1, ⟨hM.1, ?_⟩⟩
    rw [mz_sV]
    have g := gat n 0 (A 25) (Nat.le_refl _) (by omega) hR .null
    rw [sA_id] at g
    show K 12 [.ref 46, .int p, .int day, .int (upd V 29 0 10 - 1), .null] [] (mz z0 (upd V 29 0) A)
    rw [show upd V 29 0 10 = nI n from hn]
    exact g
  · have ck : (nI k).toNatClampNeg = k := nI_clamp (by omega)
    refine hK 52 _ _ _ ⟨hM.1, ⟨by decide, ⟨fun c2 => ?_, fun c2 => ?_⟩⟩⟩
    · have c2 : upd V 29 (nI m) 29 / 2 ≤ nI k := c2
      rw [v29, half] at c2
      have c2 : m / 2 ≤ k := (nI_leI (by omega) (by omega)).mp c2
      have : k = m / 2 := by omega
      subst this
      exact ⟨rfl, rfl⟩
    · have c2 : ¬ upd V 29 (nI m) 29 / 2 ≤ nI k := c2
      rw [v29, half] at c2
      have c2 := nI_leN (by omega) (by omega) c2
      have ih := ih c2
      obtain ⟨m', rfl⟩ : ∃ m', m = m' + 1 := ⟨m - 1, by omega⟩
      have hx : upd V 29 (nI (m' + 1)) 29 - 1 - nI k = nI (m' + 1 - 1 - k) := by rw [v29, nI_pred, pk_sub (by omega)]; rfl
      have cx : (nI (m' + 1 - 1 - k)).toNatClampNeg = m' + 1 - 1 - k := nI_clamp (by omega)
      have vk : vp_in (nI k) 20 := vp_in_nI (by omega) (by decide)
      have vx : vp_in (upd V 29 (nI (m' + 1)) 29 - 1 - nI k) 20 := by rw [hx]; exact vp_in_nI (by omega) (by decide)
      refine ⟨mt_g hM 25 (by decide), ⟨mt_l hM 25 (by decide) vk, ⟨mt_g hM 25 (by decide), ⟨mt_g hM 25 (by decide), ⟨hM.1, ⟨mt_l hM 25 (by decide) vx, ⟨mt_l hM 25 (by decide) vk, ⟨mt_g hM 25 (by decide), ⟨hM.1, ⟨mt_l hM 25 (by decide) ?_, ?_⟩⟩⟩⟩⟩⟩⟩⟩⟩⟩
      · exact vx
      · have g := ih (.int (rvF (m' + 1) L k (nI k).toNatClampNeg))
        rw [mz_sA (by decide) (by decide), mz_sA (by decide) (by decide)]
        show K 94 [.ref 46, .int p, .int day, .int (nI k + 1), .int (rvF (m' + 1) L k (nI k).toNatClampNeg)] [] (mz z0 (upd V 29 (nI (m' + 1))) (u2 (u2 (sA A 25 (rvF (m' + 1) L k)) 25 (nI k).toNatClampNeg (rvF (m' + 1) L k (upd V 29 (nI (m' + 1)) 29 - 1 - nI k).toNatClampNeg)) 25 (upd V 29 (nI (m' + 1)) 29 - 1 - nI k).toNatClampNeg (rvF (m' + 1) L k (nI k).toNatClampNeg)))
        rw [u2_sA, u2_sA, hx, cx, nI_1]
        rw [ck] at g ⊢
        exact g
end MLast
