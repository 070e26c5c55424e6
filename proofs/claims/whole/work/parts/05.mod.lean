/-! The model's object and its arrays: ids 46, 47 .. 74. Own work. -/
def mTag : Nat → Nat
  | 14 => 2 | 19 => 2 | 21 => 2 | 23 => 2 | 27 => 2 | _ => 1
def mLen : Nat → Nat
  | 0 => 4 | 1 => 4 | 2 => 72 | 3 => 72 | 4 => 30 | 5 => 30 | 6 => 30 | 7 => 18 | 15 => 1080 | 16 => 20 | 17 => 7 | 25 => 20 | 26 => 8 | 27 => 20 | _ => 60
def mSlot : Nat → Nat
  | 0 => 0 | 1 => 1 | 2 => 2 | 3 => 3 | 4 => 5 | 5 => 6 | 6 => 7 | 7 => 9 | 8 => 11 | 9 => 12 | 10 => 13 | 11 => 14 | 12 => 15 | 13 => 16 | 14 => 17 | 15 => 18 | 16 => 20 | 17 => 21
  | 18 => 22 | 19 => 23 | 20 => 24 | 21 => 25 | 22 => 26 | 23 => 27 | 24 => 28 | 25 => 30 | 26 => 32 | _ => 33
def MT (z : ZS) : Prop := tg z 46 = 17 ∧ ∀ j, j < 28 → tg z (47 + j) = mTag j ∧ ln z (47 + j) = mLen j ∧ zP z 46 (mSlot j) = 47 + j
/-- the heap with the model's ints V (by slot) and arrays A (by number) -/
def mz (z : ZS) (V : Nat → Int32) (A : Nat → Nat → Int32) : ZS := (z.1, z.2.1, z.2.2.1, z.2.2.2.1, fun a k => if a = 46 then V k else if 47 ≤ a ∧ a < 75 then A (a - 47) k else z.2.2.2.2.1 a k, z.2.2.2.2.2)
theorem mt_g {z : ZS} (h : MT z) (j : Nat) (hj : j < 28) : tg z 46 = 17 ∧ zP z 46 (mSlot j) = 47 + j := ⟨h.1, (h.2 j hj).2.2⟩
theorem mt_l {z : ZS} (h : MT z) (j : Nat) (hj : j < 28) {i : Int32} (hi : vp_in i (mLen j)) : tg z (47 + j) = mTag j ∧ vp_in i (ln z (47 + j)) := ⟨(h.2 j hj).1, by rw [(h.2 j hj).2.1]; exact hi⟩
def rgF (A : Nat → Nat → Int32) (c day : Int32) : Nat → Int32
  | 0 => 0
  | k + 1 => if A 4 k = c ∧ A 5 k = day then A 6 k else rgF A c day k
theorem M_rightOf (d : Nat) (z0 : ZS) (V : Nat → Int32) (A : Nat → Nat → Int32) (hM : MT z0) (n : Nat) (hn : V 4 = nI n) (h30 : n ≤ 30) (c day : Int32) : Rn (d + 1) i_M_rightOf [.ref 46, .int c, .int day] (mz z0 V A) (some (.int (rgF A c day n))) (mz z0 V A) := by
  refine rn_i (full := cd_116) hM.1 trivial rfl (fun K hK => ?_)
  have key : ∀ m k, n = k + m → K 5 [.ref 46, .int c, .int day, .int (rgF A c day k), .int (nI k)] [] (mz z0 V A) := by
    intro m
    induction m with
    | zero =>
      intro k hk
      have hk' : k = n := by omega
      subst hk'
      refine hK 4 _ _ _ ⟨hM.1, fun _ => ⟨rfl, rfl⟩, fun h => absurd ?_ h⟩
      show V 4 ≤ nI k
      rw [hn]
      exact nI_le (by omega) (by omega)
    | succ m ih =>
      intro k hk
      have hcl : (nI k).toNatClampNeg = k := nI_clamp (by omega)
      have hi : vp_in (nI k) 30 := vp_in_nI (by omega) (by omega)
      refine hK 4 _ _ _ ⟨hM.1, fun h => absurd h ?_, fun _ => ⟨mt_g hM 4 (by decide), mt_l hM 4 (by decide) hi, fun h1 => ⟨mt_g hM 5 (by decide), mt_l hM 5 (by decide) hi, fun h2 => ⟨mt_g hM 6 (by decide), mt_l hM 6 (by decide) hi, ?_⟩, fun h2 => ?_⟩, fun h1 => ?_⟩⟩
      · show ¬ V 4 ≤ nI k
        rw [hn]
        exact nI_ge (by omega) (by omega)
      · have h1 : A 4 (nI k).toNatClampNeg = c := h1
        have h2 : A 5 (nI k).toNatClampNeg = day := h2
        have := ih (k + 1) (by omega)
        rw [nI_succ] at this
        rw [hcl] at h1 h2
        show K 5 [.ref 46, .int c, .int day, .int (A 6 (nI k).toNatClampNeg), .int (nI k + 1)] [] (mz z0 V A)
        rw [hcl]
        simpa [rgF, h1, h2] using this
      · have h1 : A 4 (nI k).toNatClampNeg = c := h1
        have h2 : ¬ A 5 (nI k).toNatClampNeg = day := h2
        have := ih (k + 1) (by omega)
        rw [nI_succ] at this
        rw [hcl] at h1 h2
        simpa [rgF, h1, h2] using this
      · have h1 : ¬ A 4 (nI k).toNatClampNeg = c := h1
        have := ih (k + 1) (by omega)
        rw [nI_succ] at this
        rw [hcl] at h1
        simpa [rgF, h1] using this
  exact hK 0 _ _ _ (key n 0 (by omega))
