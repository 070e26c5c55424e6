/-! The model's object and its arrays: ids 46, 47 .. 74. Own work. -/
def mTag : Nat → Nat
  | 14 => 2 | 19 => 2 | 21 => 2 | 23 => 2 | 27 => 2 | _ => 1
def mLen : Nat → Nat
  | 0 => 4 | 1 => 4 | 2 => 72 | 3 => 72 | 4 => 30 | 5 => 30 | 6 => 30 | 7 => 18 | 15 => 1080 | 16 => 20 | 17 => 7 | 25 => 20 | 26 => 8 | 27 => 20 | _ => 60
def mSlot : Nat → Nat
  | 0 => 0 | 1 => 1 | 2 => 2 | 3 => 3 | 4 => 5 | 5 => 6 | 6 => 7 | 7 => 9 | 8 => 11 | 9 => 12 | 10 => 13 | 11 => 14 | 12 => 15 | 13 => 16 | 14 => 17 | 15 => 18 | 16 => 20 | 17 => 21
  | 18 => 22 | 19 => 23 | 20 => 24 | 21 => 25 | 22 => 26 | 23 => 27 | 24 => 28 | 25 => 30 | 26 => 32 | _ => 33
def MT (z : ZS) : Prop := tg z 46 = 17 ∧ ∀ j, j < 28 → tg z (47 + j) = mTag j ∧ ln z (47 + j) = mLen j ∧ zP z 46 (mSlot j) = 47 + j
/-- the heap with the model's ints V (by slot) and arrays A (by number) -/
def mz (z : ZS) (V : Nat → Int32) (A : Nat → Nat → Int32) : ZS := (z.1, z.2.1, z.2.2.1, z.2.2.2.1, fun a k => if a = 46 then V k else if 47 ≤ a ∧ a < 75 then A (a - 47) k else z.2.2.2.2.1 a k, z.2.2.2.2.2)
theorem mt_g {z : ZS} (h : MT z) (j : Nat) (hj : j < 28) : tg z 46 = 17 ∧ zP z 46 (mSlot j) = 47 + j := ⟨h.1, (h.2 j hj).2.2⟩
theorem mt_l {z : ZS} (h : MT z) (j : Nat) (hj : j < 28) {i : Int32} (hi : vp_in i (mLen j)) : tg z (47 + j) = mTag j ∧ vp_in i (ln z (47 + j)) := ⟨(h.2 j hj).1, by rw [(h.2 j hj).2.1]; exact hi⟩
theorem mt_b {z : ZS} (h : MT z) (j : Nat) (hj : j < 28) {i v : Int32} (hi : vp_in i (mLen j)) (hv : v = 0 ∨ v = 1) : tg z (47 + j) = mTag j ∧ vp_in i (ln z (47 + j)) ∧ (v = 0 ∨ v = 1) := ⟨(h.2 j hj).1, by rw [(h.2 j hj).2.1]; exact hi, hv⟩
theorem mz_sA {z : ZS} {V : Nat → Int32} {A : Nat → Nat → Int32} {a k : Nat} {x : Int32} (h1 : 47 ≤ a) (h2 : a < 75) : sI (mz z V A) a k x = mz z V (u2 A (a - 47) k x) := by
  unfold sI mz
  congr 5
  funext b j
  show (if b = a ∧ j = k then x else if b = 46 then V j else if 47 ≤ b ∧ b < 75 then A (b - 47) j else z.2.2.2.2.1 b j) = _
  unfold u2
  by_cases hb : b = 46
  · rw [if_neg (by omega), if_pos hb, if_pos hb]
  · rw [if_neg hb, if_neg hb]
    by_cases hr : 47 ≤ b ∧ b < 75
    · rw [if_pos hr, if_pos hr]
      by_cases hq : b = a ∧ j = k
      · rw [if_pos hq, if_pos ⟨by rw [hq.1], hq.2⟩]
      · rw [if_neg hq, if_neg (fun w => hq ⟨by omega, w.2⟩)]
    · rw [if_neg hr, if_neg hr, if_neg (fun w => hr (by omega))]
theorem mz_sV {z : ZS} {V : Nat → Int32} {A : Nat → Nat → Int32} {k : Nat} {x : Int32} : sI (mz z V A) 46 k x = mz z (upd V k x) A := by
  unfold sI mz
  congr 5
  funext b j
  show (if b = 46 ∧ j = k then x else if b = 46 then V j else if 47 ≤ b ∧ b < 75 then A (b - 47) j else z.2.2.2.2.1 b j) = _
  unfold upd
  by_cases hb : b = 46
  · rw [if_pos hb, if_pos hb]
    by_cases hj : j = k
    · rw [if_pos ⟨hb, hj⟩, if_pos hj]
    · rw [if_neg (fun w => hj w.2), if_neg hj]
  · rw [if_neg (fun w => hb w.1), if_neg hb, if_neg hb]
/-- the answer of a boolean method -/
theorem ok_b {mi : Nat} {P : Prop} [Decidable P] : okr mi (some (.int (if P then 1 else 0))) := by
  unfold okr
  split
  · trivial
  · by_cases h : P
    · rw [if_pos h]; exact Or.inr rfl
    · rw [if_neg h]; exact Or.inl rfl
theorem ok_n {mi : Nat} (h : rb mi = 0) {r : Option Value} : okr mi r := by unfold okr; rw [h]; trivial
theorem M_in (d : Nat) (z : ZS) (v lo hi : Int32) : Rn (d + 1) i_M_in [.int v, .int lo, .int hi] z (some (.int (if lo ≤ v ∧ v ≤ hi then 1 else 0))) z := by
  refine rn_i (full := cd_107) trivial ok_b rfl (fun K hK => hK 0 _ _ _ ⟨fun c1 => ?_, fun c1 => ⟨fun c2 => ?_, fun c2 => ?_⟩⟩)
  · exact ⟨by rw [if_neg (fun w => Int32.not_le.mpr c1 w.1)], rfl⟩
  · exact ⟨by rw [if_neg (fun w => Int32.not_le.mpr c2 w.2)], rfl⟩
  · exact ⟨by rw [if_pos ⟨Int32.not_lt.mp c1, Int32.not_lt.mp c2⟩], rfl⟩
theorem M_isCourse (d : Nat) (z : ZS) (v : Int32) : Rn (d + 2) i_M_isCourse [.int v] z (some (.int (if 0 ≤ v ∧ v ≤ 3 then 1 else 0))) z :=
  rn_i (full := cd_109) trivial ok_b rfl (fun K hK => hK 0 _ _ _ ⟨_, _, M_in d z v 0 3, rfl, rfl⟩)
theorem M_isDay (d : Nat) (z : ZS) (v : Int32) : Rn (d + 2) i_M_isDay [.int v] z (some (.int (if 0 ≤ v ∧ v ≤ 9999 then 1 else 0))) z :=
  rn_i (full := cd_110) trivial ok_b rfl (fun K hK => hK 0 _ _ _ ⟨_, _, M_in d z v 0 9999, rfl, rfl⟩)
theorem M_isHole (d : Nat) (z : ZS) (v : Int32) : Rn (d + 2) i_M_isHole [.int v] z (some (.int (if 0 ≤ v ∧ v ≤ 17 then 1 else 0))) z :=
  rn_i (full := cd_111) trivial ok_b rfl (fun K hK => hK 0 _ _ _ ⟨_, _, M_in d z v 0 17, rfl, rfl⟩)
theorem M_isPlayer (d : Nat) (z : ZS) (v : Int32) : Rn (d + 2) i_M_isPlayer [.int v] z (some (.int (if 0 ≤ v ∧ v ≤ 11 then 1 else 0))) z :=
  rn_i (full := cd_112) trivial ok_b rfl (fun K hK => hK 0 _ _ _ ⟨_, _, M_in d z v 0 11, rfl, rfl⟩)
theorem M_isCard (d : Nat) (z0 : ZS) (V : Nat → Int32) (A : Nat → Nat → Int32) (hM : MT z0) (v : Int32) : Rn (d + 2) i_M_isCard [.ref 46, .int v] (mz z0 V A) (some (.int (if 0 ≤ v ∧ v ≤ V 10 - 1 then 1 else 0))) (mz z0 V A) :=
  rn_i (full := cd_113) hM.1 ok_b rfl (fun K hK => hK 0 _ _ _ ⟨hM.1, _, _, M_in d _ v 0 _, rfl, rfl⟩)
/-- finding j is counted -/
def cnt (A : Nat → Nat → Int32) (j : Nat) : Nat → Nat → Int32 := u2 A 17 j (A 17 j + 1)
theorem M_finding (d : Nat) (z0 : ZS) (V : Nat → Int32) (A : Nat → Nat → Int32) (hM : MT z0) (w : Int32) (j : Nat) (hj : j < 7) (hw : -100000 - w = nI j) : Rn (d + 1) i_M_finding [.ref 46, .int w] (mz z0 V A) (some (.int w)) (mz z0 V (cnt A j)) := by
  have hi : vp_in (-100000 - w) 7 := by rw [hw]; exact vp_in_nI hj (by omega)
  have hc : (-100000 - w).toNatClampNeg = j := by rw [hw]; exact nI_clamp (by omega)
  refine rn_i (full := cd_106) hM.1 (ok_n rfl) rfl (fun K hK => hK 0 _ _ _ ⟨mt_g hM 17 (by decide), ⟨mt_l hM 17 (by decide) hi, ⟨mt_l hM 17 (by decide) hi, ⟨rfl, ?_⟩⟩⟩⟩)
  rw [mz_sA (by decide) (by decide)]
  show mz z0 V (u2 A 17 (-100000 - w).toNatClampNeg (A 17 (-100000 - w).toNatClampNeg + 1)) = _
  rw [hc]; rfl
def rgF (A : Nat → Nat → Int32) (c day : Int32) : Nat → Int32
  | 0 => 0
  | k + 1 => if A 4 k = c ∧ A 5 k = day then A 6 k else rgF A c day k
theorem M_rightOf (d : Nat) (z0 : ZS) (V : Nat → Int32) (A : Nat → Nat → Int32) (hM : MT z0) (n : Nat) (hn : V 4 = nI n) (h30 : n ≤ 30) (c day : Int32) : Rn (d + 1) i_M_rightOf [.ref 46, .int c, .int day] (mz z0 V A) (some (.int (rgF A c day n))) (mz z0 V A) := by
  refine rn_i (full := cd_116) hM.1 (ok_n rfl) rfl (fun K hK => ?_)
  have key : ∀ m k, n = k + m → K 5 [.ref 46, .int c, .int day, .int (rgF A c day k), .int (nI k)] [] (mz z0 V A) := by
    intro m
    induction m with
    | zero =>
      intro k hk
      have hk' : k = n := by omega
      subst hk'
      refine hK 4 _ _ _ ⟨hM.1, fun _ => ⟨rfl, rfl⟩, fun h => absurd ?_ h⟩
      show V 4 ≤ nI k
      rw [hn]
      exact nI_le (by omega) (by omega)
    | succ m ih =>
      intro k hk
      have hcl : (nI k).toNatClampNeg = k := nI_clamp (by omega)
      have hi : vp_in (nI k) 30 := vp_in_nI (by omega) (by omega)
      have ih := ih (k + 1) (by omega)
      rw [nI_succ] at ih
      refine hK 4 _ _ _ ⟨hM.1, fun h => absurd h ?_, fun _ => ⟨mt_g hM 4 (by decide), mt_l hM 4 (by decide) hi, fun h1 => ⟨mt_g hM 5 (by decide), mt_l hM 5 (by decide) hi, fun h2 => ⟨mt_g hM 6 (by decide), mt_l hM 6 (by decide) hi, ?_⟩, fun h2 => ?_⟩, fun h1 => ?_⟩⟩
      · show ¬ V 4 ≤ nI k
        rw [hn]
        exact nI_ge (by omega) (by omega)
      · have h1 : A 4 (nI k).toNatClampNeg = c := h1
        have h2 : A 5 (nI k).toNatClampNeg = day := h2
        rw [hcl] at h1 h2
        show K 5 [.ref 46, .int c, .int day, .int (A 6 (nI k).toNatClampNeg), .int (nI k + 1)] [] (mz z0 V A)
        rw [hcl]
        simp only [rgF, h1, h2, and_self, if_true] at ih
        exact ih
      · have h1 : A 4 (nI k).toNatClampNeg = c := h1
        have h2 : ¬ A 5 (nI k).toNatClampNeg = day := h2
        rw [hcl] at h1 h2
        simp only [rgF, h1, h2, and_false, if_false] at ih
        exact ih
      · have h1 : ¬ A 4 (nI k).toNatClampNeg = c := h1
        rw [hcl] at h1
        simp only [rgF, h1, false_and, if_false] at ih
        exact ih
  exact hK 0 _ _ _ (key n 0 (by omega))
