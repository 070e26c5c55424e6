/-! The cards that make RAW, purely: a stable sort by mark. Own work. -/
theorem i32_lt {x y : Int32} : x < y ↔ x.toInt < y.toInt := Int32.lt_iff_toInt_lt
theorem i32_le {x y : Int32} : x ≤ y ↔ x.toInt ≤ y.toInt := Int32.le_iff_toInt_le
theorem i32_eq {x y : Int32} : x = y ↔ x.toInt = y.toInt := ⟨fun h => by rw [h], fun h => toInt_inj h⟩
theorem gd_el (l : List Nat) (k : Nat) (h : k < l.length) : l.getD k 0 = l[k] := by rw [List.getD_eq_getElem?_getD, List.getElem?_eq_getElem h]; rfl
def insL (w : Nat → Int32) (c : Nat) : List Nat → List Nat
  | [] => [c]
  | y :: t => if w c ≤ w y then c :: y :: t else y :: insL w c t
/-- of the m latest (0 is the latest one): the least mark first, of like marks the earlier one -/
def sp (w : Nat → Int32) : Nat → List Nat
  | 0 => []
  | c + 1 => insL w c (sp w c)
def bet (w : Nat → Int32) (x y : Nat) : Prop := w x < w y ∨ (w x = w y ∧ y < x)
theorem insL_mem (w : Nat → Int32) (c x : Nat) : ∀ l : List Nat, x ∈ insL w c l ↔ x = c ∨ x ∈ l
  | [] => by simp [insL]
  | y :: t => by
    unfold insL
    split
    · simp
    · have := insL_mem w c x t
      simp only [List.mem_cons, this]
      constructor
      · rintro (h | h | h)
        · exact Or.inr (Or.inl h)
        · exact Or.inl h
        · exact Or.inr (Or.inr h)
      · rintro (h | h | h)
        · exact Or.inr (Or.inl h)
        · exact Or.inl h
        · exact Or.inr (Or.inr h)
theorem insL_len (w : Nat → Int32) (c : Nat) : ∀ l : List Nat, (insL w c l).length = l.length + 1
  | [] => rfl
  | y :: t => by
    unfold insL
    split
    · rfl
    · show (insL w c t).length + 1 = _
      rw [insL_len w c t]; rfl
theorem sp_mem (w : Nat → Int32) (x : Nat) : ∀ m, x ∈ sp w m ↔ x < m
  | 0 => by simp [sp]
  | m + 1 => by
    unfold sp
    rw [insL_mem, sp_mem w x m]; omega
theorem sp_len (w : Nat → Int32) : ∀ m, (sp w m).length = m
  | 0 => rfl
  | m + 1 => by unfold sp; rw [insL_len, sp_len w m]
theorem insL_pw (w : Nat → Int32) (c : Nat) : ∀ l : List Nat, l.Pairwise (bet w) → (∀ y, y ∈ l → y < c) → (insL w c l).Pairwise (bet w)
  | [], _, _ => by simp [insL]
  | y :: t, h, hc => by
    unfold insL
    have hy := List.pairwise_cons.mp h
    split
    · rename_i hle
      refine List.pairwise_cons.mpr ⟨fun z hz => ?_, h⟩
      have hzc := hc z hz
      rcases List.mem_cons.mp hz with e | e
      · subst e
        unfold bet
        rw [i32_lt, i32_eq]
        rw [i32_le] at hle
        omega
      · have b := hy.1 z e
        unfold bet at b ⊢
        rw [i32_lt, i32_eq] at b ⊢
        rw [i32_le] at hle
        omega
    · rename_i hle
      refine List.pairwise_cons.mpr ⟨fun z hz => ?_, insL_pw w c t hy.2 (fun y' h' => hc y' (List.mem_cons_of_mem _ h'))⟩
      rcases (insL_mem w c z t).mp hz with e | e
      · subst e
        left
        rw [i32_le] at hle
        rw [i32_lt]; omega
      · exact hy.1 z e
theorem sp_pw (w : Nat → Int32) : ∀ m, (sp w m).Pairwise (bet w)
  | 0 => by simp [sp]
  | m + 1 => insL_pw w m _ (sp_pw w m) (fun y h => (sp_mem w y m).mp h)
theorem sp_lt (w : Nat → Int32) (m k : Nat) (hk : k < m) : (sp w m).getD k 0 < m := by
  have hl : k < (sp w m).length := by rw [sp_len]; exact hk
  rw [gd_el _ _ hl]
  exact (sp_mem w _ m).mp (List.getElem_mem hl)
theorem bsF_T (W T : Nat → Int32) : ∀ (i b : Nat), bsF W T i = some b → T b = 0
  | 0, b, h => by cases h
  | i + 1, b, h => by
    unfold bsF at h
    split at h
    · rename_i hi
      split at h
      · cases h; exact hi
      · rename_i b' hb
        have := bsF_T W T i b' hb
        split at h <;> cases h
        · exact this
        · exact hi
    · exact bsF_T W T i b h
theorem bsF_is (W T : Nat → Int32) : ∀ m b, b < m → T b = 0 → (∀ j, j < m → T j = 0 → j ≠ b → (W b < W j ∨ (W b = W j ∧ b < j))) → bsF W T m = some b
  | 0, b, h, _, _ => absurd h (by omega)
  | m + 1, b, hb, h0, h => by
    unfold bsF
    by_cases e : b = m
    · subst e
      rw [if_pos h0]
      cases hs : bsF W T b with
      | none => rfl
      | some b' =>
        have l := bsF_lt W T b b' hs
        have g := h b' (by omega) (bsF_T W T b b' hs) (by omega)
        have : ¬ W b' ≤ W b := by
          rw [i32_lt, i32_eq] at g
          rw [i32_le]; omega
        show (if W b' ≤ W b then some b' else some b) = some b
        rw [if_neg this]
    · rw [bsF_is W T m b (by omega) h0 (fun j hj => h j (by omega))]
      by_cases hm : T m = 0
      · rw [if_pos hm]
        have g := h m (by omega) hm (fun q => e q.symm)
        have : W b ≤ W m := by
          rw [i32_lt, i32_eq] at g
          rw [i32_le]; omega
        show (if W b ≤ W m then some b else some m) = some b
        rw [if_pos this]
      · rw [if_neg hm]
theorem mem_take_succ (l : List Nat) (k y : Nat) (hk : k < l.length) : y ∈ l.take (k + 1) ↔ y ∈ l.take k ∨ y = l.getD k 0 := by
  rw [List.take_add_one, List.mem_append, gd_el _ _ hk, List.getElem?_eq_getElem hk]
  simp
/-- the model's choosing is the sort -/
theorem osF_sp (w L T0 M0 W : Nat → Int32) (m : Nat) (hW : ∀ i, i < m → W i = w (m - 1 - i)) (h0 : ∀ i, i < m → T0 i = 0) : ∀ k, k ≤ m →
    (∀ j, j < m → ((osF W L T0 M0 m k).1 j = 0 ↔ ¬ (m - 1 - j) ∈ (sp w m).take k)) ∧ (∀ j, j < k → (osF W L T0 M0 m k).2 j = L (m - 1 - (sp w m).getD j 0)) ∧ (k < m → bsF W (osF W L T0 M0 m k).1 m = some (m - 1 - (sp w m).getD k 0)) := by
  intro k
  have sel : ∀ (k : Nat) (T : Nat → Int32), k < m → (∀ j, j < m → (T j = 0 ↔ ¬ (m - 1 - j) ∈ (sp w m).take k)) → bsF W T m = some (m - 1 - (sp w m).getD k 0) := by
    intro k T hk hT
    have hl : k < (sp w m).length := by rw [sp_len]; exact hk
    have hs := sp_lt w m k hk
    have pw := List.pairwise_iff_getElem.mp (sp_pw w m)
    have gd : ∀ i (hi : i < (sp w m).length), (sp w m).getD i 0 = (sp w m)[i] := fun i hi => gd_el _ _ hi
    refine bsF_is W T m _ (by omega) ?_ ?_
    · refine (hT _ (by omega)).mpr ?_
      rw [show m - 1 - (m - 1 - (sp w m).getD k 0) = (sp w m).getD k 0 by omega]
      intro hmem
      obtain ⟨i, hi, he⟩ := List.mem_take_iff_getElem.mp hmem
      have := pw i k (by omega) hl (by omega)
      rw [he, ← gd k hl] at this
      unfold bet at this
      rw [i32_lt, i32_eq] at this
      omega
    · intro j hj hTj hne
      have hn := (hT j hj).mp hTj
      have hin : (m - 1 - j) ∈ sp w m := (sp_mem w _ m).mpr (by omega)
      obtain ⟨i, hi, he⟩ := List.mem_iff_getElem.mp hin
      have hik : k < i := by
        rcases Nat.lt_trichotomy i k with q | q | q
        · exact absurd (List.mem_take_iff_getElem.mpr ⟨i, by omega, he⟩) hn
        · subst q; rw [← gd i hi] at he; omega
        · exact q
      have b := pw k i hl hi hik
      rw [he, ← gd k hl] at b
      unfold bet at b
      rw [hW _ (by omega), hW j hj, show m - 1 - (m - 1 - (sp w m).getD k 0) = (sp w m).getD k 0 by omega]
      rcases b with b | b
      · exact Or.inl b
      · exact Or.inr ⟨b.1, by omega⟩
  induction k with
  | zero =>
    intro _
    have t : ∀ j, j < m → ((osF W L T0 M0 m 0).1 j = 0 ↔ ¬ (m - 1 - j) ∈ (sp w m).take 0) := fun j hj => ⟨fun _ => by simp, fun _ => h0 j hj⟩
    exact ⟨t, fun j hj => absurd hj (by omega), fun hk => sel 0 _ hk t⟩
  | succ k ih =>
    intro hk
    obtain ⟨a, b, c⟩ := ih (by omega)
    have c := c (by omega)
    have hl : k < (sp w m).length := by rw [sp_len]; omega
    have hs := sp_lt w m k (by omega)
    have e : osF W L T0 M0 m (k + 1) = (upd (osF W L T0 M0 m k).1 (m - 1 - (sp w m).getD k 0) 1, upd (osF W L T0 M0 m k).2 k (L (m - 1 - (sp w m).getD k 0))) := by
      show (match bsF W (osF W L T0 M0 m k).1 m with
        | some b => (upd (osF W L T0 M0 m k).1 b 1, upd (osF W L T0 M0 m k).2 k (L b))
        | none => osF W L T0 M0 m k) = _
      rw [c]
    have t : ∀ j, j < m → ((osF W L T0 M0 m (k + 1)).1 j = 0 ↔ ¬ (m - 1 - j) ∈ (sp w m).take (k + 1)) := by
      intro j hj
      rw [e, mem_take_succ _ _ _ hl]
      show upd (osF W L T0 M0 m k).1 (m - 1 - (sp w m).getD k 0) 1 j = 0 ↔ _
      unfold upd
      by_cases q : j = m - 1 - (sp w m).getD k 0
      · rw [if_pos q]
        exact ⟨fun h => absurd h (by decide), fun h => absurd (Or.inr (by omega)) h⟩
      · rw [if_neg q, a j hj]
        exact ⟨fun h1 h2 => h2.elim h1 (fun h3 => q (by omega)), fun h1 h2 => h1 (Or.inl h2)⟩
    refine ⟨t, ?_, fun h => sel (k + 1) _ h t⟩
    intro j hj
    rw [e]
    show upd (osF W L T0 M0 m k).2 k (L (m - 1 - (sp w m).getD k 0)) j = _
    unfold upd
    by_cases q : j = k
    · rw [if_pos q, q]
    · rw [if_neg q]; exact b j (by omega)
