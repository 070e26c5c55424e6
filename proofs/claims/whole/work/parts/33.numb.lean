/-! The model's lowOf, numberOf, givenTo, givenFor, adjustedSum. Own work. -/
theorem gM_ag {A A' : Nat → Nat → Int32} (h : AgA A A') (b : Bk) (O : Nat → Nat) (n : Nat) (p day : Int32) : gM b A' O n p day = gM b A O n p day := by
  unfold gM; rw [h 9 (by decide) (by decide) (by decide), h 10 (by decide) (by decide) (by decide)]
theorem gM_lt {A : Nat → Nat → Int32} {n : Nat} {O : Nat → Nat} {b : Bk} (hB : BR A n O b) (p day : Int32) (k : Nat) (hk : k < (gM b A O n p day).length) : (gM b A O n p day).getD k 0 < n ∧ A 20 ((gM b A O n p day).getD k 0) = mv b ((gM b A O n p day).getD k 0) := by
  have h1 : (gM b A O n p day).getD k 0 < n := gl_lt _ O n n (fun j hj => (hB.1 j hj).1) k hk
  refine ⟨h1, ?_⟩
  have := ((gl_mem _ O _ n).mp (gd_mem _ k hk)).1
  unfold qM at this
  rw [Bool.and_eq_true, Bool.and_eq_true] at this
  have hs : (b.1 ((gM b A O n p day).getD k 0)).isSome = true := this.1.1
  obtain ⟨v, hv⟩ := Option.isSome_iff_exists.mp hs
  rw [hB.2.2.1 _ v h1 hv]; unfold mv; rw [hv]; rfl
/-- card k's RAW counts for the LOW of a day -/
def lwC (b : Bk) (A : Nat → Nat → Int32) (O : Nat → Nat) (n : Nat) (p day : Int32) (k : Nat) : Bool := decide ((b.1 k).isSome = true ∧ A 9 k = p ∧ ¬ day < A 10 k + 1 ∧ day - 364 ≤ A 10 k + 1 ∧ 20 ≤ m20 (gM b A O n p (A 10 k + 1)))
def mnO : Option Int32 → Int32 → Int32
  | none, r => r
  | some l, r => if r ≤ l then r else l
def lowF (b : Bk) (A : Nat → Nat → Int32) (O : Nat → Nat) (n : Nat) (p day : Int32) : Nat → Option Int32
  | 0 => none
  | k + 1 => if lwC b A O n p day k = true then some (mnO (lowF b A O n p day k) (rwL b (gM b A O n p (A 10 k + 1)))) else lowF b A O n p day k
def rawO (b : Bk) (l : List Nat) : Option Int32 := if tkN (m20 l) = 0 then none else some (rwL b l)
def numS : Option Int32 → Option Int32 → Int32
  | none, _ => 540
  | some r, none => r
  | some r, some l => if l + 30 < r then (if l + 50 < l + 30 + (r - l - 30) / 2 then l + 50 else l + 30 + (r - l - 30) / 2) else r
def numB (b : Bk) (A : Nat → Nat → Int32) (O : Nat → Nat) (n : Nat) (p day : Int32) : Int32 := numS (rawO b (gM b A O n p day)) (lowF b A O n p day n)
theorem lowF_ag {A A' : Nat → Nat → Int32} (h : AgA A A') (b : Bk) (O : Nat → Nat) (n : Nat) (p day : Int32) : ∀ k, lowF b A' O n p day k = lowF b A O n p day k
  | 0 => rfl
  | k + 1 => by
    unfold lowF lwC
    rw [lowF_ag h b O n p day k, h 9 (by decide) (by decide) (by decide), h 10 (by decide) (by decide) (by decide), gM_ag h]
theorem numB_ag {A A' : Nat → Nat → Int32} (h : AgA A A') (b : Bk) (O : Nat → Nat) (n : Nat) (p day : Int32) : numB b A' O n p day = numB b A O n p day := by
  unfold numB; rw [gM_ag h, lowF_ag h]
def gvT (num : Int32) (A : Nat → Nat → Int32) (c : Nat) : Int32 := rnd (num * A 1 c + 113 * (A 0 c - 10 * parsF A c 18)) 1130
theorem parsF_eq {A A' : Nat → Nat → Int32} (h : A' 2 = A 2) (c : Nat) : ∀ k, parsF A' c k = parsF A c k
  | 0 => rfl
  | k + 1 => by unfold parsF; rw [parsF_eq h c k, h]
/-- the sum of ADJUSTED over j holes from f on -/
def asF (A : Nat → Nat → Int32) (k c : Nat) (g : Int32) (f : Nat) : Nat → Int32
  | 0 => 0
  | j + 1 => asF A k c g f j + adF (A 15 (18 * k + (f + j))) (A 2 (18 * c + (f + j)) + gvF g (A 3 (18 * c + (f + j))))
def gfB (b : Bk) (A : Nat → Nat → Int32) (O : Nat → Nat) (n k c : Nat) : Int32 := gvT (numB b A O n (A 9 k) (A 10 k)) A c
def asB (b : Bk) (A : Nat → Nat → Int32) (O : Nat → Nat) (n k c : Nat) : Int32 := asF A k c (gfB b A O n k c) (fsN A k) (lsN A k - fsN A k)
theorem asF_ag {A A' : Nat → Nat → Int32} (h : AgA A A') (k c : Nat) (g : Int32) (f : Nat) : ∀ j, asF A' k c g f j = asF A k c g f j
  | 0 => rfl
  | j + 1 => by unfold asF; rw [asF_ag h k c g f j, h 15 (by decide) (by decide) (by decide), h 2 (by decide) (by decide) (by decide), h 3 (by decide) (by decide) (by decide)]
theorem nI_z {t : Nat} (h : t < 2 ^ 31) : nI t = 0 ↔ t = 0 := ⟨fun q => Nat.eq_zero_of_not_pos (fun w => nI_ne0 w h q), fun q => by rw [q]; rfl⟩
section MNumb
variable (d : Nat) (z0 : ZS) (V : Nat → Int32) (A : Nat → Nat → Int32)
theorem M_lowOf (hM : MT z0) (n : Nat) (hn : V 10 = nI n) (h60 : n ≤ 60) (O : Nat → Nat) (b : Bk) (hB : BR A n O b) (p day : Int32) : ∃ (V' : Nat → Int32) (A' : Nat → Nat → Int32), Rn (d + 4) i_M_lowOf [.ref 46, .int p, .int day] (mz z0 V A) (some (.int ((lowF b A O n p day n).getD 0))) (mz z0 V' A') ∧ Ag V V' ∧ AgA A A' ∧ V' 34 = (if (lowF b A O n p day n).isSome = true then 1 else 0) := by
  have q : Rq (d + 4) i_M_lowOf [.ref 46, .int p, .int day] (mz z0 V A) (fun r z' => ∃ (V' : Nat → Int32) (A' : Nat → Nat → Int32), r = some (.int ((lowF b A O n p day n).getD 0)) ∧ z' = mz z0 V' A' ∧ Ag V V' ∧ AgA A A' ∧ V' 34 = (if (lowF b A O n p day n).isSome = true then 1 else 0)) := by
    refine rq_i (full := cd_148) hM.1 (fun _ _ _ => ok_n rfl) rfl (fun K hK => ?_)
    have key := loop_up (P := fun k => ∀ (V' : Nat → Int32) (A' : Nat → Nat → Int32) (v5 v6 : Value), Ag V V' → AgA A A' → (V' 34 = if (lowF b A O n p day k).isSome = true then 1 else 0) → K 10 [.ref 46, .int p, .int day, .int ((lowF b A O n p day k).getD 0), .int (nI k), v5, v6] [] (mz z0 V' A')) n (fun k hk ih V' A' v5 v6 hV hA h34 => ?_) 0 (by omega)
    · refine hK 0 _ _ _ ⟨⟨hM.1, Or.inl rfl⟩, ?_⟩
      rw [mz_sV]
      exact key (upd V 34 0) A .null .null (fun k a b c => by show (if k = 34 then _ else V k) = V k; rw [if_neg c]) (AgA_r A) rfl
    · have h10 : V' 10 = nI n := (hV 10 (by decide) (by decide) (by decide)).trans hn
      have hB' : BR A' n O b := BR_ag hA hB
      have e9 : A' 9 = A 9 := hA 9 (by decide) (by decide) (by decide)
      have e10 : A' 10 = A 10 := hA 10 (by decide) (by decide) (by decide)
      refine hK 7 _ _ _ ⟨hM.1, ⟨fun c1 => ?_, fun c1 => ?_⟩⟩
      · have c1 : V' 10 ≤ nI k := c1
        rw [h10] at c1
        have c1 : n ≤ k := (nI_leI (by omega) (by omega)).mp c1
        have : k = n := by omega
        subst this
        exact ⟨V', A', rfl, rfl, hV, hA, h34⟩
      · have c1 : ¬ V' 10 ≤ nI k := c1
        rw [h10] at c1
        have c1 := nI_leN (by omega) (by omega) c1
        have ih := ih c1
        have ck : (nI k).toNatClampNeg = k := nI_clamp (by omega)
        have vk : vp_in (nI k) 60 := vp_in_nI (by omega) (by decide)
        have stay : ¬ lwC b A O n p day k = true → ∀ (V'' : Nat → Int32) (A'' : Nat → Nat → Int32) (v5 v6 : Value), Ag V V'' → AgA A A'' → V'' 34 = V' 34 → K 10 [.ref 46, .int p, .int day, .int ((lowF b A O n p day k).getD 0), .int (nI k + 1), v5, v6] [] (mz z0 V'' A'') := by
          intro hc V'' A'' v5 v6 a b' c
          have e : lowF b A O n p day (k + 1) = lowF b A O n p day k := by
            show (if _ then _ else _) = _
            rw [if_neg hc]
          have g := ih V'' A'' v5 v6 a b' (by rw [e, c]; exact h34)
          rw [e, nI_succ] at g; exact g
        have go : lwC b A O n p day k = true → ∀ (V'' : Nat → Int32) (A'' : Nat → Nat → Int32) (v5 v6 : Value), Ag V V'' → AgA A A'' → V'' 34 = 1 → K 10 [.ref 46, .int p, .int day, .int (mnO (lowF b A O n p day k) (rwL b (gM b A O n p (A 10 k + 1)))), .int (nI k + 1), v5, v6] [] (mz z0 V'' A'') := by
          intro hc V'' A'' v5 v6 a b' c
          have e : lowF b A O n p day (k + 1) = some (mnO (lowF b A O n p day k) (rwL b (gM b A O n p (A 10 k + 1)))) := by
            show (if _ then _ else _) = _
            rw [if_pos hc]
          have g := ih V'' A'' v5 v6 a b' (by rw [e, c]; rfl)
          rw [e, nI_succ] at g; exact g
        obtain ⟨V1, A1, r1, a1, aa1, h34', h29, h31, h26⟩ := M_findMakers (d + 1) z0 V' A' hM n h10 h60 O b hB' p (A 10 k + 1)
        have r1 : Rn (d + 3) i_M_findMakers [.ref 46, .int p, .int (A' 10 (nI k).toNatClampNeg + 1)] (mz z0 V' A') none (mz z0 V1 A1) := by rw [ck, e10]; exact r1
        have lt := fun j => gM_lt hB' p (A 10 k + 1) j
        rw [gM_ag hA] at h29 h31 h26 lt
        have e20 : A1 20 = A' 20 := aa1 20 (by decide) (by decide) (by decide)
        have raw : 20 ≤ m20 (gM b A O n p (A 10 k + 1)) → Rn (d + 3) i_M_rawOfMakers [.ref 46] (mz z0 V1 A1) (some (.int (rwL b (gM b A O n p (A 10 k + 1))))) (mz z0 V1 A1) := fun h => M_raw d z0 V1 A1 hM b _ n h60 (fun j hj => by rw [e20]; exact lt j hj) h29 h31 h26 (fun w => by have := (tkN_0 _).mp w; omega)
        have m29 : (20 ≤ V1 29) ↔ 20 ≤ m20 (gM b A O n p (A 10 k + 1)) := by
          rw [h29]; exact nI_leI (a := 20) (by omega) (by have : m20 (gM b A O n p (A 10 k + 1)) ≤ 20 := by unfold m20; omega
                                                          omega)
        have aV := Ag_t hV a1
        have aA := AgA_t hA aa1
        have s34 : ∀ k', k' ≠ 29 → k' ≠ 31 → k' ≠ 34 → upd V1 34 1 k' = V k' := fun k' a b c => by
          show (if k' = 34 then _ else V1 k') = V k'
          rw [if_neg c]; exact aV k' a b c
        refine ⟨mt_g hM 10 (by decide), ⟨mt_l hM 10 (by decide) vk, ⟨mt_g hM 19 (by decide), ⟨mt_l hM 19 (by decide) vk, ⟨fun c5 => ?_,
          fun c5 => ⟨mt_g hM 9 (by decide), ⟨mt_l hM 9 (by decide) vk, ⟨fun c8 => ⟨fun c9 => ?_,
              fun c9 => ⟨fun c11 => ⟨_, _, r1, ⟨hM.1, ⟨fun c13 => ⟨_, _, raw (m29.mp c13), ⟨hM.1, ⟨fun c15 => ⟨⟨hM.1, Or.inr rfl⟩, ?_⟩,
                    fun c15 => ⟨fun c18 => ⟨⟨hM.1, Or.inr rfl⟩, ?_⟩,
                      fun c18 => ⟨⟨hM.1, Or.inr rfl⟩, ?_⟩⟩⟩⟩⟩,
                  fun c13 => ?_⟩⟩⟩,
                fun c11 => ?_⟩⟩,
            fun c8 => ?_⟩⟩⟩⟩⟩⟩⟩⟩
        · have c5 : A' 19 (nI k).toNatClampNeg = 0 := c5
          rw [ck, hB'.2.1 k c1] at c5
          refine stay (fun w => ?_) V' A' _ _ hV hA rfl
          have w := (of_decide_eq_true w).1
          rw [c5] at w; exact absurd w (by decide)
        · have c9 : day < A' 10 (nI k).toNatClampNeg + 1 := c9
          rw [ck, e10] at c9
          exact stay (fun w => (of_decide_eq_true w).2.2.1 c9) V' A' _ _ hV hA rfl
        all_goals try (have c5 : ¬ A' 19 (nI k).toNatClampNeg = 0 := c5
                       rw [ck, hB'.2.1 k c1] at c5)
        all_goals try (have c8 : A' 9 (nI k).toNatClampNeg = p := c8
                       rw [ck, e9] at c8)
        all_goals try (have c9 : ¬ day < A' 10 (nI k).toNatClampNeg + 1 := c9
                       rw [ck, e10] at c9)
        all_goals try (have c11 : day - 364 ≤ A' 10 (nI k).toNatClampNeg + 1 := c11
                       rw [ck, e10] at c11)
        · have hc : lwC b A O n p day k = true := decide_eq_true ⟨Option.isSome_iff_ne_none.mpr c5, c8, c9, c11, m29.mp c13⟩
          have c15 : V1 34 = 0 := c15
          have : lowF b A O n p day k = none := by
            rw [h34', h34] at c15
            have := b1_t c15
            exact Option.not_isSome_iff_eq_none.mp this
          rw [mz_sV]
          have g := go hc (upd V1 34 1) A1 (.int (A' 10 (nI k).toNatClampNeg + 1)) (.int (rwL b (gM b A O n p (A 10 k + 1)))) s34 aA rfl
          rw [this] at g; exact g
        · have hc : lwC b A O n p day k = true := decide_eq_true ⟨Option.isSome_iff_ne_none.mpr c5, c8, c9, c11, m29.mp c13⟩
          have c15 : ¬ V1 34 = 0 := c15
          rw [h34', h34] at c15
          obtain ⟨l, hl⟩ := Option.isSome_iff_exists.mp (b1_f c15)
          have c18 : rwL b (gM b A O n p (A 10 k + 1)) ≤ (lowF b A O n p day k).getD 0 := c18
          rw [hl] at c18
          have c18 : rwL b (gM b A O n p (A 10 k + 1)) ≤ l := c18
          rw [mz_sV]
          have g := go hc (upd V1 34 1) A1 (.int (A' 10 (nI k).toNatClampNeg + 1)) (.int (rwL b (gM b A O n p (A 10 k + 1)))) s34 aA rfl
          rw [hl] at g
          simp only [mnO, c18, if_true] at g
          exact g
        · have hc : lwC b A O n p day k = true := decide_eq_true ⟨Option.isSome_iff_ne_none.mpr c5, c8, c9, c11, m29.mp c13⟩
          have c15 : ¬ V1 34 = 0 := c15
          rw [h34', h34] at c15
          obtain ⟨l, hl⟩ := Option.isSome_iff_exists.mp (b1_f c15)
          have c18 : ¬ rwL b (gM b A O n p (A 10 k + 1)) ≤ (lowF b A O n p day k).getD 0 := c18
          rw [mz_sV]
          have g := go hc (upd V1 34 1) A1 (.int (A' 10 (nI k).toNatClampNeg + 1)) (.int (rwL b (gM b A O n p (A 10 k + 1)))) s34 aA rfl
          rw [hl] at c18 g
          have c18 : ¬ rwL b (gM b A O n p (A 10 k + 1)) ≤ l := c18
          simp only [mnO, c18, if_false] at g
          show K 10 [.ref 46, .int p, .int day, .int ((lowF b A O n p day k).getD 0), .int (nI k + 1), _, _] [] _
          rw [hl]
          exact g
        · exact stay (fun w => c13 (m29.mpr (of_decide_eq_true w).2.2.2.2)) V1 A1 _ _ aV aA h34'
        · have c11 : ¬ day - 364 ≤ A' 10 (nI k).toNatClampNeg + 1 := c11
          rw [ck, e10] at c11
          exact stay (fun w => c11 (of_decide_eq_true w).2.2.2.1) V' A' _ _ hV hA rfl
        · have c8 : ¬ A' 9 (nI k).toNatClampNeg = p := c8
          rw [ck, e9] at c8
          exact stay (fun w => c8 (of_decide_eq_true w).2.1) V' A' _ _ hV hA rfl
  obtain ⟨r, z', h, V', A', e1, e2, h1, h2, h3⟩ := q
  subst e1; subst e2
  exact ⟨V', A', h, h1, h2, h3⟩
theorem M_numberOf (hM : MT z0) (n : Nat) (hn : V 10 = nI n) (h60 : n ≤ 60) (O : Nat → Nat) (b : Bk) (hB : BR A n O b) (p day : Int32) : ∃ (V' : Nat → Int32) (A' : Nat → Nat → Int32), Rn (d + 5) i_M_numberOf [.ref 46, .int p, .int day] (mz z0 V A) (some (.int (numB b A O n p day))) (mz z0 V' A') ∧ Ag V V' ∧ AgA A A' := by
  obtain ⟨V1, A1, r1, a1, aa1, h34⟩ := M_lowOf d z0 V A hM n hn h60 O b hB p day
  obtain ⟨V2, A2, r2, a2, aa2, h34', h29, h31, h26⟩ := M_findMakers (d + 2) z0 V1 A1 hM n ((a1 10 (by decide) (by decide) (by decide)).trans hn) h60 O b (BR_ag aa1 hB) p day
  have lt := fun j => gM_lt (BR_ag aa1 hB) p day j
  rw [gM_ag aa1] at h29 h31 h26 lt
  have e20 : A2 20 = A1 20 := aa2 20 (by decide) (by decide) (by decide)
  have tl : tkN (m20 (gM b A O n p day)) < 2 ^ 31 := by
    have := tkN_le (m20 (gM b A O n p day)) (by unfold m20; omega)
    omega
  have h3 : ¬ V2 31 = 0 → ¬ tkN (m20 (gM b A O n p day)) = 0 := fun w w' => w (by rw [h31, w']; rfl)
  have raw : ¬ V2 31 = 0 → Rn (d + 4) i_M_rawOfMakers [.ref 46] (mz z0 V2 A2) (some (.int (rwL b (gM b A O n p day)))) (mz z0 V2 A2) := fun h => M_raw (d + 1) z0 V2 A2 hM b _ n h60 (fun j hj => by rw [e20]; exact lt j hj) h29 h31 h26 (h3 h)
  refine ⟨V2, A2, rn_i (full := cd_149) hM.1 (ok_n rfl) rfl (fun K hK => hK 0 _ _ _ ⟨_, _, r1, ⟨_, _, r2, ⟨hM.1, ⟨fun c3 => ⟨?_, rfl⟩,
    fun c3 => ⟨_, _, raw c3, ⟨hM.1, ⟨fun c6 => ⟨?_, rfl⟩,
      fun c6 => ⟨fun c8 => ⟨by decide, ⟨_, _, J_min (d + 3) _ _ _, ⟨?_, rfl⟩⟩⟩,
        fun c8 => ⟨?_, rfl⟩⟩⟩⟩⟩⟩⟩⟩⟩), Ag_t a1 a2, AgA_t aa1 aa2⟩
  · have c3 : V2 31 = 0 := c3
    rw [h31, nI_z tl] at c3
    unfold numB rawO
    rw [if_pos c3]; rfl
  all_goals have c6' : (V2 34 = 0) = _ := rfl
  · have c6 : V2 34 = 0 := c6
    rw [h34', h34] at c6
    have := Option.not_isSome_iff_eq_none.mp (b1_t c6)
    unfold numB rawO
    rw [if_neg (h3 c3), this]; rfl
  · have c6 : ¬ V2 34 = 0 := c6
    rw [h34', h34] at c6
    obtain ⟨l, hl⟩ := Option.isSome_iff_exists.mp (b1_f c6)
    have c8 : (lowF b A O n p day n).getD 0 + 30 < rwL b (gM b A O n p day) := c8
    unfold numB rawO
    rw [hl] at c8 ⊢
    have c8 : l + 30 < rwL b (gM b A O n p day) := c8
    rw [if_neg (h3 c3)]
    simp only [numS, c8, if_true]
    rfl
  · have c6 : ¬ V2 34 = 0 := c6
    rw [h34', h34] at c6
    obtain ⟨l, hl⟩ := Option.isSome_iff_exists.mp (b1_f c6)
    have c8 : ¬ (lowF b A O n p day n).getD 0 + 30 < rwL b (gM b A O n p day) := c8
    unfold numB rawO
    rw [hl] at c8 ⊢
    have c8 : ¬ l + 30 < rwL b (gM b A O n p day) := c8
    rw [if_neg (h3 c3)]
    simp only [numS, c8, if_false]
theorem M_givenTo (hM : MT z0) (n : Nat) (hn : V 10 = nI n) (h60 : n ≤ 60) (O : Nat → Nat) (b : Bk) (hB : BR A n O b) (p day : Int32) (c : Nat) (hc : c < 4) : ∃ (V' : Nat → Int32) (A' : Nat → Nat → Int32), Rn (d + 6) i_M_givenTo [.ref 46, .int p, .int (nI c), .int day] (mz z0 V A) (some (.int (gvT (numB b A O n p day) A c))) (mz z0 V' A') ∧ Ag V V' ∧ AgA A A' := by
  obtain ⟨V1, A1, r1, a1, aa1⟩ := M_numberOf d z0 V A hM n hn h60 O b hB p day
  have vc : vp_in (nI c) 4 := vp_in_nI hc (by decide)
  have cc : (nI c).toNatClampNeg = c := nI_clamp (by omega)
  refine ⟨V1, A1, rn_i (full := cd_139) hM.1 (ok_n rfl) rfl (fun K hK => hK 0 _ _ _ ⟨_, _, r1, ⟨mt_g hM 1 (by decide), ⟨mt_l hM 1 (by decide) vc, ⟨mt_g hM 0 (by decide), ⟨mt_l hM 0 (by decide) vc, ⟨_, _, M_pars (d + 4) z0 V1 A1 hM c 18 hc (by decide), ⟨_, _, M_rounded (d + 3) _ _ 1130 (by decide), ⟨?_, rfl⟩⟩⟩⟩⟩⟩⟩⟩), a1, aa1⟩
  show some (Value.int (rnd (numB b A O n p day * A1 1 (nI c).toNatClampNeg + 113 * (A1 0 (nI c).toNatClampNeg - 10 * parsF A1 c 18)) 1130)) = _
  rw [cc, parsF_eq (aa1 2 (by decide) (by decide) (by decide)), aa1 1 (by decide) (by decide) (by decide), aa1 0 (by decide) (by decide) (by decide)]; rfl
theorem M_givenFor (hM : MT z0) (n : Nat) (hn : V 10 = nI n) (h60 : n ≤ 60) (O : Nat → Nat) (b : Bk) (hB : BR A n O b) (k c : Nat) (hk : k < 60) (hc : c < 4) (hck : A 11 k = nI c) : ∃ (V' : Nat → Int32) (A' : Nat → Nat → Int32), Rn (d + 7) i_M_givenFor [.ref 46, .int (nI k)] (mz z0 V A) (some (.int (gfB b A O n k c))) (mz z0 V' A') ∧ Ag V V' ∧ AgA A A' := by
  have vk : vp_in (nI k) 60 := vp_in_nI hk (by decide)
  have ck : (nI k).toNatClampNeg = k := nI_clamp (by omega)
  obtain ⟨V1, A1, r1, a1, aa1⟩ := M_givenTo d z0 V A hM n hn h60 O b hB (A 9 k) (A 10 k) c hc
  have r1 : Rn (d + 6) i_M_givenTo [.ref 46, .int (A 9 (nI k).toNatClampNeg), .int (A 11 (nI k).toNatClampNeg), .int (A 10 (nI k).toNatClampNeg)] (mz z0 V A) (some (.int (gfB b A O n k c))) (mz z0 V1 A1) := by rw [ck, hck]; exact r1
  exact ⟨V1, A1, rn_i (full := cd_140) hM.1 (ok_n rfl) rfl (fun K hK => hK 0 _ _ _ ⟨mt_g hM 9 (by decide), ⟨mt_l hM 9 (by decide) vk, ⟨mt_g hM 11 (by decide), ⟨mt_l hM 11 (by decide) vk, ⟨mt_g hM 10 (by decide), ⟨mt_l hM 10 (by decide) vk, ⟨_, _, r1, ⟨rfl, rfl⟩⟩⟩⟩⟩⟩⟩⟩), a1, aa1⟩
theorem fsN_ag {A A' : Nat → Nat → Int32} (h : AgA A A') (k : Nat) : fsN A' k = fsN A k := by unfold fsN; rw [h 12 (by decide) (by decide) (by decide)]
theorem lsN_ag {A A' : Nat → Nat → Int32} (h : AgA A A') (k : Nat) : lsN A' k = lsN A k := by unfold lsN; rw [fsN_ag h, h 8 (by decide) (by decide) (by decide)]
theorem CK_ag {A A' : Nat → Nat → Int32} (h : AgA A A') {k : Nat} (hC : CK A k) : CK A' k := by
  unfold CK lastF at hC ⊢
  rw [fsN_ag h, lsN_ag h, h 12 (by decide) (by decide) (by decide), h 8 (by decide) (by decide) (by decide)]; exact hC
theorem M_adjustedSum (hM : MT z0) (n : Nat) (hn : V 10 = nI n) (h60 : n ≤ 60) (O : Nat → Nat) (b : Bk) (hB : BR A n O b) (k c : Nat) (hk : k < 60) (hc : c < 4) (hck : A 11 k = nI c) (hC : CK A k) : ∃ (V' : Nat → Int32) (A' : Nat → Nat → Int32), Rn (d + 8) i_M_adjustedSum [.ref 46, .int (nI k)] (mz z0 V A) (some (.int (asB b A O n k c))) (mz z0 V' A') ∧ Ag V V' ∧ AgA A A' := by
  have vk : vp_in (nI k) 60 := vp_in_nI hk (by decide)
  have ck : (nI k).toNatClampNeg = k := nI_clamp (by omega)
  obtain ⟨V1, A1, r1, a1, aa1⟩ := M_givenFor d z0 V A hM n hn h60 O b hB k c hk hc hck
  have hC1 := CK_ag aa1 hC
  have hck1 : A1 11 k = nI c := by rw [aa1 11 (by decide) (by decide) (by decide)]; exact hck
  have e : asB b A O n k c = asF A1 k c (gfB b A O n k c) (fsN A1 k) (lsN A1 k - fsN A1 k) := by
    unfold asB; rw [fsN_ag aa1, lsN_ag aa1, asF_ag aa1]
  rw [e]
  obtain ⟨h1, h2, h3⟩ := hC1
  have hfl : fsN A1 k ≤ lsN A1 k := by unfold lsN; omega
  refine ⟨V1, A1, rn_i (full := cd_142) hM.1 (ok_n rfl) rfl (fun K hK => hK 0 _ _ _ ⟨_, _, r1, ⟨mt_g hM 12 (by decide), ⟨mt_l hM 12 (by decide) vk, ?_⟩⟩⟩), a1, aa1⟩
  show K 16 [.ref 46, .int (nI k), .int (gfB b A O n k c), .int 0, .int (A1 12 (nI k).toNatClampNeg)] [] (mz z0 V1 A1)
  rw [ck, h1]
  refine loop_up (P := fun j => K 16 [.ref 46, .int (nI k), .int (gfB b A O n k c), .int (asF A1 k c (gfB b A O n k c) (fsN A1 k) j), .int (nI (fsN A1 k + j))] [] (mz z0 V1 A1)) (lsN A1 k - fsN A1 k) (fun j hj ih => ?_) 0 (by omega)
  have at_ := fun hl : fsN A1 k + j < 18 => M_adjustedAt (d + 4) z0 V1 A1 hM k c (fsN A1 k + j) hk hc hl hck1 (gfB b A O n k c)
  refine hK 11 _ _ _ ⟨_, _, M_lastOf (d + 6) z0 V1 A1 hM k hk, ⟨fun c2 => ?_, fun c2 => ⟨_, _, at_ ?_, ?_⟩⟩⟩
  · rw [h2] at c2
    have c2 : lsN A1 k ≤ fsN A1 k + j := (nI_leI (by omega) (by omega)).mp c2
    have : j = lsN A1 k - fsN A1 k := by omega
    subst this
    exact ⟨rfl, rfl⟩
  · rw [h2] at c2
    have c2 := nI_leN (by omega) (by omega) c2
    omega
  · rw [h2] at c2
    have c2 := nI_leN (by omega) (by omega) c2
    have ih := ih (by omega)
    rw [← Nat.add_assoc, nI_succ] at ih
    exact ih
end MNumb
