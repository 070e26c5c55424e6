/-! The model's public methods that need no book and no loop. Own work. -/
theorem nI_rng {c N : Nat} (h : c ≤ N) (hN : N < 2 ^ 31) : 0 ≤ nI c ∧ nI c ≤ nI N := ⟨nI_pos' (by omega), nI_le h hN⟩
theorem rng_nI {x : Int32} {N : Nat} (hN : N < 2 ^ 31) (h : 0 ≤ x ∧ x ≤ nI N) : ∃ j, j ≤ N ∧ x = nI j := nI_of2 (nI_toInt hN) (Int32.not_lt.mpr h.1) h.2
theorem toInt_inj {x y : Int32} (h : x.toInt = y.toInt) : x = y := Int32.toInt_inj.mp h
section MPub
variable (d : Nat) (z0 : ZS) (V : Nat → Int32) (A : Nat → Nat → Int32)
theorem M_fB (hM : MT z0) : Rn (d + 1) i_M_finding [.ref 46, .int (-100001)] (mz z0 V A) (some (.int (-100001))) (mz z0 V (cnt A 1)) := M_finding d z0 V A hM _ 1 (by decide) (by decide)
theorem M_fN (hM : MT z0) : Rn (d + 1) i_M_finding [.ref 46, .int (-100002)] (mz z0 V A) (some (.int (-100002))) (mz z0 V (cnt A 2)) := M_finding d z0 V A hM _ 2 (by decide) (by decide)
theorem M_fK (hM : MT z0) : Rn (d + 1) i_M_finding [.ref 46, .int (-100003)] (mz z0 V A) (some (.int (-100003))) (mz z0 V (cnt A 3)) := M_finding d z0 V A hM _ 3 (by decide) (by decide)
theorem M_fS (hM : MT z0) : Rn (d + 1) i_M_finding [.ref 46, .int (-100004)] (mz z0 V A) (some (.int (-100004))) (mz z0 V (cnt A 4)) := M_finding d z0 V A hM _ 4 (by decide) (by decide)
theorem M_fF (hM : MT z0) : Rn (d + 1) i_M_finding [.ref 46, .int (-100005)] (mz z0 V A) (some (.int (-100005))) (mz z0 V (cnt A 5)) := M_finding d z0 V A hM _ 5 (by decide) (by decide)
theorem M_fV (hM : MT z0) : Rn (d + 1) i_M_finding [.ref 46, .int (-100006)] (mz z0 V A) (some (.int (-100006))) (mz z0 V (cnt A 6)) := M_finding d z0 V A hM _ 6 (by decide) (by decide)
-- course
theorem M_course_bad (hM : MT z0) (c r s : Int32) (h : ¬ ((0 ≤ c ∧ c ≤ 3) ∧ (500 ≤ r ∧ r ≤ 800) ∧ (55 ≤ s ∧ s ≤ 155))) : Rn (d + 3) i_M_course [.ref 46, .int c, .int r, .int s] (mz z0 V A) (some (.int (-100001))) (mz z0 V (cnt A 1)) :=
  rn_i (full := cd_114) hM.1 trivial rfl (fun K hK => hK 0 _ _ _ ⟨_, _, M_isCourse _ _ _, ⟨fun c2 => ⟨_, _, M_fB _ z0 V A hM, rfl, rfl⟩, fun c2 => ⟨_, _, M_in _ _ _ _ _, ⟨fun c6 => ⟨_, _, M_fB _ z0 V A hM, rfl, rfl⟩, fun c6 => ⟨_, _, M_in _ _ _ _ _, ⟨fun c10 => ⟨_, _, M_fB _ z0 V A hM, rfl, rfl⟩, fun c10 => absurd ⟨b1_f c2, b1_f c6, b1_f c10⟩ h⟩⟩⟩⟩⟩⟩)
theorem M_course_ok (hM : MT z0) (c : Nat) (hc : c < 4) (r s : Int32) (hr : 500 ≤ r ∧ r ≤ 800) (hs : 55 ≤ s ∧ s ≤ 155) : Rn (d + 3) i_M_course [.ref 46, .int (nI c), .int r, .int s] (mz z0 V A) (some (.int 1)) (mz z0 V (u2 (u2 A 0 c r) 1 c s)) := by
  have hi : vp_in (nI c) 4 := vp_in_nI hc (by decide)
  have hcl : (nI c).toNatClampNeg = c := nI_clamp (by omega)
  have hg : 0 ≤ nI c ∧ nI c ≤ 3 := nI_rng (N := 3) (by omega) (by decide)
  refine rn_i (full := cd_114) hM.1 trivial rfl (fun K hK => hK 0 _ _ _ ⟨_, _, M_isCourse _ _ _, ⟨fun c2 => absurd hg (b1_t c2), fun c2 => ⟨_, _, M_in _ _ _ _ _, ⟨fun c6 => absurd hr (b1_t c6), fun c6 => ⟨_, _, M_in _ _ _ _ _, ⟨fun c10 => absurd hs (b1_t c10), fun c10 => ⟨mt_g hM 0 (by decide), ⟨mt_l hM 0 (by decide) hi, ⟨mt_g hM 1 (by decide), ⟨mt_l hM 1 (by decide) hi, ⟨rfl, ?_⟩⟩⟩⟩⟩⟩⟩⟩⟩⟩⟩)
  rw [mz_sA (by decide) (by decide), mz_sA (by decide) (by decide), hcl]
-- strokes
theorem M_strokes_bad (hM : MT z0) (c g h : Int32) (hb : ¬ ((0 ≤ c ∧ c ≤ 3) ∧ (0 ≤ h ∧ h ≤ 17))) : Rn (d + 3) i_M_strokes [.ref 46, .int c, .int g, .int h] (mz z0 V A) (some (.int (-100001))) (mz z0 V (cnt A 1)) :=
  rn_i (full := cd_161) hM.1 trivial rfl (fun K hK => hK 0 _ _ _ ⟨_, _, M_isCourse _ _ _, ⟨fun c2 => ⟨_, _, M_fB _ z0 V A hM, rfl, rfl⟩, fun c2 => ⟨_, _, M_isHole _ _ _, ⟨fun c6 => ⟨_, _, M_fB _ z0 V A hM, rfl, rfl⟩, fun c6 => absurd ⟨b1_f c2, b1_f c6⟩ hb⟩⟩⟩⟩)
theorem M_strokes_ok (hM : MT z0) (c h : Nat) (hc : c < 4) (hh : h < 18) (g : Int32) : Rn (d + 3) i_M_strokes [.ref 46, .int (nI c), .int g, .int (nI h)] (mz z0 V A) (some (.int (gvF g (A 3 (18 * c + h))))) (mz z0 V A) :=
  rn_i (full := cd_161) hM.1 trivial rfl (fun K hK => hK 0 _ _ _ ⟨_, _, M_isCourse _ _ _, ⟨fun c2 => absurd (nI_rng (N := 3) (by omega) (by decide)) (b1_t c2), fun c2 => ⟨_, _, M_isHole _ _ _, ⟨fun c6 => absurd (nI_rng (N := 17) (by omega) (by decide)) (b1_t c6), fun c6 => ⟨_, _, M_givenAt _ z0 V A hM g c h hc hh, rfl, rfl⟩⟩⟩⟩⟩)
-- tell, undo, found
theorem M_tell_bad (hM : MT z0) (v : Int32) (h : V 19 = 20) : Rn (d + 2) i_M_tell [.ref 46, .int v] (mz z0 V A) (some (.int (-100005))) (mz z0 V (cnt A 5)) :=
  rn_i (full := cd_169) hM.1 trivial rfl (fun K hK => hK 0 _ _ _ ⟨hM.1, ⟨fun c1 => ⟨_, _, M_fF _ z0 V A hM, rfl, rfl⟩, fun c1 => absurd h c1⟩⟩)
theorem M_tell_ok (hM : MT z0) (v : Int32) (n : Nat) (hn : V 19 = nI n) (h : n < 20) : Rn (d + 2) i_M_tell [.ref 46, .int v] (mz z0 V A) (some (.int (nI (n + 1)))) (mz z0 (upd V 19 (nI (n + 1))) (u2 A 16 n v)) := by
  have hi : vp_in (V 19) 20 := by rw [hn]; exact vp_in_nI h (by decide)
  have hcl : (V 19).toNatClampNeg = n := by rw [hn]; exact nI_clamp (by omega)
  have h20 : ¬ V 19 = 20 := by rw [hn]; exact fun q => by have := (nI_eq (a := n) (b := 20) (by omega) (by decide)).mp q; omega
  refine rn_i (full := cd_169) hM.1 trivial rfl (fun K hK => hK 0 _ _ _ ⟨hM.1, ⟨fun c1 => absurd c1 h20, fun c1 => ⟨mt_g hM 16 (by decide), ⟨hM.1, ⟨mt_l hM 16 (by decide) hi, ⟨hM.1, ⟨hM.1, ⟨hM.1, ⟨?_, ?_⟩⟩⟩⟩⟩⟩⟩⟩⟩)
  · rw [mz_sA (by decide) (by decide), mz_sV]
    show some (Value.int (V 19 + 1)) = _
    rw [hn, nI_succ]
  · rw [mz_sA (by decide) (by decide), mz_sV]
    show mz z0 (upd V 19 (V 19 + 1)) (u2 A 16 (V 19).toNatClampNeg v) = _
    rw [hcl, hn, nI_succ]
theorem M_undo_bad (hM : MT z0) (h : V 10 = 0) : Rn (d + 2) i_M_undo [.ref 46] (mz z0 V A) (some (.int (-100002))) (mz z0 V (cnt A 2)) :=
  rn_i (full := cd_172) hM.1 trivial rfl (fun K hK => hK 0 _ _ _ ⟨hM.1, ⟨fun c1 => ⟨_, _, M_fN _ z0 V A hM, rfl, rfl⟩, fun c1 => absurd h c1⟩⟩)
theorem M_undo_ok (hM : MT z0) (n : Nat) (hn : V 10 = nI (n + 1)) (h : n < 60) : Rn (d + 2) i_M_undo [.ref 46] (mz z0 V A) (some (.int (nI n))) (mz z0 (upd V 10 (nI n)) A) := by
  have h0 : ¬ V 10 = 0 := by rw [hn]; exact nI_ne0 (by omega) (by omega)
  have h1 : V 10 - 1 = nI n := by rw [hn, nI_pred]
  refine rn_i (full := cd_172) hM.1 trivial rfl (fun K hK => hK 0 _ _ _ ⟨hM.1, ⟨fun c1 => absurd c1 h0, fun c1 => ⟨hM.1, ⟨hM.1, ⟨hM.1, ⟨?_, ?_⟩⟩⟩⟩⟩⟩)
  · rw [mz_sV]
    show some (Value.int (V 10 - 1)) = _
    rw [h1]
  · rw [mz_sV]
    show mz z0 (upd V 10 (V 10 - 1)) A = _
    rw [h1]
theorem M_found_bad (hM : MT z0) (f : Int32) (h : ¬ (-100006 ≤ f ∧ f ≤ -100001)) : Rn (d + 2) i_M_found [.ref 46, .int f] (mz z0 V A) (some (.int (-100001))) (mz z0 V (cnt A 1)) :=
  rn_i (full := cd_173) hM.1 trivial rfl (fun K hK => hK 0 _ _ _ ⟨_, _, M_in _ _ _ _ _, ⟨fun c2 => ⟨_, _, M_fB _ z0 V A hM, rfl, rfl⟩, fun c2 => absurd (b1_f c2) h⟩⟩)
theorem M_found_ok (hM : MT z0) (f : Int32) (h : -100006 ≤ f ∧ f ≤ -100001) (j : Nat) (hj : j < 7) (hf : -100000 - f = nI j) : Rn (d + 2) i_M_found [.ref 46, .int f] (mz z0 V A) (some (.int (A 17 j))) (mz z0 V A) := by
  have hi : vp_in (-100000 - f) 7 := by rw [hf]; exact vp_in_nI hj (by decide)
  refine rn_i (full := cd_173) hM.1 trivial rfl (fun K hK => hK 0 _ _ _ ⟨_, _, M_in _ _ _ _ _, ⟨fun c2 => absurd h (b1_t c2), fun c2 => ⟨mt_g hM 17 (by decide), ⟨mt_l hM 17 (by decide) hi, ⟨?_, rfl⟩⟩⟩⟩⟩)
  show some (Value.int (A 17 (-100000 - f).toNatClampNeg)) = _
  rw [hf, nI_clamp (by omega)]
-- pickUp
theorem M_pickUp_bad (hM : MT z0) (i : Int32) (h : ¬ (0 ≤ i ∧ i ≤ V 8 - 1)) : Rn (d + 2) i_M_pickUp [.ref 46, .int i] (mz z0 V A) (some (.int (-100001))) (mz z0 V (cnt A 1)) :=
  rn_i (full := cd_121) hM.1 trivial rfl (fun K hK => hK 0 _ _ _ ⟨hM.1, ⟨_, _, M_in _ _ _ _ _, ⟨fun c2 => ⟨_, _, M_fB _ z0 V A hM, rfl, rfl⟩, fun c2 => absurd (b1_f c2) h⟩⟩⟩)
theorem M_pickUp_ok (hM : MT z0) (i n : Nat) (hn : V 8 = nI n) (hi : i < n) (h18 : n ≤ 18) : Rn (d + 2) i_M_pickUp [.ref 46, .int (nI i)] (mz z0 V A) (some (.int 1)) (mz z0 V (u2 A 7 i (-1))) := by
  have hv : vp_in (nI i) 18 := vp_in_nI (by omega) (by decide)
  have hcl : (nI i).toNatClampNeg = i := nI_clamp (by omega)
  have hg : 0 ≤ nI i ∧ nI i ≤ V 8 - 1 := by
    obtain ⟨m, rfl⟩ : ∃ m, n = m + 1 := ⟨n - 1, by omega⟩
    rw [hn, nI_pred]
    exact nI_rng (by omega) (by omega)
  refine rn_i (full := cd_121) hM.1 trivial rfl (fun K hK => hK 0 _ _ _ ⟨hM.1, ⟨_, _, M_in _ _ _ _ _, ⟨fun c2 => absurd hg (b1_t c2), fun c2 => ⟨mt_g hM 7 (by decide), ⟨mt_l hM 7 (by decide) hv, ⟨rfl, ?_⟩⟩⟩⟩⟩⟩)
  rw [mz_sA (by decide) (by decide), hcl]
-- strike
theorem M_strike_bad (hM : MT z0) (k v : Int32) (h : ¬ (0 ≤ k ∧ k ≤ V 10 - 1)) : Rn (d + 3) i_M_strike [.ref 46, .int k, .int v] (mz z0 V A) (some (.int (-100001))) (mz z0 V (cnt A 1)) :=
  rn_i (full := cd_127) hM.1 trivial rfl (fun K hK => hK 0 _ _ _ ⟨_, _, M_isCard _ z0 V A hM _, ⟨fun c2 => ⟨_, _, M_fB _ z0 V A hM, rfl, rfl⟩, fun c2 => absurd (b1_f c2) h⟩⟩)
/-- there is such a card -/
theorem card_rng {V : Nat → Int32} {k n : Nat} (hn : V 10 = nI n) (hk : k < n) (h60 : n ≤ 60) : 0 ≤ nI k ∧ nI k ≤ V 10 - 1 := by
  obtain ⟨m, rfl⟩ : ∃ m, n = m + 1 := ⟨n - 1, by omega⟩
  rw [hn, nI_pred]
  exact nI_rng (by omega) (by omega)
theorem M_strike_ok (hM : MT z0) (k n : Nat) (hn : V 10 = nI n) (hk : k < n) (h60 : n ≤ 60) (v : Int32) (hv : v = 0 ∨ v = 1) : Rn (d + 3) i_M_strike [.ref 46, .int (nI k), .int v] (mz z0 V A) (some (.int (if A 14 k = v then 0 else 1))) (mz z0 V (u2 A 14 k v)) := by
  have hi : vp_in (nI k) 60 := vp_in_nI (by omega) (by decide)
  have hcl : (nI k).toNatClampNeg = k := nI_clamp (by omega)
  refine rn_i (full := cd_127) hM.1 trivial rfl (fun K hK => hK 0 _ _ _ ⟨_, _, M_isCard _ z0 V A hM _, ⟨fun c2 => absurd (card_rng hn hk h60) (b1_t c2), fun c2 => ⟨mt_g hM 14 (by decide), ⟨mt_l hM 14 (by decide) hi, ⟨fun c6 => ⟨mt_g hM 14 (by decide), ⟨mt_b hM 14 (by decide) hi hv, ⟨fun c9 => ⟨?_, ?_⟩, fun c9 => absurd rfl c9⟩⟩⟩, fun c6 => ⟨mt_g hM 14 (by decide), ⟨mt_b hM 14 (by decide) hi hv, ⟨fun c14 => absurd (show (1 : Int32) = 0 from c14) (by decide), fun c14 => ⟨?_, ?_⟩⟩⟩⟩⟩⟩⟩⟩⟩)
  · have c6 : A 14 (nI k).toNatClampNeg = v := c6
    rw [hcl] at c6
    rw [if_pos c6]
  · rw [mz_sA (by decide) (by decide), hcl]
  · have c6 : ¬ A 14 (nI k).toNatClampNeg = v := c6
    rw [hcl] at c6
    rw [if_neg c6]
  · rw [mz_sA (by decide) (by decide), hcl]
-- as
theorem M_as_bad (hM : MT z0) (k a : Int32) (h : ¬ ((0 ≤ k ∧ k ≤ V 10 - 1) ∧ (0 ≤ a ∧ a ≤ 2))) : Rn (d + 3) i_M_as [.ref 46, .int k, .int a] (mz z0 V A) (some (.int (-100001))) (mz z0 V (cnt A 1)) :=
  rn_i (full := cd_131) hM.1 trivial rfl (fun K hK => hK 0 _ _ _ ⟨_, _, M_isCard _ z0 V A hM _, ⟨fun c2 => ⟨_, _, M_fB _ z0 V A hM, rfl, rfl⟩, fun c2 => ⟨_, _, M_in _ _ _ _ _, ⟨fun c6 => ⟨_, _, M_fB _ z0 V A hM, rfl, rfl⟩, fun c6 => absurd ⟨b1_f c2, b1_f c6⟩ h⟩⟩⟩⟩)
theorem M_as_ok (hM : MT z0) (k n : Nat) (hn : V 10 = nI n) (hk : k < n) (h60 : n ≤ 60) (a : Int32) (ha : 0 ≤ a ∧ a ≤ 2) : Rn (d + 3) i_M_as [.ref 46, .int (nI k), .int a] (mz z0 V A) (some (.int (if a = 0 ∨ a = A 8 k then A 9 k else -100003))) (mz z0 V (if a = 0 ∨ a = A 8 k then A else cnt A 3)) := by
  have hi : vp_in (nI k) 60 := vp_in_nI (by omega) (by decide)
  have hcl : (nI k).toNatClampNeg = k := nI_clamp (by omega)
  by_cases hq : a = 0 ∨ a = A 8 k
  · rw [if_pos hq, if_pos hq]
    refine rn_i (full := cd_131) hM.1 trivial rfl (fun K hK => hK 0 _ _ _ ⟨_, _, M_isCard _ z0 V A hM _, ⟨fun c2 => absurd (card_rng hn hk h60) (b1_t c2), fun c2 => ⟨_, _, M_in _ _ _ _ _, ⟨fun c6 => absurd ha (b1_t c6), fun c6 => ⟨fun c9 => ⟨mt_g hM 9 (by decide), ⟨mt_l hM 9 (by decide) hi, ⟨?_, rfl⟩⟩⟩, fun c9 => ⟨mt_g hM 8 (by decide), ⟨mt_l hM 8 (by decide) hi, ⟨fun c13 => ⟨mt_g hM 9 (by decide), ⟨mt_l hM 9 (by decide) hi, ⟨?_, rfl⟩⟩⟩, fun c13 => absurd (hq.resolve_left c9) ?_⟩⟩⟩⟩⟩⟩⟩⟩)
    · show some (Value.int (A 9 (nI k).toNatClampNeg)) = _
      rw [hcl]
    · show some (Value.int (A 9 (nI k).toNatClampNeg)) = _
      rw [hcl]
    · have c13 : ¬ a = A 8 (nI k).toNatClampNeg := c13
      rw [hcl] at c13
      exact c13
  · rw [if_neg hq, if_neg hq]
    refine rn_i (full := cd_131) hM.1 trivial rfl (fun K hK => hK 0 _ _ _ ⟨_, _, M_isCard _ z0 V A hM _, ⟨fun c2 => absurd (card_rng hn hk h60) (b1_t c2), fun c2 => ⟨_, _, M_in _ _ _ _ _, ⟨fun c6 => absurd ha (b1_t c6), fun c6 => ⟨fun c9 => absurd (Or.inl c9) hq, fun c9 => ⟨mt_g hM 8 (by decide), ⟨mt_l hM 8 (by decide) hi, ⟨fun c13 => absurd (Or.inr ?_) hq, fun c13 => ⟨_, _, M_fK _ z0 V A hM, rfl, rfl⟩⟩⟩⟩⟩⟩⟩⟩⟩)
    have c13 : a = A 8 (nI k).toNatClampNeg := c13
    rw [hcl] at c13
    exact c13
end MPub
