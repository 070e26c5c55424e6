/-! More of the model's public methods: at, about, holes, write. Own work. -/
theorem upd_upd (V : Nat → Int32) (k : Nat) (a b : Int32) : upd (upd V k a) k b = upd V k b := by
  funext j; unfold upd; by_cases h : j = k
  · rw [if_pos h, if_pos h]
  · rw [if_neg h, if_neg h, if_neg h]
theorem upd_id (V : Nat → Int32) (k : Nat) (a : Int32) (h : V k = a) : upd V k a = V := by
  funext j; unfold upd; by_cases q : j = k
  · rw [if_pos q, q, h]
  · rw [if_neg q]
section MPub2
variable (d : Nat) (z0 : ZS) (V : Nat → Int32) (A : Nat → Nat → Int32)
-- at
theorem M_at_bad (hM : MT z0) (k h : Int32) (hb : ¬ (0 ≤ k ∧ k ≤ V 10 - 1)) : Rn (d + 3) i_M_at [.ref 46, .int k, .int h] (mz z0 V A) (some (.int (-100001))) (mz z0 V (cnt A 1)) :=
  rn_i (full := cd_133) hM.1 trivial rfl (fun K hK => hK 0 _ _ _ ⟨_, _, M_isCard _ z0 V A hM _, ⟨fun c2 => ⟨_, _, M_fB _ z0 V A hM, rfl, rfl⟩, fun c2 => absurd (b1_f c2) hb⟩⟩)
theorem M_at_kind (hM : MT z0) (k n : Nat) (hn : V 10 = nI n) (hk : k < n) (h60 : n ≤ 60) (h : Int32) (h2 : A 8 k = 2) : Rn (d + 3) i_M_at [.ref 46, .int (nI k), .int h] (mz z0 V A) (some (.int (-100003))) (mz z0 V (cnt A 3)) := by
  have hi : vp_in (nI k) 60 := vp_in_nI (by omega) (by decide)
  have hcl : (nI k).toNatClampNeg = k := nI_clamp (by omega)
  refine rn_i (full := cd_133) hM.1 trivial rfl (fun K hK => hK 0 _ _ _ ⟨_, _, M_isCard _ z0 V A hM _, ⟨fun c2 => absurd (card_rng hn hk h60) (b1_t c2), fun c2 => ⟨mt_g hM 8 (by decide), ⟨mt_l hM 8 (by decide) hi, ⟨fun c6 => ⟨_, _, M_fK _ z0 V A hM, rfl, rfl⟩, fun c6 => absurd ?_ c6⟩⟩⟩⟩⟩)
  show A 8 (nI k).toNatClampNeg = 2
  rw [hcl]; exact h2
theorem M_at_no (hM : MT z0) (k n : Nat) (hn : V 10 = nI n) (hk : k < n) (h60 : n ≤ 60) (h : Int32) (h2 : ¬ A 8 k = 2) (hb : ¬ (A 12 k ≤ h ∧ h < lastF A k)) : Rn (d + 3) i_M_at [.ref 46, .int (nI k), .int h] (mz z0 V A) (some (.int (-100001))) (mz z0 V (cnt A 1)) := by
  have hi : vp_in (nI k) 60 := vp_in_nI (by omega) (by decide)
  have hcl : (nI k).toNatClampNeg = k := nI_clamp (by omega)
  refine rn_i (full := cd_133) hM.1 trivial rfl (fun K hK => hK 0 _ _ _ ⟨_, _, M_isCard _ z0 V A hM _, ⟨fun c2 => absurd (card_rng hn hk h60) (b1_t c2), fun c2 => ⟨mt_g hM 8 (by decide), ⟨mt_l hM 8 (by decide) hi, ⟨fun c6 => absurd ?_ h2, fun c6 => ⟨_, _, M_hasHole _ z0 V A hM k (by omega) h, ⟨fun c10 => ⟨_, _, M_fB _ z0 V A hM, rfl, rfl⟩, fun c10 => absurd (b1_f c10) hb⟩⟩⟩⟩⟩⟩⟩)
  have c6 : A 8 (nI k).toNatClampNeg = 2 := c6
  rw [hcl] at c6; exact c6
theorem M_at_ok (hM : MT z0) (k n : Nat) (hn : V 10 = nI n) (hk : k < n) (h60 : n ≤ 60) (h : Nat) (h18 : h < 18) (h2 : ¬ A 8 k = 2) (hb : A 12 k ≤ nI h ∧ nI h < lastF A k) : Rn (d + 3) i_M_at [.ref 46, .int (nI k), .int (nI h)] (mz z0 V A) (some (.int (A 15 (18 * k + h)))) (mz z0 V A) := by
  have hi : vp_in (nI k) 60 := vp_in_nI (by omega) (by decide)
  have hcl : (nI k).toNatClampNeg = k := nI_clamp (by omega)
  refine rn_i (full := cd_133) hM.1 trivial rfl (fun K hK => hK 0 _ _ _ ⟨_, _, M_isCard _ z0 V A hM _, ⟨fun c2 => absurd (card_rng hn hk h60) (b1_t c2), fun c2 => ⟨mt_g hM 8 (by decide), ⟨mt_l hM 8 (by decide) hi, ⟨fun c6 => absurd ?_ h2, fun c6 => ⟨_, _, M_hasHole _ z0 V A hM k (by omega) (nI h), ⟨fun c10 => absurd hb (b1_t c10), fun c10 => ⟨mt_g hM 15 (by decide), ⟨mt_l hM 15 (by decide) ?_, ⟨?_, rfl⟩⟩⟩⟩⟩⟩⟩⟩⟩⟩)
  · have c6 : A 8 (nI k).toNatClampNeg = 2 := c6
    rw [hcl] at c6; exact c6
  · rw [ix18]; exact vp_in_nI (by show _ < 1080; omega) (by decide)
  · show some (Value.int (A 15 ((18 : Int32) * nI k + nI h).toNatClampNeg)) = _
    rw [ix18, nI_clamp (by omega)]
-- about
theorem M_about_bad (hM : MT z0) (c w : Int32) (hb : ¬ (0 ≤ c ∧ c ≤ 3)) : Rn (d + 3) i_M_about [.ref 46, .int c, .int w] (mz z0 V A) (some (.int (-100001))) (mz z0 V (cnt A 1)) :=
  rn_i (full := cd_119) hM.1 trivial rfl (fun K hK => hK 0 _ _ _ ⟨_, _, M_isCourse _ _ _, ⟨fun c2 => ⟨_, _, M_fB _ z0 V A hM, rfl, rfl⟩, fun c2 => absurd (b1_f c2) hb⟩⟩)
theorem M_about_par (hM : MT z0) (c h : Nat) (hc : c < 4) (hh : h < 18) : Rn (d + 3) i_M_about [.ref 46, .int (nI c), .int (nI (100 + h))] (mz z0 V A) (some (.int (A 2 (18 * c + h)))) (mz z0 V A) := by
  have e : (18 : Int32) * nI c + nI (100 + h) - 100 = nI (18 * c + h) := by
    rw [ix18, show (100 : Int32) = nI 100 from rfl, pk_sub (by omega), show 18 * c + (100 + h) - 100 = 18 * c + h by omega]
  refine rn_i (full := cd_119) hM.1 trivial rfl (fun K hK => hK 0 _ _ _ ⟨_, _, M_isCourse _ _ _, ⟨fun c2 => absurd (nI_rng (N := 3) (by omega) (by decide)) (b1_t c2), fun c2 => ⟨_, _, M_in _ _ _ _ _, ⟨fun c6 => absurd ⟨nI_le (a := 100) (by omega) (by omega), nI_le (b := 117) (by omega) (by decide)⟩ (b1_t c6), fun c6 => ⟨mt_g hM 2 (by decide), ⟨mt_l hM 2 (by decide) ?_, ⟨?_, rfl⟩⟩⟩⟩⟩⟩⟩)
  · rw [e]; exact vp_in_nI (by show _ < 72; omega) (by decide)
  · show some (Value.int (A 2 ((18 : Int32) * nI c + nI (100 + h) - 100).toNatClampNeg)) = _
    rw [e, nI_clamp (by omega)]
theorem M_about_rank (hM : MT z0) (c h : Nat) (hc : c < 4) (hh : h < 18) : Rn (d + 3) i_M_about [.ref 46, .int (nI c), .int (nI (200 + h))] (mz z0 V A) (some (.int (A 3 (18 * c + h)))) (mz z0 V A) := by
  have e : (18 : Int32) * nI c + nI (200 + h) - 200 = nI (18 * c + h) := by
    rw [ix18, show (200 : Int32) = nI 200 from rfl, pk_sub (by omega), show 18 * c + (200 + h) - 200 = 18 * c + h by omega]
  refine rn_i (full := cd_119) hM.1 trivial rfl (fun K hK => hK 0 _ _ _ ⟨_, _, M_isCourse _ _ _, ⟨fun c2 => absurd (nI_rng (N := 3) (by omega) (by decide)) (b1_t c2), fun c2 => ⟨_, _, M_in _ _ _ _ _, ⟨fun c6 => ⟨_, _, M_in _ _ _ _ _, ⟨fun c8 => absurd ⟨nI_le (a := 200) (by omega) (by omega), nI_le (b := 217) (by omega) (by decide)⟩ (b1_t c8), fun c8 => ⟨mt_g hM 3 (by decide), ⟨mt_l hM 3 (by decide) ?_, ⟨?_, rfl⟩⟩⟩⟩⟩, fun c6 => absurd (b1_f c6).2 (fun q => absurd ((nI_leI (b := 117) (by omega) (by decide)).mp q) (by omega))⟩⟩⟩⟩)
  · rw [e]; exact vp_in_nI (by show _ < 72; omega) (by decide)
  · show some (Value.int (A 3 ((18 : Int32) * nI c + nI (200 + h) - 200).toNatClampNeg)) = _
    rw [e, nI_clamp (by omega)]
/-- about, where what names no hole -/
theorem M_about_sw (hM : MT z0) (c : Nat) (hc : c < 4) (w : Int32) (h1 : ¬ (100 ≤ w ∧ w ≤ 117)) (h2 : ¬ (200 ≤ w ∧ w ≤ 217)) : Rn (d + 3) i_M_about [.ref 46, .int (nI c), .int w] (mz z0 V A) (some (.int (if w = 0 then A 0 c else if w = 1 then A 1 c else if w = 2 then parsF A c 18 else if w = 3 then parsF A c 9 else -100001))) (mz z0 V (if w = 0 ∨ w = 1 ∨ w = 2 ∨ w = 3 then A else cnt A 1)) := by
  have hi : vp_in (nI c) 4 := vp_in_nI hc (by decide)
  have hcl : (nI c).toNatClampNeg = c := nI_clamp (by omega)
  have tI : ∀ j : Nat, j < 4 → (w.toInt = (j : Int) ↔ w = nI j) := fun j hj => ⟨fun q => toInt_inj (by rw [q, nI_toInt (by omega)]), fun q => by rw [q, nI_toInt (by omega)]⟩
  have t0 : w.toInt = 0 ↔ w = 0 := tI 0 (by decide)
  have t1 : w.toInt = 0 + 1 ↔ w = 1 := by rw [show (0 + 1 : Int) = ((1 : Nat) : Int) by decide]; exact tI 1 (by decide)
  have t2 : w.toInt = 0 + 1 + 1 ↔ w = 2 := by rw [show (0 + 1 + 1 : Int) = ((2 : Nat) : Int) by decide]; exact tI 2 (by decide)
  have t3 : w.toInt = 0 + 1 + 1 + 1 ↔ w = 3 := by rw [show (0 + 1 + 1 + 1 : Int) = ((3 : Nat) : Int) by decide]; exact tI 3 (by decide)
  refine rn_i (full := cd_119) hM.1 trivial rfl (fun K hK => hK 0 _ _ _ ⟨_, _, M_isCourse _ _ _, ⟨fun c2 => absurd (nI_rng (N := 3) (by omega) (by decide)) (b1_t c2), fun c2 => ⟨_, _, M_in _ _ _ _ _, ⟨fun c6 => ⟨_, _, M_in _ _ _ _ _, ⟨fun c8 => ⟨fun c9 => ⟨mt_g hM 0 (by decide), ⟨mt_l hM 0 (by decide) hi, ⟨?_, ?_⟩⟩⟩, fun c9 => ⟨fun c12 => ⟨mt_g hM 1 (by decide), ⟨mt_l hM 1 (by decide) hi, ⟨?_, ?_⟩⟩⟩, fun c12 => ⟨fun c15 => ⟨_, _, M_pars _ z0 V A hM c 18 hc (by decide), ⟨?_, ?_⟩⟩, fun c15 => ⟨fun c18 => ⟨_, _, M_pars _ z0 V A hM c 9 hc (by decide), ⟨?_, ?_⟩⟩, fun c18 => ⟨_, _, M_fB _ z0 V A hM, ⟨?_, ?_⟩⟩⟩⟩⟩⟩, fun c8 => absurd (b1_f c8) h2⟩⟩, fun c6 => absurd (b1_f c6) h1⟩⟩⟩⟩)
  · have c9 := t0.mp c9
    show some (Value.int (A 0 (nI c).toNatClampNeg)) = _
    rw [if_pos c9, hcl]
  · rw [if_pos (Or.inl (t0.mp c9))]
  · have c9 := fun q => c9 (t0.mpr q)
    have c12 := t1.mp c12
    show some (Value.int (A 1 (nI c).toNatClampNeg)) = _
    rw [if_neg c9, if_pos c12, hcl]
  · rw [if_pos (Or.inr (Or.inl (t1.mp c12)))]
  · rw [if_neg (fun q => c9 (t0.mpr q)), if_neg (fun q => c12 (t1.mpr q)), if_pos (t2.mp c15)]
  · rw [if_pos (Or.inr (Or.inr (Or.inl (t2.mp c15))))]
  · rw [if_neg (fun q => c9 (t0.mpr q)), if_neg (fun q => c12 (t1.mpr q)), if_neg (fun q => c15 (t2.mpr q)), if_pos (t3.mp c18)]
  · rw [if_pos (Or.inr (Or.inr (Or.inr (t3.mp c18))))]
  · rw [if_neg (fun q => c9 (t0.mpr q)), if_neg (fun q => c12 (t1.mpr q)), if_neg (fun q => c15 (t2.mpr q)), if_neg (fun q => c18 (t3.mpr q))]
  · rw [if_neg]
    rintro (q | q | q | q)
    · exact c9 (t0.mpr q)
    · exact c12 (t1.mpr q)
    · exact c15 (t2.mpr q)
    · exact c18 (t3.mpr q)
-- holes
def hlF (w : Int64) (i : Nat) : Int32 := (w >>> (((4 : Int32) * nI i).toInt64 &&& 63) &&& 15).toInt32
def wrF (A : Nat → Nat → Int32) (w : Int64) (n0 : Nat) : Nat → Nat → Nat → Int32
  | 0 => A
  | k + 1 => u2 (wrF A w n0 k) 7 (n0 + k) (hlF w k)
theorem M_holes_neg (hM : MT z0) (w : Int64) (n : Int32) (h : ¬ 0 ≤ n) : Rn (d + 2) i_M_holes [.ref 46, .long w, .int n] (mz z0 V A) (some (.int (-100004))) (mz z0 V (cnt A 4)) :=
  rn_i (full := cd_120) hM.1 trivial rfl (fun K hK => hK 0 _ _ _ ⟨fun c1 => absurd c1 h, fun c1 => ⟨_, _, M_fS _ z0 V A hM, rfl, rfl⟩⟩)
theorem M_holes_big (hM : MT z0) (w : Int64) (n : Int32) (h : 0 ≤ n) (h8 : ¬ n ≤ 8) : Rn (d + 2) i_M_holes [.ref 46, .long w, .int n] (mz z0 V A) (some (.int (-100001))) (mz z0 V (cnt A 1)) :=
  rn_i (full := cd_120) hM.1 trivial rfl (fun K hK => hK 0 _ _ _ ⟨fun c1 => ⟨fun c2 => absurd c2 h8, fun c2 => ⟨_, _, M_fB _ z0 V A hM, rfl, rfl⟩⟩, fun c1 => absurd h c1⟩)
theorem M_holes_full (hM : MT z0) (w : Int64) (n n0 : Nat) (hn : n ≤ 8) (hn0 : V 8 = nI n0) (h18 : n0 ≤ 18) (hf : 18 < n0 + n) : Rn (d + 2) i_M_holes [.ref 46, .long w, .int (nI n)] (mz z0 V A) (some (.int (-100005))) (mz z0 V (cnt A 5)) := by
  refine rn_i (full := cd_120) hM.1 trivial rfl (fun K hK => hK 0 _ _ _ ⟨fun c1 => ⟨fun c2 => ⟨hM.1, ⟨fun c3 => absurd c3 ?_, fun c3 => ⟨_, _, M_fF _ z0 V A hM, rfl, rfl⟩⟩⟩, fun c2 => absurd (nI_le (b := 8) hn (by decide)) c2⟩, fun c1 => absurd (nI_pos' (by omega)) c1⟩)
  show ¬ V 8 + nI n ≤ 18
  rw [hn0, nI_add, show (18 : Int32) = nI 18 from rfl]
  exact nI_ge hf (by omega)
theorem M_holes_ok (hM : MT z0) (w : Int64) (n n0 : Nat) (hn : n ≤ 8) (hn0 : V 8 = nI n0) (h18 : n0 + n ≤ 18) : Rn (d + 2) i_M_holes [.ref 46, .long w, .int (nI n)] (mz z0 V A) (some (.int (nI (n0 + n)))) (mz z0 (upd V 8 (nI (n0 + n))) (wrF A w n0 n)) := by
  refine rn_i (full := cd_120) hM.1 trivial rfl (fun K hK => hK 0 _ _ _ ⟨fun c1 => ⟨fun c2 => ⟨hM.1, ⟨fun c3 => ?_, fun c3 => absurd ?_ c3⟩⟩, fun c2 => absurd (nI_le (b := 8) hn (by decide)) c2⟩, fun c1 => absurd (nI_pos' (by omega)) c1⟩)
  · have key := loop_up (P := fun k => K 45 [.ref 46, .long w, .null, .int (nI n), .int (nI k)] [] (mz z0 (upd V 8 (nI (n0 + k))) (wrF A w n0 k))) n (fun k hk ih => ?_) 0 (by omega)
    · rw [Nat.add_zero, upd_id V 8 (nI n0) hn0] at key
      exact key
    · have hv8 : upd V 8 (nI (n0 + k)) 8 = nI (n0 + k) := if_pos rfl
      refine hK 25 _ _ _ ⟨fun c1 => ⟨hM.1, ⟨?_, ?_⟩⟩, fun c1 => ⟨mt_g hM 7 (by decide), ⟨hM.1, ⟨mt_l hM 7 (by decide) ?_, ⟨hM.1, ⟨hM.1, ?_⟩⟩⟩⟩⟩⟩
      · have c1 : n ≤ k := (nI_leI (by omega) (by omega)).mp c1
        have : k = n := by omega
        subst this
        show some (Value.int (upd V 8 (nI (n0 + k)) 8)) = _
        rw [hv8]
      · have c1 : n ≤ k := (nI_leI (by omega) (by omega)).mp c1
        have : k = n := by omega
        subst this
        rfl
      · show vp_in (upd V 8 (nI (n0 + k)) 8) 18
        have c1 := nI_leN (by omega) (by omega) c1
        rw [hv8]; exact vp_in_nI (by omega) (by decide)
      · have c1 := nI_leN (by omega) (by omega) c1
        have ih := ih c1
        rw [mz_sA (by decide) (by decide), mz_sV]
        show K 45 [.ref 46, .long w, .null, .int (nI n), .int (nI k + 1)] [] (mz z0 (upd (upd V 8 (nI (n0 + k))) 8 (upd V 8 (nI (n0 + k)) 8 + 1)) (u2 (wrF A w n0 k) 7 (upd V 8 (nI (n0 + k)) 8).toNatClampNeg (hlF w k)))
        rw [upd_upd, hv8, nI_1, nI_1, nI_clamp (by omega)]
        exact ih
  · show V 8 + nI n ≤ 18
    rw [hn0, nI_add, show (18 : Int32) = nI 18 from rfl]
    exact nI_le h18 (by decide)
end MPub2
