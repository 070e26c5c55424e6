/-! The model's cards: write, written, card, nine, away. Own work. -/
def wcA (A : Nat → Nat → Int32) (n : Nat) (kind player course day first : Int32) : Nat → Nat → Int32 := u2 (u2 (u2 (u2 (u2 (u2 (u2 A 8 n kind) 9 n player) 11 n course) 10 n day) 12 n first) 13 n 0) 14 n 0
def zlF (A : Nat → Nat → Int32) (n : Nat) : Nat → Nat → Nat → Int32
  | 0 => A
  | h + 1 => u2 (zlF A n h) 15 (18 * n + h) 0
def cpF (A : Nat → Nat → Int32) (n f : Nat) : Nat → Nat → Nat → Int32
  | 0 => A
  | k + 1 => u2 (cpF A n f k) 15 (18 * n + f + k) (cpF A n f k 7 k)
section MWrite
variable (d : Nat) (z0 : ZS) (V : Nat → Int32) (A : Nat → Nat → Int32)
theorem M_write_c (hM : MT z0) (n m f : Nat) (hn : V 10 = nI n) (h60 : n < 60) (hm : V 8 = nI m) (hf : f + m ≤ 18) (kind player course day : Int32) (hk : ¬ kind = 2) : Rn (d + 1) i_M_write [.ref 46, .int kind, .int player, .int course, .int day, .int (nI f)] (mz z0 V A) (some (.int (nI n))) (mz z0 (upd (upd V 8 0) 10 (nI (n + 1))) (cpF (zlF (wcA A n kind player course day (nI f)) n 18) n f m)) := by
  have hv : vp_in (V 10) 60 := by rw [hn]; exact vp_in_nI h60 (by decide)
  have hcl : (nI n).toNatClampNeg = n := nI_clamp (by omega)
  refine rn_i (full := cd_122) hM.1 trivial rfl (fun K hK => hK 0 _ _ _ ⟨hM.1, ⟨mt_g hM 8 (by decide), ⟨mt_l hM 8 (by decide) hv, ⟨mt_g hM 9 (by decide), ⟨mt_l hM 9 (by decide) hv, ⟨mt_g hM 11 (by decide), ⟨mt_l hM 11 (by decide) hv, ⟨mt_g hM 10 (by decide), ⟨mt_l hM 10 (by decide) hv, ⟨mt_g hM 12 (by decide), ⟨mt_l hM 12 (by decide) hv, ⟨mt_g hM 13 (by decide), ⟨mt_l hM 13 (by decide) hv, ⟨mt_g hM 14 (by decide), ⟨mt_b hM 14 (by decide) hv (Or.inl rfl), ?_⟩⟩⟩⟩⟩⟩⟩⟩⟩⟩⟩⟩⟩⟩⟩)
  rw [mz_sA (by decide) (by decide), mz_sA (by decide) (by decide), mz_sA (by decide) (by decide), mz_sA (by decide) (by decide), mz_sA (by decide) (by decide), mz_sA (by decide) (by decide), mz_sA (by decide) (by decide)]
  show K 67 [.ref 46, .int kind, .int player, .int course, .int day, .int (nI f), .int (V 10), .int 0] [] (mz z0 V (wcA A (V 10).toNatClampNeg kind player course day (nI f)))
  rw [hn, hcl]
  refine loop_up (P := fun h => K 67 [.ref 46, .int kind, .int player, .int course, .int day, .int (nI f), .int (nI n), .int (nI h)] [] (mz z0 V (zlF (wcA A n kind player course day (nI f)) n h))) 18 (fun h hh ih => ?_) 0 (by omega)
  refine hK 40 _ _ _ ⟨fun c1 => ?_, fun c1 => ⟨mt_g hM 15 (by decide), ⟨mt_l hM 15 (by decide) ?_, ?_⟩⟩⟩
  · have c1 : 18 ≤ h := (nI_leI (a := 18) (by decide) (by omega)).mp c1
    have : h = 18 := by omega
    subst this
    generalize hB : zlF (wcA A n kind player course day (nI f)) n 18 = B
    refine loop_up (P := fun k => K 97 [.ref 46, .int kind, .int player, .int course, .int day, .int (nI f), .int (nI n), .int (nI k)] [] (mz z0 V (cpF B n f k))) m (fun k hk2 ih => ?_) 0 (by omega)
    refine hK 56 _ _ _ ⟨hM.1, ⟨fun c1 => ⟨fun c2 => absurd c2 hk, fun c2 => ⟨hM.1, ⟨hM.1, ⟨hM.1, ⟨rfl, ?_⟩⟩⟩⟩⟩, fun c1 => ⟨fun c5 => absurd c5 hk, fun c5 => ⟨mt_g hM 15 (by decide), ⟨mt_g hM 7 (by decide), ⟨mt_l hM 7 (by decide) ?_, ⟨mt_l hM 15 (by decide) ?_, ?_⟩⟩⟩⟩⟩⟩⟩
    · have c1 : V 8 ≤ nI k := c1
      rw [hm] at c1
      have c1 : m ≤ k := (nI_leI (by omega) (by omega)).mp c1
      have : k = m := by omega
      subst this
      rw [mz_sV, mz_sV]
      show mz z0 (upd (upd V 8 0) 10 (V 10 + 1)) _ = _
      rw [hn, nI_1, hB]
    · have c1 : ¬ V 8 ≤ nI k := c1
      rw [hm] at c1
      have c1 := nI_leN (by omega) (by omega) c1
      exact vp_in_nI (by show _ < 18; omega) (by decide)
    · have c1 : ¬ V 8 ≤ nI k := c1
      rw [hm] at c1
      have c1 := nI_leN (by omega) (by omega) c1
      rw [ix18, nI_add]
      exact vp_in_nI (by show _ < 1080; omega) (by decide)
    · have c1 : ¬ V 8 ≤ nI k := c1
      rw [hm] at c1
      have c1 := nI_leN (by omega) (by omega) c1
      have ih := ih c1
      rw [mz_sA (by decide) (by decide)]
      show K 97 [.ref 46, .int kind, .int player, .int course, .int day, .int (nI f), .int (nI n), .int (nI k + 1)] [] (mz z0 V (u2 (cpF B n f k) 15 ((18 : Int32) * nI n + nI f + nI k).toNatClampNeg (cpF B n f k 7 (nI k).toNatClampNeg)))
      rw [ix18, nI_add, nI_1, nI_clamp (by omega), nI_clamp (by omega)]
      exact ih
  · have c1 := nI_leN (a := 18) (by decide) (by omega) c1
    rw [ix18]; exact vp_in_nI (by show _ < 1080; omega) (by decide)
  · have c1 := nI_leN (a := 18) (by decide) (by omega) c1
    have ih := ih c1
    rw [mz_sA (by decide) (by decide)]
    show K 67 [.ref 46, .int kind, .int player, .int course, .int day, .int (nI f), .int (nI n), .int (nI h + 1)] [] (mz z0 V (u2 (zlF (wcA A n kind player course day (nI f)) n h) 15 ((18 : Int32) * nI n + nI h).toNatClampNeg 0))
    rw [ix18, nI_1, nI_clamp (by omega)]
    exact ih
theorem M_write_a (hM : MT z0) (n : Nat) (hn : V 10 = nI n) (h60 : n < 60) (player course day : Int32) : Rn (d + 1) i_M_write [.ref 46, .int 2, .int player, .int course, .int day, .int 0] (mz z0 V A) (some (.int (nI n))) (mz z0 (upd V 10 (nI (n + 1))) (zlF (wcA A n 2 player course day 0) n 18)) := by
  have hv : vp_in (V 10) 60 := by rw [hn]; exact vp_in_nI h60 (by decide)
  have hcl : (nI n).toNatClampNeg = n := nI_clamp (by omega)
  refine rn_i (full := cd_122) hM.1 trivial rfl (fun K hK => hK 0 _ _ _ ⟨hM.1, ⟨mt_g hM 8 (by decide), ⟨mt_l hM 8 (by decide) hv, ⟨mt_g hM 9 (by decide), ⟨mt_l hM 9 (by decide) hv, ⟨mt_g hM 11 (by decide), ⟨mt_l hM 11 (by decide) hv, ⟨mt_g hM 10 (by decide), ⟨mt_l hM 10 (by decide) hv, ⟨mt_g hM 12 (by decide), ⟨mt_l hM 12 (by decide) hv, ⟨mt_g hM 13 (by decide), ⟨mt_l hM 13 (by decide) hv, ⟨mt_g hM 14 (by decide), ⟨mt_b hM 14 (by decide) hv (Or.inl rfl), ?_⟩⟩⟩⟩⟩⟩⟩⟩⟩⟩⟩⟩⟩⟩⟩)
  rw [mz_sA (by decide) (by decide), mz_sA (by decide) (by decide), mz_sA (by decide) (by decide), mz_sA (by decide) (by decide), mz_sA (by decide) (by decide), mz_sA (by decide) (by decide), mz_sA (by decide) (by decide)]
  show K 67 [.ref 46, .int 2, .int player, .int course, .int day, .int 0, .int (V 10), .int 0] [] (mz z0 V (wcA A (V 10).toNatClampNeg 2 player course day 0))
  rw [hn, hcl]
  refine loop_up (P := fun h => K 67 [.ref 46, .int 2, .int player, .int course, .int day, .int 0, .int (nI n), .int (nI h)] [] (mz z0 V (zlF (wcA A n 2 player course day 0) n h))) 18 (fun h hh ih => ?_) 0 (by omega)
  refine hK 40 _ _ _ ⟨fun c1 => ?_, fun c1 => ⟨mt_g hM 15 (by decide), ⟨mt_l hM 15 (by decide) ?_, ?_⟩⟩⟩
  · have c1 : 18 ≤ h := (nI_leI (a := 18) (by decide) (by omega)).mp c1
    have : h = 18 := by omega
    subst this
    generalize hB : zlF (wcA A n 2 player course day 0) n 18 = B
    have fin : mz z0 (upd (upd V 8 (V 8)) 10 (upd V 8 (V 8) 10 + 1)) B = mz z0 (upd V 10 (nI (n + 1))) B := by
      rw [upd_id V 8 (V 8) rfl, hn, nI_1]
    refine hK 56 _ _ _ ⟨hM.1, ⟨fun c1 => ⟨fun c2 => ⟨hM.1, ⟨hM.1, ⟨hM.1, ⟨hM.1, ⟨rfl, ?_⟩⟩⟩⟩⟩, fun c2 => absurd rfl c2⟩, fun c1 => ⟨fun c5 => ⟨fun c6 => ⟨hM.1, ⟨hM.1, ⟨hM.1, ⟨hM.1, ⟨rfl, ?_⟩⟩⟩⟩⟩, fun c6 => absurd rfl c6⟩, fun c5 => absurd rfl c5⟩⟩⟩
    · rw [mz_sV, mz_sV, hB]; exact fin
    · rw [mz_sV, mz_sV, hB]; exact fin
  · have c1 := nI_leN (a := 18) (by decide) (by omega) c1
    rw [ix18]; exact vp_in_nI (by show _ < 1080; omega) (by decide)
  · have c1 := nI_leN (a := 18) (by decide) (by omega) c1
    have ih := ih c1
    rw [mz_sA (by decide) (by decide)]
    show K 67 [.ref 46, .int 2, .int player, .int course, .int day, .int 0, .int (nI n), .int (nI h + 1)] [] (mz z0 V (u2 (zlF (wcA A n 2 player course day 0) n h) 15 ((18 : Int32) * nI n + nI h).toNatClampNeg 0))
    rw [ix18, nI_1, nI_clamp (by omega)]
    exact ih
-- written
theorem M_written_bad (hM : MT z0) (kind p c day first m : Int32) (h : ¬ ((0 ≤ p ∧ p ≤ 11) ∧ (0 ≤ c ∧ c ≤ 3) ∧ (0 ≤ day ∧ day ≤ 9999))) : Rn (d + 3) i_M_written [.ref 46, .int kind, .int p, .int c, .int day, .int first, .int m] (mz z0 V A) (some (.int (-100001))) (mz z0 V (cnt A 1)) :=
  rn_i (full := cd_123) hM.1 trivial rfl (fun K hK => hK 0 _ _ _ ⟨_, _, M_isPlayer _ _ _, ⟨fun c2 => ⟨_, _, M_fB _ z0 V A hM, rfl, rfl⟩, fun c2 => ⟨_, _, M_isCourse _ _ _, ⟨fun c6 => ⟨_, _, M_fB _ z0 V A hM, rfl, rfl⟩, fun c6 => ⟨_, _, M_isDay _ _ _, ⟨fun c10 => ⟨_, _, M_fB _ z0 V A hM, rfl, rfl⟩, fun c10 => absurd ⟨b1_f c2, b1_f c6, b1_f c10⟩ h⟩⟩⟩⟩⟩⟩)
theorem M_written_size (hM : MT z0) (kind p c day first m : Int32) (h : (0 ≤ p ∧ p ≤ 11) ∧ (0 ≤ c ∧ c ≤ 3) ∧ (0 ≤ day ∧ day ≤ 9999)) (hm : ¬ V 8 = m) : Rn (d + 3) i_M_written [.ref 46, .int kind, .int p, .int c, .int day, .int first, .int m] (mz z0 V A) (some (.int (-100004))) (mz z0 V (cnt A 4)) :=
  rn_i (full := cd_123) hM.1 trivial rfl (fun K hK => hK 0 _ _ _ ⟨_, _, M_isPlayer _ _ _, ⟨fun c2 => absurd h.1 (b1_t c2), fun c2 => ⟨_, _, M_isCourse _ _ _, ⟨fun c6 => absurd h.2.1 (b1_t c6), fun c6 => ⟨_, _, M_isDay _ _ _, ⟨fun c10 => absurd h.2.2 (b1_t c10), fun c10 => ⟨hM.1, ⟨fun c13 => absurd c13 hm, fun c13 => ⟨_, _, M_fS _ z0 V A hM, rfl, rfl⟩⟩⟩⟩⟩⟩⟩⟩⟩)
theorem M_written_full (hM : MT z0) (kind p c day first m : Int32) (h : (0 ≤ p ∧ p ≤ 11) ∧ (0 ≤ c ∧ c ≤ 3) ∧ (0 ≤ day ∧ day ≤ 9999)) (hm : V 8 = m) (h60 : V 10 = 60) : Rn (d + 3) i_M_written [.ref 46, .int kind, .int p, .int c, .int day, .int first, .int m] (mz z0 V A) (some (.int (-100005))) (mz z0 V (cnt A 5)) :=
  rn_i (full := cd_123) hM.1 trivial rfl (fun K hK => hK 0 _ _ _ ⟨_, _, M_isPlayer _ _ _, ⟨fun c2 => absurd h.1 (b1_t c2), fun c2 => ⟨_, _, M_isCourse _ _ _, ⟨fun c6 => absurd h.2.1 (b1_t c6), fun c6 => ⟨_, _, M_isDay _ _ _, ⟨fun c10 => absurd h.2.2 (b1_t c10), fun c10 => ⟨hM.1, ⟨fun c13 => ⟨hM.1, ⟨fun c14 => ⟨_, _, M_fF _ z0 V A hM, rfl, rfl⟩, fun c14 => absurd h60 c14⟩⟩, fun c13 => absurd hm c13⟩⟩⟩⟩⟩⟩⟩⟩)
theorem M_written_ok (hM : MT z0) (n m f : Nat) (hn : V 10 = nI n) (h60 : n < 60) (hm : V 8 = nI m) (hf : f + m ≤ 18) (kind p c day : Int32) (hk : ¬ kind = 2) (h : (0 ≤ p ∧ p ≤ 11) ∧ (0 ≤ c ∧ c ≤ 3) ∧ (0 ≤ day ∧ day ≤ 9999)) : Rn (d + 3) i_M_written [.ref 46, .int kind, .int p, .int c, .int day, .int (nI f), .int (nI m)] (mz z0 V A) (some (.int (nI n))) (mz z0 (upd (upd V 8 0) 10 (nI (n + 1))) (cpF (zlF (wcA A n kind p c day (nI f)) n 18) n f m)) := by
  have h6 : ¬ V 10 = 60 := by rw [hn]; exact fun q => by have := (nI_eq (a := n) (b := 60) (by omega) (by decide)).mp q; omega
  exact rn_i (full := cd_123) hM.1 trivial rfl (fun K hK => hK 0 _ _ _ ⟨_, _, M_isPlayer _ _ _, ⟨fun c2 => absurd h.1 (b1_t c2), fun c2 => ⟨_, _, M_isCourse _ _ _, ⟨fun c6 => absurd h.2.1 (b1_t c6), fun c6 => ⟨_, _, M_isDay _ _ _, ⟨fun c10 => absurd h.2.2 (b1_t c10), fun c10 => ⟨hM.1, ⟨fun c13 => ⟨hM.1, ⟨fun c14 => absurd c14 h6, fun c14 => ⟨_, _, M_write_c _ z0 V A hM n m f hn h60 hm hf kind p c day hk, rfl, rfl⟩⟩⟩, fun c13 => absurd hm c13⟩⟩⟩⟩⟩⟩⟩⟩)
/-- card and nine are written with what they say -/
theorem M_card (hM : MT z0) {p c day v : Int32} {z' : ZS} (h : Rn (d + 3) i_M_written [.ref 46, .int 0, .int p, .int c, .int day, .int 0, .int 18] (mz z0 V A) (some (.int v)) z') : Rn (d + 4) i_M_card [.ref 46, .int p, .int c, .int day] (mz z0 V A) (some (.int v)) z' :=
  rn_i (full := cd_124) hM.1 trivial rfl (fun K hK => hK 0 _ _ _ ⟨_, _, h, rfl, rfl⟩)
theorem M_nine_back (hM : MT z0) {p c day v : Int32} {z' : ZS} (h : Rn (d + 3) i_M_written [.ref 46, .int 1, .int p, .int c, .int day, .int 9, .int 9] (mz z0 V A) (some (.int v)) z') : Rn (d + 4) i_M_nine [.ref 46, .int p, .int c, .int day, .int 0] (mz z0 V A) (some (.int v)) z' :=
  rn_i (full := cd_125) hM.1 trivial rfl (fun K hK => hK 0 _ _ _ ⟨fun c1 => ⟨_, _, h, rfl, rfl⟩, fun c1 => absurd rfl c1⟩)
theorem M_nine_front (hM : MT z0) {p c day f v : Int32} {z' : ZS} (hf : ¬ f = 0) (h : Rn (d + 3) i_M_written [.ref 46, .int 1, .int p, .int c, .int day, .int 0, .int 9] (mz z0 V A) (some (.int v)) z') : Rn (d + 4) i_M_nine [.ref 46, .int p, .int c, .int day, .int f] (mz z0 V A) (some (.int v)) z' :=
  rn_i (full := cd_125) hM.1 trivial rfl (fun K hK => hK 0 _ _ _ ⟨fun c1 => absurd c1 hf, fun c1 => ⟨_, _, h, rfl, rfl⟩⟩)
-- away
theorem M_away_bad (hM : MT z0) (p day m : Int32) (h : ¬ ((0 ≤ p ∧ p ≤ 11) ∧ (0 ≤ day ∧ day ≤ 9999) ∧ (-200 ≤ m ∧ m ≤ 900))) : Rn (d + 3) i_M_away [.ref 46, .int p, .int day, .int m] (mz z0 V A) (some (.int (-100001))) (mz z0 V (cnt A 1)) :=
  rn_i (full := cd_126) hM.1 trivial rfl (fun K hK => hK 0 _ _ _ ⟨_, _, M_isPlayer _ _ _, ⟨fun c2 => ⟨_, _, M_fB _ z0 V A hM, rfl, rfl⟩, fun c2 => ⟨_, _, M_isDay _ _ _, ⟨fun c6 => ⟨_, _, M_fB _ z0 V A hM, rfl, rfl⟩, fun c6 => ⟨_, _, M_in _ _ _ _ _, ⟨fun c10 => ⟨_, _, M_fB _ z0 V A hM, rfl, rfl⟩, fun c10 => absurd ⟨b1_f c2, b1_f c6, b1_f c10⟩ h⟩⟩⟩⟩⟩⟩)
theorem M_away_full (hM : MT z0) (p day m : Int32) (h : (0 ≤ p ∧ p ≤ 11) ∧ (0 ≤ day ∧ day ≤ 9999) ∧ (-200 ≤ m ∧ m ≤ 900)) (h60 : V 10 = 60) : Rn (d + 3) i_M_away [.ref 46, .int p, .int day, .int m] (mz z0 V A) (some (.int (-100005))) (mz z0 V (cnt A 5)) :=
  rn_i (full := cd_126) hM.1 trivial rfl (fun K hK => hK 0 _ _ _ ⟨_, _, M_isPlayer _ _ _, ⟨fun c2 => absurd h.1 (b1_t c2), fun c2 => ⟨_, _, M_isDay _ _ _, ⟨fun c6 => absurd h.2.1 (b1_t c6), fun c6 => ⟨_, _, M_in _ _ _ _ _, ⟨fun c10 => absurd h.2.2 (b1_t c10), fun c10 => ⟨hM.1, ⟨fun c13 => ⟨_, _, M_fF _ z0 V A hM, rfl, rfl⟩, fun c13 => absurd h60 c13⟩⟩⟩⟩⟩⟩⟩⟩)
theorem M_away_ok (hM : MT z0) (n : Nat) (hn : V 10 = nI n) (hl : n < 60) (p day m : Int32) (h : (0 ≤ p ∧ p ≤ 11) ∧ (0 ≤ day ∧ day ≤ 9999) ∧ (-200 ≤ m ∧ m ≤ 900)) : Rn (d + 3) i_M_away [.ref 46, .int p, .int day, .int m] (mz z0 V A) (some (.int (nI n))) (mz z0 (upd V 10 (nI (n + 1))) (u2 (zlF (wcA A n 2 p 0 day 0) n 18) 13 n m)) := by
  have h6 : ¬ V 10 = 60 := by rw [hn]; exact fun q => by have := (nI_eq (a := n) (b := 60) (by omega) (by decide)).mp q; omega
  refine rn_i (full := cd_126) hM.1 trivial rfl (fun K hK => hK 0 _ _ _ ⟨_, _, M_isPlayer _ _ _, ⟨fun c2 => absurd h.1 (b1_t c2), fun c2 => ⟨_, _, M_isDay _ _ _, ⟨fun c6 => absurd h.2.1 (b1_t c6), fun c6 => ⟨_, _, M_in _ _ _ _ _, ⟨fun c10 => absurd h.2.2 (b1_t c10), fun c10 => ⟨hM.1, ⟨fun c13 => absurd c13 h6, fun c13 => ⟨_, _, M_write_a _ z0 V A hM n hn hl p 0 day, ⟨mt_g hM 13 (by decide), ⟨mt_l hM 13 (by decide) (vp_in_nI hl (by decide)), ⟨rfl, ?_⟩⟩⟩⟩⟩⟩⟩⟩⟩⟩⟩⟩)
  rw [mz_sA (by decide) (by decide), nI_clamp (by omega)]
end MWrite
