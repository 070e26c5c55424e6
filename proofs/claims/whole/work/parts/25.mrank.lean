/-! The model's hole, right and ask. Own work. -/
def rkF (A : Nat → Nat → Int32) (c : Nat) (r had : Int32) : Nat → Nat → Nat → Int32
  | 0 => A
  | k + 1 => if rkF A c r had k 3 (18 * c + k) = r then u2 (rkF A c r had k) 3 (18 * c + k) had else rkF A c r had k
def rm3 (B : Nat → Nat → Int32) (m k : Nat) : Nat → Nat → Int32 := u2 (u2 (u2 B 4 m (B 4 k)) 5 m (u2 B 4 m (B 4 k) 5 k)) 6 m (u2 (u2 B 4 m (B 4 k)) 5 m (u2 B 4 m (B 4 k) 5 k) 6 k)
def rmF (A : Nat → Nat → Int32) (c day : Int32) : Nat → Nat × (Nat → Nat → Int32)
  | 0 => (0, A)
  | k + 1 => if (rmF A c day k).2 4 k = c ∧ (rmF A c day k).2 5 k = day then rmF A c day k else ((rmF A c day k).1 + 1, rm3 (rmF A c day k).2 (rmF A c day k).1 k)
theorem rmF_le (A : Nat → Nat → Int32) (c day : Int32) : ∀ k, (rmF A c day k).1 ≤ k
  | 0 => Nat.le_refl _
  | k + 1 => by
    have := rmF_le A c day k
    unfold rmF
    split
    · omega
    · show (rmF A c day k).1 + 1 ≤ k + 1; omega
section MRank
variable (d : Nat) (z0 : ZS) (V : Nat → Int32) (A : Nat → Nat → Int32)
theorem M_hole_bad (hM : MT z0) (c h p r : Int32) (hb : ¬ ((0 ≤ c ∧ c ≤ 3) ∧ (0 ≤ h ∧ h ≤ 17) ∧ (3 ≤ p ∧ p ≤ 5) ∧ (1 ≤ r ∧ r ≤ 18))) : Rn (d + 3) i_M_hole [.ref 46, .int c, .int h, .int p, .int r] (mz z0 V A) (some (.int (-100001))) (mz z0 V (cnt A 1)) :=
  rn_i (full := cd_115) hM.1 trivial rfl (fun K hK => hK 0 _ _ _ ⟨_, _, M_isCourse _ _ _, ⟨fun c2 => ⟨_, _, M_fB _ z0 V A hM, rfl, rfl⟩, fun c2 => ⟨_, _, M_isHole _ _ _, ⟨fun c6 => ⟨_, _, M_fB _ z0 V A hM, rfl, rfl⟩, fun c6 => ⟨_, _, M_in _ _ _ _ _, ⟨fun c10 => ⟨_, _, M_fB _ z0 V A hM, rfl, rfl⟩, fun c10 => ⟨_, _, M_in _ _ _ _ _, ⟨fun c14 => ⟨_, _, M_fB _ z0 V A hM, rfl, rfl⟩, fun c14 => absurd ⟨b1_f c2, b1_f c6, b1_f c10, b1_f c14⟩ hb⟩⟩⟩⟩⟩⟩⟩⟩)
theorem M_hole_ok (hM : MT z0) (c h : Nat) (hc : c < 4) (hh : h < 18) (p r : Int32) (hp : 3 ≤ p ∧ p ≤ 5) (hr : 1 ≤ r ∧ r ≤ 18) : Rn (d + 3) i_M_hole [.ref 46, .int (nI c), .int (nI h), .int p, .int r] (mz z0 V A) (some (.int (A 3 (18 * c + h)))) (mz z0 V (u2 (u2 (rkF A c r (A 3 (18 * c + h)) 18) 3 (18 * c + h) r) 2 (18 * c + h) p)) := by
  have hi : vp_in ((18 : Int32) * nI c + nI h) 72 := by rw [ix18]; exact vp_in_nI (by omega) (by decide)
  have hcl : ((18 : Int32) * nI c + nI h).toNatClampNeg = 18 * c + h := by rw [ix18]; exact nI_clamp (by omega)
  refine rn_i (full := cd_115) hM.1 trivial rfl (fun K hK => hK 0 _ _ _ ⟨_, _, M_isCourse _ _ _, ⟨fun c2 => absurd (nI_rng (N := 3) (by omega) (by decide)) (b1_t c2), fun c2 => ⟨_, _, M_isHole _ _ _, ⟨fun c6 => absurd (nI_rng (N := 17) (by omega) (by decide)) (b1_t c6), fun c6 => ⟨_, _, M_in _ _ _ _ _, ⟨fun c10 => absurd hp (b1_t c10), fun c10 => ⟨_, _, M_in _ _ _ _ _, ⟨fun c14 => absurd hr (b1_t c14), fun c14 => ⟨mt_g hM 3 (by decide), ⟨mt_l hM 3 (by decide) hi, ?_⟩⟩⟩⟩⟩⟩⟩⟩⟩⟩)
  show K 57 [.ref 46, .int (nI c), .int (nI h), .int p, .int r, .int (A 3 ((18 : Int32) * nI c + nI h).toNatClampNeg), .int 0] [] (mz z0 V A)
  rw [hcl]
  refine loop_up (P := fun k => K 57 [.ref 46, .int (nI c), .int (nI h), .int p, .int r, .int (A 3 (18 * c + h)), .int (nI k)] [] (mz z0 V (rkF A c r (A 3 (18 * c + h)) k))) 18 (fun k hk ih => ?_) 0 (by omega)
  refine hK 31 _ _ _ ⟨fun c1 => ⟨mt_g hM 3 (by decide), ⟨mt_l hM 3 (by decide) hi, ⟨mt_g hM 2 (by decide), ⟨mt_l hM 2 (by decide) hi, ⟨rfl, ?_⟩⟩⟩⟩⟩, fun c1 => ⟨mt_g hM 3 (by decide), ⟨mt_l hM 3 (by decide) ?_, ⟨fun c6 => ⟨mt_g hM 3 (by decide), ⟨mt_l hM 3 (by decide) ?_, ?_⟩⟩, fun c6 => ?_⟩⟩⟩⟩
  · have c1 : 18 ≤ k := (nI_leI (a := 18) (by decide) (by omega)).mp c1
    have : k = 18 := by omega
    subst this
    rw [mz_sA (by decide) (by decide), mz_sA (by decide) (by decide), hcl]
  · have c1 := nI_leN (a := 18) (by decide) (by omega) c1
    rw [ix18]; exact vp_in_nI (by show _ < 72; omega) (by decide)
  · have c1 := nI_leN (a := 18) (by decide) (by omega) c1
    rw [ix18]; exact vp_in_nI (by show _ < 72; omega) (by decide)
  · have c1 := nI_leN (a := 18) (by decide) (by omega) c1
    have c6 : rkF A c r (A 3 (18 * c + h)) k 3 ((18 : Int32) * nI c + nI k).toNatClampNeg = r := c6
    rw [ix18, nI_clamp (by omega)] at c6
    have ih := ih c1
    simp only [rkF, c6, if_true] at ih
    rw [mz_sA (by decide) (by decide)]
    show K 57 [.ref 46, .int (nI c), .int (nI h), .int p, .int r, .int (A 3 (18 * c + h)), .int (nI k + 1)] [] (mz z0 V (u2 (rkF A c r (A 3 (18 * c + h)) k) 3 ((18 : Int32) * nI c + nI k).toNatClampNeg (A 3 (18 * c + h))))
    rw [ix18, nI_clamp (by omega), nI_1]
    exact ih
  · have c1 := nI_leN (a := 18) (by decide) (by omega) c1
    have c6 : ¬ rkF A c r (A 3 (18 * c + h)) k 3 ((18 : Int32) * nI c + nI k).toNatClampNeg = r := c6
    rw [ix18, nI_clamp (by omega)] at c6
    have ih := ih c1
    simp only [rkF, c6, if_false] at ih
    rw [nI_succ] at ih
    exact ih
theorem M_right_bad (hM : MT z0) (c day by' : Int32) (hb : ¬ ((0 ≤ c ∧ c ≤ 3) ∧ (0 ≤ day ∧ day ≤ 9999) ∧ (-1 ≤ by' ∧ by' ≤ 3))) : Rn (d + 3) i_M_right [.ref 46, .int c, .int day, .int by'] (mz z0 V A) (some (.int (-100001))) (mz z0 V (cnt A 1)) :=
  rn_i (full := cd_117) hM.1 trivial rfl (fun K hK => hK 0 _ _ _ ⟨_, _, M_isCourse _ _ _, ⟨fun c2 => ⟨_, _, M_fB _ z0 V A hM, rfl, rfl⟩, fun c2 => ⟨_, _, M_isDay _ _ _, ⟨fun c6 => ⟨_, _, M_fB _ z0 V A hM, rfl, rfl⟩, fun c6 => ⟨_, _, M_in _ _ _ _ _, ⟨fun c10 => ⟨_, _, M_fB _ z0 V A hM, rfl, rfl⟩, fun c10 => absurd ⟨b1_f c2, b1_f c6, b1_f c10⟩ hb⟩⟩⟩⟩⟩⟩)
theorem M_right_full (hM : MT z0) (hn : V 4 = nI 30) (c day by' : Int32) (hb : (0 ≤ c ∧ c ≤ 3) ∧ (0 ≤ day ∧ day ≤ 9999) ∧ (-1 ≤ by' ∧ by' ≤ 3)) (h0 : rgF A c day 30 = 0) (h1 : ¬ by' = 0) : Rn (d + 3) i_M_right [.ref 46, .int c, .int day, .int by'] (mz z0 V A) (some (.int (-100005))) (mz z0 V (cnt A 5)) :=
  rn_i (full := cd_117) hM.1 trivial rfl (fun K hK => hK 0 _ _ _ ⟨_, _, M_isCourse _ _ _, ⟨fun c2 => absurd hb.1 (b1_t c2), fun c2 => ⟨_, _, M_isDay _ _ _, ⟨fun c6 => absurd hb.2.1 (b1_t c6), fun c6 => ⟨_, _, M_in _ _ _ _ _, ⟨fun c10 => absurd hb.2.2 (b1_t c10), fun c10 => ⟨_, _, M_rightOf _ z0 V A hM 30 hn (by decide) c day, ⟨fun c14 => ⟨fun c15 => absurd c15 h1, fun c15 => ⟨hM.1, ⟨fun c17 => ⟨_, _, M_fF _ z0 V A hM, rfl, rfl⟩, fun c17 => absurd hn c17⟩⟩⟩, fun c14 => absurd h0 c14⟩⟩⟩⟩⟩⟩⟩⟩)
theorem M_right_ok (hM : MT z0) (n : Nat) (hn : V 4 = nI n) (h30 : n ≤ 30) (c day by' : Int32) (hb : (0 ≤ c ∧ c ≤ 3) ∧ (0 ≤ day ∧ day ≤ 9999) ∧ (-1 ≤ by' ∧ by' ≤ 3)) (hf : ¬ (rgF A c day n = 0 ∧ ¬ by' = 0 ∧ n = 30)) (hm : ¬ by' = 0 → (rmF A c day n).1 < 30) :
    Rn (d + 3) i_M_right [.ref 46, .int c, .int day, .int by'] (mz z0 V A) (some (.int (rgF A c day n))) (mz z0 (upd V 4 (if by' = 0 then nI (rmF A c day n).1 else nI ((rmF A c day n).1 + 1))) (if by' = 0 then (rmF A c day n).2 else u2 (u2 (u2 (rmF A c day n).2 4 (rmF A c day n).1 c) 5 (rmF A c day n).1 day) 6 (rmF A c day n).1 by')) := by
  refine rn_i (full := cd_117) hM.1 trivial rfl (fun K hK => ?_)
  have key := loop_up (P := fun k => K 69 [.ref 46, .int c, .int day, .int by', .int (rgF A c day n), .int (nI (rmF A c day k).1), .int (nI k)] [] (mz z0 V (rmF A c day k).2)) n (fun k hk ih => ?_) 0 (by omega)
  · refine hK 0 _ _ _ ⟨_, _, M_isCourse _ _ _, ⟨fun c2 => absurd hb.1 (b1_t c2), fun c2 => ⟨_, _, M_isDay _ _ _, ⟨fun c6 => absurd hb.2.1 (b1_t c6), fun c6 => ⟨_, _, M_in _ _ _ _ _, ⟨fun c10 => absurd hb.2.2 (b1_t c10), fun c10 => ⟨_, _, M_rightOf _ z0 V A hM n hn h30 c day, ⟨fun c14 => ⟨fun c15 => key, fun c15 => ⟨hM.1, ⟨fun c17 => absurd ⟨c14, c15, ?_⟩ hf, fun c17 => key⟩⟩⟩, fun c14 => key⟩⟩⟩⟩⟩⟩⟩⟩
    have c17 : V 4 = 30 := c17
    rw [hn] at c17
    exact (nI_eq (b := 30) (by omega) (by decide)).mp c17
  · have hle := rmF_le A c day k
    generalize hB : rmF A c day k = B at hle ih ⊢
    obtain ⟨m, B⟩ := B
    have hle : m ≤ k := hle
    have clk : (nI k).toNatClampNeg = k := nI_clamp (by omega)
    have clm : (nI m).toNatClampNeg = m := nI_clamp (by omega)
    refine hK 36 _ _ _ ⟨hM.1, ⟨fun c1 => ?_, fun c1 => ?_⟩⟩
    · have c1 : V 4 ≤ nI k := c1
      rw [hn] at c1
      have c1 : n ≤ k := (nI_leI (by omega) (by omega)).mp c1
      have : k = n := by omega
      subst this
      rw [hB] at hm
      have hm : ¬ by' = 0 → m < 30 := hm
      refine ⟨hM.1, ⟨fun c2 => ⟨rfl, ?_⟩, fun c2 => ⟨mt_g hM 4 (by decide), ⟨mt_l hM 4 (by decide) (vp_in_nI (hm c2) (by decide)), ⟨mt_g hM 5 (by decide), ⟨mt_l hM 5 (by decide) (vp_in_nI (hm c2) (by decide)), ⟨mt_g hM 6 (by decide), ⟨mt_l hM 6 (by decide) (vp_in_nI (hm c2) (by decide)), ⟨hM.1, ⟨hM.1, ⟨rfl, ?_⟩⟩⟩⟩⟩⟩⟩⟩⟩⟩⟩
      · have c2 : by' = 0 := c2
        rw [hB, if_pos c2, if_pos c2, mz_sV]
        rfl
      · have c2 : ¬ by' = 0 := c2
        rw [hB, if_neg c2, if_neg c2, mz_sV, mz_sA (by decide) (by decide), mz_sA (by decide) (by decide), mz_sA (by decide) (by decide), mz_sV]
        show mz z0 (upd (upd V 4 (nI m)) 4 (upd V 4 (nI m) 4 + 1)) (u2 (u2 (u2 B 4 (nI m).toNatClampNeg c) 5 (nI m).toNatClampNeg day) 6 (nI m).toNatClampNeg by') = _
        rw [upd_upd, clm, show upd V 4 (nI m) 4 = nI m from if_pos rfl, nI_1]
    · have c1 : ¬ V 4 ≤ nI k := c1
      rw [hn] at c1
      have c1 := nI_leN (by omega) (by omega) c1
      have ih := ih c1
      have vk : vp_in (nI k) 30 := vp_in_nI (by omega) (by decide)
      have vm : vp_in (nI m) 30 := vp_in_nI (by omega) (by decide)
      have go : ¬ (B 4 k = c ∧ B 5 k = day) → K 69 [.ref 46, .int c, .int day, .int by', .int (rgF A c day n), .int (nI m + 1), .int (nI k + 1)] [] (mz z0 V (rm3 B m k)) := by
        intro hq
        simp only [rmF, hB, hq, if_false] at ih
        rw [nI_succ, nI_succ] at ih
        exact ih
      refine ⟨mt_g hM 4 (by decide), ⟨mt_l hM 4 (by decide) vk, ⟨fun c9 => ⟨mt_g hM 5 (by decide), ⟨mt_l hM 5 (by decide) vk, ⟨fun c11 => ?_, fun c11 => ⟨mt_g hM 4 (by decide), ⟨mt_g hM 4 (by decide), ⟨mt_l hM 4 (by decide) vk, ⟨mt_l hM 4 (by decide) vm, ⟨mt_g hM 5 (by decide), ⟨mt_g hM 5 (by decide), ⟨mt_l hM 5 (by decide) vk, ⟨mt_l hM 5 (by decide) vm, ⟨mt_g hM 6 (by decide), ⟨mt_g hM 6 (by decide), ⟨mt_l hM 6 (by decide) vk, ⟨mt_l hM 6 (by decide) vm, ?_⟩⟩⟩⟩⟩⟩⟩⟩⟩⟩⟩⟩⟩⟩⟩, fun c9 => ⟨mt_g hM 4 (by decide), ⟨mt_g hM 4 (by decide), ⟨mt_l hM 4 (by decide) vk, ⟨mt_l hM 4 (by decide) vm, ⟨mt_g hM 5 (by decide), ⟨mt_g hM 5 (by decide), ⟨mt_l hM 5 (by decide) vk, ⟨mt_l hM 5 (by decide) vm, ⟨mt_g hM 6 (by decide), ⟨mt_g hM 6 (by decide), ⟨mt_l hM 6 (by decide) vk, ⟨mt_l hM 6 (by decide) vm, ?_⟩⟩⟩⟩⟩⟩⟩⟩⟩⟩⟩⟩⟩⟩⟩
      · have c9 : B 4 (nI k).toNatClampNeg = c := c9
        have c11 : B 5 (nI k).toNatClampNeg = day := c11
        rw [clk] at c9 c11
        simp only [rmF, hB, c9, c11, and_self, if_true] at ih
        rw [nI_succ] at ih
        exact ih
      · have c11 : ¬ B 5 (nI k).toNatClampNeg = day := c11
        rw [clk] at c11
        have g := go (fun q => c11 q.2)
        rw [mz_sA (by decide) (by decide), mz_sA (by decide) (by decide), mz_sA (by decide) (by decide)]
        show K 69 [.ref 46, .int c, .int day, .int by', .int (rgF A c day n), .int (nI m + 1), .int (nI k + 1)] [] (mz z0 V (rm3 B (nI m).toNatClampNeg (nI k).toNatClampNeg))
        rw [clm, clk]
        exact g
      · have c9 : ¬ B 4 (nI k).toNatClampNeg = c := c9
        rw [clk] at c9
        have g := go (fun q => c9 q.1)
        rw [mz_sA (by decide) (by decide), mz_sA (by decide) (by decide), mz_sA (by decide) (by decide)]
        show K 69 [.ref 46, .int c, .int day, .int by', .int (rgF A c day n), .int (nI m + 1), .int (nI k + 1)] [] (mz z0 V (rm3 B (nI m).toNatClampNeg (nI k).toNatClampNeg))
        rw [clm, clk]
        exact g
end MRank
