/-! Calls of both: match place. Own work. -/
theorem i32_abs (u l : Int32) (hl : 0 ≤ l.toInt) : ((if 0 ≤ u then u else -u) ≤ l) ↔ ¬ (l < u ∨ ¬ -u ≤ l) := by
  by_cases h : 0 ≤ u
  · rw [if_pos h]
    rw [i32_le, show (0 : Int32).toInt = 0 by decide] at h
    have e : (-u).toInt = -u.toInt := by
      rw [Int32.toInt_neg]
      have := Int32.toInt_lt u
      exact Int.bmod_eq_of_le (by omega) (by omega)
    rw [i32_le, i32_lt, i32_le, e]
    omega
  · rw [if_neg h]
    rw [i32_le, show (0 : Int32).toInt = 0 by decide] at h
    rw [i32_lt, i32_le]
    omega
/-- a card at its owner's settled: what a form needs -/
theorem form_s {z z1 : ZS} {n R : Nat} {A : Nat → Nat → Int32} {F V : Nat → Int32} (hC1 : Cls z1 A F V n R) (ec : zP z1 9 = zP z 9) (k p : Nat) (hk : k < n) (hp : p < 12) (e9 : A 9 k = nI p) (ha : ¬ A 8 k = 2) (st : zI z1 (34 + p) 2 = 0) : DO z1 (zP z 9 k) (fsN A k) (lsN A k - fsN A k) (fun j => A 15 (18 * k + (fsN A k + j))) (fun j => gvF (gfB (fB A n R) A (oF (A 10) n) n k (cN A k)) (A 3 (18 * cN A k + (fsN A k + j)))) ∧ zP z1 (zP z 9 k) 5 = 22 + 3 * cN A k ∧ (-20000 ≤ (gfB (fB A n R) A (oF (A 10) n) n k (cN A k)).toInt ∧ (gfB (fB A n R) A (oF (A 10) n) n k (cN A k)).toInt ≤ 20000) := by
  have h60 := hC1.2.2.2.2.2.1.1
  have hI := ((hC1.2.2.2.2.2.2.2.2.2 p hp).2.2 st).1 k (List.mem_reverse.mpr ((lpF_mem _ n p k).mpr ⟨hk, e9⟩))
  rw [ec] at hI
  have hB1 := hC1.2.2.2.2.2.2.1.1 k hk
  rw [ec] at hB1
  obtain ⟨v1, v2, v3, v4, v5, _⟩ := hB1.2.2.2.2.2.2.2.2.2.2.2.resolve_left (fun w => ha w.1)
  have eg := c_gf R hC1.2.2.2.2.2.2.2.2.1 p k e9
  obtain ⟨o1, o2, o3⟩ := tpF_ok A n p h60
  have bd := gf_bd hC1.2.2.2.2.2.2.1 hC1.2.2.2.2.2.2.2.1 (tpF A n p) o1 o2 k v3
  rw [eg]
  exact ⟨HC_DO' hC1.2.1 hB1 ha (hI.2.2.2 ha), v5, bd⟩
theorem X_wonBy (d : Nat) (z : ZS) (x y f len : Nat) (S H S' H' : Nat → Int32) (hx : DO z x f len S H) (hy : DO z y f len S' H') (j : Nat) (hj : j < len) (bS : ∀ j, j < len → -1 ≤ (S j).toInt ∧ (S j).toInt ≤ 15) (bS' : ∀ j, j < len → -1 ≤ (S' j).toInt ∧ (S' j).toInt ≤ 15) (bH : ∀ j, j < len → -1200 ≤ (H j).toInt ∧ (H j).toInt ≤ 1200) (bH' : ∀ j, j < len → -1200 ≤ (H' j).toInt ∧ (H' j).toInt ≤ 1200) : Rn (d + 3) i_X_wonBy [.ref x, .ref y, .int (nI (f + j))] z (some (.int (wnF (S j) (H j) (S' j) (H' j)))) z := by
  have r1 := D_shotsAt (d + 1) z x f len S H hx j hj
  have r2 := D_shotsAt (d + 1) z y f len S' H' hy j hj
  have n1 := D_netAt d z x f len S H hx j hj
  have n2 := D_netAt d z y f len S' H' hy j hj
  have s := bS j hj
  have s' := bS' j hj
  have h := bH j hj
  have h' := bH' j hj
  generalize S j = u at *
  generalize S' j = u' at *
  generalize H j = a at *
  generalize H' j = a' at *
  have z0 : (0 : Int32).toInt = 0 := by decide
  have z1 : (1 : Int32).toInt = 1 := by decide
  have e1 : (u - a).toInt = u.toInt - a.toInt := by rw [ti_sub] <;> omega
  have e2 : (u' - a').toInt = u'.toInt - a'.toInt := by rw [ti_sub] <;> omega
  have e3 : (u' - a' - (u - a)).toInt = u'.toInt - a'.toInt - (u.toInt - a.toInt) := by rw [ti_sub] <;> rw [e1, e2] <;> omega
  refine rn_i (full := cd_103) trivial (ok_n rfl) rfl (fun K hK => hK 0 _ _ _ ⟨_, _, r1, ⟨fun c2 => ⟨_, _, r2, ⟨fun c4 => ⟨fun c5 => ⟨fun c6 => ⟨fun c7 => ⟨?_, rfl⟩, fun c7 => absurd rfl c7⟩, fun c6 => absurd rfl c6⟩, fun c5 => absurd rfl c5⟩,
      fun c4 => ⟨fun c28 => ⟨fun c29 => ⟨fun c30 => absurd c30 nz1, fun c30 => ⟨?_, rfl⟩⟩, fun c29 => absurd rfl c29⟩, fun c28 => absurd rfl c28⟩⟩⟩,
    fun c2 => ⟨_, _, r2, ⟨fun c52 => ⟨fun c53 => absurd c53 nz1, fun c53 => ⟨fun c61 => ⟨fun c62 => absurd c62 nz1, fun c62 => ⟨fun c66 => ⟨?_, rfl⟩, fun c66 => absurd rfl c66⟩⟩, fun c61 => absurd rfl c61⟩⟩,
      fun c52 => ⟨fun c76 => absurd c76 nz1, fun c76 => ⟨fun c84 => absurd c84 nz1, fun c84 => ⟨_, _, n2, ⟨_, _, n1, ⟨fun c94 => ⟨?_, rfl⟩, fun c94 => ⟨fun c96 => ⟨?_, rfl⟩, fun c96 => ⟨?_, rfl⟩⟩⟩⟩⟩⟩⟩⟩⟩⟩⟩)
  · have c2 : u ≤ 0 := c2
    have c4 : u' ≤ 0 := c4
    unfold wnF
    rw [if_pos (by rw [i32_le, z0] at c2; rw [i32_lt, z1]; omega), if_pos c2, if_pos c4]; rfl
  · have c2 : u ≤ 0 := c2
    have c4 : ¬ u' ≤ 0 := c4
    unfold wnF
    rw [if_pos (by rw [i32_le, z0] at c2; rw [i32_lt, z1]; omega), if_pos c2, if_neg c4]; rfl
  all_goals
    have c2 : ¬ u ≤ 0 := c2
    have c2' : ¬ u < 1 := by
      rw [i32_le, z0] at c2
      rw [i32_lt, z1]; omega
    unfold wnF
    rw [if_neg c2']
  · have c52 : u' ≤ 0 := c52
    rw [if_neg (by rw [i32_le, z0] at c52; rw [i32_le, z1]; omega), if_neg c2]; rfl
  all_goals
    have c52 : ¬ u' ≤ 0 := c52
    rw [if_pos (by rw [i32_le, z0] at c52; rw [i32_le, z1]; omega)]
    unfold cmp3
  · have c94 : u' - a' - (u - a) = 0 := c94
    rw [i32_eq, e3, z0] at c94
    have e : u' - a' = u - a := by rw [i32_eq, e1, e2]; omega
    rw [e, if_pos (Int32.le_refl _), if_pos rfl]
  · have c94 : ¬ u' - a' - (u - a) = 0 := c94
    have c96 : u' - a' - (u - a) ≤ 0 := c96
    rw [i32_eq, e3, z0] at c94
    rw [i32_le, e3, z0] at c96
    rw [if_neg (by rw [i32_le, e1, e2]; omega)]
  · have c94 : ¬ u' - a' - (u - a) = 0 := c94
    have c96 : ¬ u' - a' - (u - a) ≤ 0 := c96
    rw [i32_eq, e3, z0] at c94
    rw [i32_le, e3, z0] at c96
    rw [if_pos (by rw [i32_le, e1, e2]; omega), if_neg (by rw [i32_eq, e1, e2]; omega)]
theorem pfA_fr : ∀ j, j < 5 → pfA j = nI (frN j) ∧ frN j ≤ 18 := by decide
theorem X_isAhead (d : Nat) (z : ZS) (hT : CT z) (x y a b : Nat) (nx_ : zI z x 0 = nI a) (ny_ : zI z y 0 = nI b) (ha : a < 60) (hb : b < 60) (tx : tg z x = 11) (ty : tg z y = 11) (pa pb' : Nat → Int32) (rx : ∀ fm, fm ≤ 18 → Rn (d + 3) i_D_pointsFrom [.ref x, .int (nI fm)] z (some (.int (pa fm))) z) (ry : ∀ fm, fm ≤ 18 → Rn (d + 3) i_D_pointsFrom [.ref y, .int (nI fm)] z (some (.int (pb' fm))) z) (bx : ∀ fm, 0 ≤ (pa fm).toInt ∧ (pa fm).toInt ≤ 100000) (by_ : ∀ fm, 0 ≤ (pb' fm).toInt ∧ (pb' fm).toInt ≤ 100000) : Rn (d + 4) i_X_isAhead [.ref x, .ref y] z (some (.int (if ahS pa pb' (decide (a < b)) 5 0 = true then 1 else 0))) z := by
  have t4 := hT.2.2.2.2.2.2.2.2.2.1
  refine rn_i (full := cd_104) trivial ok_b rfl (fun K hK => hK 0 _ _ _ ⟨by rw [t4.1]; rfl, ?_⟩)
  show K 10 [.ref x, .ref y, .ref 4, .int (nI (ln z 4)), .int 0, .null, .null] [] z
  rw [t4.2.1]
  generalize hX : ahS pa pb' (decide (a < b)) 5 0 = X at hK
  refine loop_up (P := fun k => ∀ v5 v6 : Value, ahS pa pb' (decide (a < b)) (5 - k) k = X → K 10 [.ref x, .ref y, .ref 4, .int (nI 5), .int (nI k), v5, v6] [] z) 5 (fun k hk ih v5 v6 hX => ?_) 0 (by omega) .null .null hX
  by_cases hk5 : k < 5
  · have ih := ih hk5
    rw [nI_succ k] at ih
    obtain ⟨e1, e2⟩ := pfA_fr k hk5
    have ck : (nI k).toNatClampNeg = k := nI_clamp (by omega)
    have ef : zI z 4 (nI k).toNatClampNeg = nI (frN k) := by rw [ck, t4.2.2 k hk5, e1]
    have rx' : Rn (d + 3) i_D_pointsFrom [.ref x, .int (zI z 4 (nI k).toNatClampNeg)] z (some (.int (pa (frN k)))) z := by rw [ef]; exact rx _ e2
    have ry' : Rn (d + 3) i_D_pointsFrom [.ref y, .int (zI z 4 (nI k).toNatClampNeg)] z (some (.int (pb' (frN k)))) z := by rw [ef]; exact ry _ e2
    rw [show 5 - k = (5 - (k + 1)) + 1 by omega] at hX
    unfold ahS at hX
    have q1 := bx (frN k)
    have q2 := by_ (frN k)
    generalize pa (frN k) = u at *
    generalize pb' (frN k) = v at *
    have es : (u - v).toInt = u.toInt - v.toInt := by rw [ti_sub] <;> omega
    have z0 : (0 : Int32).toInt = 0 := by decide
    refine hK 7 _ _ _ ⟨fun c1 => absurd c1 (nI_ge (b := 5) hk5 (by decide)), fun c1 => ⟨⟨t4.1, by rw [t4.2.1]; exact vp_in_nI hk5 (by decide)⟩, ⟨_, _, rx', ⟨_, _, ry', ⟨fun c10 => ?_, fun c10 => ⟨fun c12 => ⟨?_, rfl⟩, fun c12 => ⟨?_, rfl⟩⟩⟩⟩⟩⟩⟩
    · have c10 : u - v = 0 := c10
      rw [i32_eq, es, z0] at c10
      rw [if_pos (by rw [i32_eq]; omega)] at hX
      exact ih _ _ hX
    · have c10 : ¬ u - v = 0 := c10
      have c12 : u - v ≤ 0 := c12
      rw [i32_eq, es, z0] at c10
      rw [i32_le, es, z0] at c12
      rw [if_neg (by rw [i32_eq]; omega), decide_eq_false (fun w => w (by rw [i32_le]; omega))] at hX
      rw [← hX]; rfl
    · have c10 : ¬ u - v = 0 := c10
      have c12 : ¬ u - v ≤ 0 := c12
      rw [i32_eq, es, z0] at c10
      rw [i32_le, es, z0] at c12
      rw [if_neg (by rw [i32_eq]; omega), decide_eq_true (by rw [i32_le]; omega)] at hX
      rw [← hX]; rfl
  · have : k = 5 := by omega
    subst this
    have hX : decide (a < b) = X := hX
    refine hK 7 _ _ _ ⟨fun c1 => ⟨tx, ⟨ty, ⟨fun c4 => ⟨?_, rfl⟩, fun c4 => ⟨?_, rfl⟩⟩⟩⟩, fun c1 => absurd (Int32.le_refl _) c1⟩
    · have c4 : zI z y 0 ≤ zI z x 0 := c4
      rw [nx_, ny_] at c4
      have c4 : b ≤ a := (nI_leI (by omega) (by omega)).mp c4
      rw [← hX, if_neg (fun w => by have := of_decide_eq_true w; omega)]
    · have c4 : ¬ zI z y 0 ≤ zI z x 0 := c4
      rw [nx_, ny_] at c4
      have c4 := nI_leN (by omega) (by omega) c4
      rw [← hX, if_pos (decide_eq_true c4)]
