/-! Both are made, the law runs to its end. Own work. -/
theorem sim_new {z1 : ZS} {L : Nat} (h : XN z1 L) : Sim (mz (maz (nw z1 17 0 35) 28) (VZ (maz (nw z1 17 0 35) 28)) (ouF (AZ (maz (nw z1 17 0 35) 28)) 4)) 0 0 ∧ zn (mz (maz (nw z1 17 0 35) 28) (VZ (maz (nw z1 17 0 35) 28)) (ouF (AZ (maz (nw z1 17 0 35) 28)) 4)) = 75 ∧ zw (mz (maz (nw z1 17 0 35) 28) (VZ (maz (nw z1 17 0 35) 28)) (ouF (AZ (maz (nw z1 17 0 35) 28)) 4)) ≤ 10000 ∧ S5 (mz (maz (nw z1 17 0 35) 28) (VZ (maz (nw z1 17 0 35) 28)) (ouF (AZ (maz (nw z1 17 0 35) 28)) 4)) L := by
  obtain ⟨hn, hw, h8, hc, hp⟩ := h
  have o := fun a (ha : a < zn z1) => nw_o z1 17 0 35 (Nat.ne_of_lt ha)
  have n2 : zn (nw z1 17 0 35) = 47 := by show zn z1 + 1 = 47; omega
  have w2 : zw (nw z1 17 0 35) = zw z1 + 35 := rfl
  have t46 : tg (nw z1 17 0 35) 46 = 17 := by rw [← hn]; exact nw_tg _ _ _ _
  have i46 : zI (nw z1 17 0 35) 46 = fun _ => 0 := by rw [← hn]; exact nw_zI _ _ _ _
  generalize nw z1 17 0 35 = z2 at *
  have hM := maz_MT n2 t46
  obtain ⟨m1, m2, m3, m4, m5⟩ := maz_f z2 (by omega) 28 (by omega)
  rw [n2] at m5
  have ms : msm 28 = 2255 := by decide
  have hV : ∀ k, VZ (maz z2 28) k = 0 := fun k => by
    show zI (maz z2 28) 46 k = 0
    rw [(m3 46 (by omega)).2.2, i46]
  have hA0 : ∀ q, q < 28 → ∀ i, AZ (maz z2 28) q i = 0 := fun q hq i => by
    show zI (maz z2 28) (47 + q) i = 0
    rw [(m5 q hq).2.2.1]
  have hF1 : Fr (fun _ _ => False) (fun _ _ => False) z1 (maz z2 28) := by
    refine ⟨by omega, fun a ha => ⟨?_, ?_⟩, fun a j ha _ => ?_, fun a j ha _ => ?_⟩
    · rw [(m3 a (by omega)).1, (o a ha).1]
    · rw [(m3 a (by omega)).2.1, (o a ha).2.1]
    · rw [(m3 a (by omega)).2.2, (o a ha).2.2.1]
    · rw [m4 a (by omega) (by omega), (o a ha).2.2.2]
  generalize maz z2 28 = y at *
  obtain ⟨u1, u2⟩ := ou_f (AZ y) 4
  have hA4 : ∀ q, 4 ≤ q → q < 28 → ∀ i, ouF (AZ y) 4 q i = 0 := fun q h1 h2 i => by rw [u1 q h1]; exact hA0 q h2 i
  generalize ouF (AZ y) 4 = A at *
  generalize VZ y = V at *
  have hF := Fr_t hF1 (mz_Fr y V A)
  have tm : TA (mz y V A) = trw A := TA_mz y V A
  have fm : FZ (mz y V A) = fzF A := fzF_e (mz_A y V A 17 (by decide)) (mz_A y V A 7 (by decide)) (mz_A y V A 16 (by decide))
  have vm : VZ (mz y V A) = V := rfl
  have zm : zn (mz y V A) = 75 := by show zn y = 75; omega
  have wm : zw (mz y V A) ≤ 10000 := by show zw y ≤ 10000; omega
  have hM' : MT (mz y V A) := hM
  generalize mz y V A = z at *
  have tA : ∀ q, (q < 16 ∧ q ≠ 7) → trw A q = A q := fun q hq => by unfold trw; rw [if_pos hq]
  have x8 : X8 z L := X8_F hF (by omega) (fun a j w => by rcases w with w | w; exact w.elim; omega) (fun a j w => by rcases w with w | w <;> exact w.elim) h8
  have c0 : ∀ c, c < 4 → C0 z c := fun c hc' => C0_F hF (by omega) (fun a j w => by rcases w with w | w; exact w.elim; omega) (fun a j w => by rcases w with w | w <;> exact w.elim) (hc c hc')
  have p0 : ∀ p, p < 12 → P0 z p := fun p hp' => P0_F hF (by omega) (fun a j w => by rcases w with w | w; exact w.elim; omega) (fun a j w => by rcases w with w | w <;> exact w.elim) (hp p hp')
  obtain ⟨q1, q2, q3, q4, q5, q6, q7, q8, q9, q10, q11, q12, q13, q14, q15, q16, q17⟩ := x8
  refine ⟨⟨hM', ?_⟩, zm, wm, q17⟩
  rw [tm, fm, vm]
  have e0 := tA 0 (by decide)
  have e1 := tA 1 (by decide)
  have e2 := tA 2 (by decide)
  have e3 := tA 3 (by decide)
  refine ⟨⟨by omega, q1, ⟨q3.1, q3.2, fun c hc' => (c0 c hc').1⟩, ⟨q4.1, q4.2, fun p hp' => ⟨(p0 p hp').1, (p0 p hp').2.1⟩⟩, q5, q6, q8, q10, q12, q13, q14, q15⟩, fun c hc' => ?_, ⟨hV 4, q16, fun c day => rfl, ⟨fun i hi => absurd hi (by omega), fun i j hi => absurd hi (by omega)⟩, ⟨fun i hi => absurd hi (by omega), fun i j hi => absurd hi (by omega)⟩⟩, ⟨⟨0, by omega, hV 8, q7, fun j hj => absurd hj (by omega)⟩, 0, by omega, hV 19, q9, fun j hj => absurd hj (by omega)⟩, fun j hj => ?_, ⟨by omega, hV 10, q2⟩, ⟨fun k hk => absurd hk (by omega), fun j k _ hk => absurd hk (by omega)⟩, ⟨fun c hc' => ?_, fun k hk => absurd hk (by omega), fun k hk => absurd hk (by omega), fun c day => ?_, fun k hk => absurd hk (by omega)⟩, fun k hk => absurd hk (by omega), fun p hp' => ?_⟩
  · obtain ⟨a1, a2, a3, a4, a5, a6, a7, a8, a9, a10, a11⟩ := c0 c hc'
    obtain ⟨b1, b2, b3⟩ := u2 c hc'
    rw [e0, e1, e2, e3]
    exact ⟨a2, a3, a4, a5, a6, a7, a8.trans b1.symm, a9.trans b2.symm, fun h hh => (a10 h hh).trans (b3 h hh).1.symm, fun h hh => (a11 h hh).trans (b3 h hh).2.symm⟩
  · rw [fz_0, hA4 17 (by decide) (by decide)]; exact q11 j
  · obtain ⟨b1, b2, b3⟩ := u2 c hc'
    rw [e0, e1, e2, b1, b2]
    exact ⟨by decide, by decide, fun h hh => by rw [(b3 h hh).1]; decide⟩
  · show -1 ≤ (0 : Int32).toInt ∧ (0 : Int32).toInt ≤ 3
    decide
  · obtain ⟨a1, a2, a3, a4⟩ := p0 p hp'
    exact ⟨a4 0, Or.inl (a3 2), fun _ => ⟨fun k hk => absurd hk List.not_mem_nil, a4 1, fun i hi => absurd hi (Nat.not_lt_zero _)⟩⟩
theorem lawOK : LawOK := by
  intro L xs hL
  have key : Rq 13 174 [.ref 5] (z00 xs L) (fun r z1 => r = some (.int 1) ∧ zn z1 ≤ 600006 ∧ zw z1 ≤ 7302250) := by
    refine rq_i (full := cd_174) (show True from trivial) (fun r z' h => ?_) rfl (fun K hK => ?_)
    · rw [h.1]; exact Or.inr rfl
    · obtain ⟨r, z1, rx, e, hX⟩ := X_init 9 xs L
      subst e
      have rm := M_init 11 (nw z1 17 0 35) (by show zn z1 + 1 = 47; rw [hX.1]) (by rw [← hX.1]; exact nw_tg _ _ _ _)
      obtain ⟨hS, h75, hw, h5⟩ := sim_new hX
      have g := lw_loop hL hK (L + 1) 0 _ 0 0 (by omega) (by omega) hS h5 (by omega) (by omega)
      generalize mz (maz (nw z1 17 0 35) 28) (VZ (maz (nw z1 17 0 35) 28)) (ouF (AZ (maz (nw z1 17 0 35) 28)) 4) = z2 at *
      have rm : Rn 12 i_M_init [.ref (zn z1)] (nw z1 17 0 35) none z2 := by rw [hX.1]; exact rm
      refine hK 0 _ _ _ ⟨_, _, rx, ⟨_, _, rm, ?_⟩⟩
      show K 18 [.ref 5, .ref 6, .ref (zn z1), .int (nI 0)] [] z2
      rw [hX.1]
      exact g
  obtain ⟨r, z', h, rfl, h1, h2⟩ := key
  exact ⟨z', h1, h2, h⟩
