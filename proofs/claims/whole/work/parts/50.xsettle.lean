/-! The class's settle. Own work. -/
theorem ps_pars (A : Nat → Nat → Int32) (c : Nat) : ∀ k, psum (fun h => A 2 (18 * c + h)) k = parsF A c k
  | 0 => rfl
  | k + 1 => by unfold psum parsF; rw [ps_pars A c k]
theorem hp_pl (A : Nat → Nat → Int32) (k f : Nat) : ∀ j, hpF (fun j => A 15 (18 * k + (f + j))) j = pcn A k f j
  | 0 => rfl
  | j + 1 => by unfold hpF pcn; rw [hp_pl A k f j]
theorem aw_as (A : Nat → Nat → Int32) (k c f len : Nat) (g : Int32) (F : Nat → Int32) : ∀ j, j ≤ len → awF (fun j => A 15 (18 * k + (f + j))) (shF (fun h => A 3 (18 * c + h)) f g F len) (fun h => A 2 (18 * c + h)) f j = asF A k c g f j
  | 0, _ => rfl
  | j + 1, h => by
    unfold awF asF
    rw [aw_as A k c f len g F j (by omega), aj_ad]
    unfold shF
    rw [if_pos (by omega)]
/-- all that settling needs -/
def SC (z : ZS) (cid : Nat → Nat) (A : Nat → Nat → Int32) (n R p : Nat) (lp : List Nat) (C D V : Nat → Int32) : Prop :=
  p < 12 ∧ CB z cid A n ∧ CS z A ∧ RT z R C D V ∧ (∀ c day, vlR C D V R c day = rgF A c day R) ∧ BT z ∧ ST z ∧ tg z (34 + p) = 13 ∧ (∀ c, c < 4 → 1 ≤ A 1 c ∧ ¬ 2 * A 1 c = 0) ∧ (∀ k, k ∈ lp → k < n) ∧ lp.Nodup ∧ dn (A 10) lp.reverse ∧ (∀ k, k < n → 0 ≤ A 10 k ∧ A 10 k ≤ 9999) ∧ LK z cid lp (zP z (34 + p) 0) ∧ (∀ t, (∀ k, k ∈ t → k < n) → t.length ≤ 60 → NoS (pb A R t) t) ∧ lp.length ≤ 60
theorem LK_F {z z' : ZS} {cid : Nat → Nat} : ∀ (l : List Nat) (q : Nat), (∀ k, k ∈ l → zP z' (cid k) 11 = zP z (cid k) 11) → LK z cid l q → LK z' cid l q
  | [], _, _, h => h
  | k :: t, q, e, h => ⟨h.1, by rw [e k List.mem_cons_self]; exact LK_F t _ (fun k' hk' => e k' (List.mem_cons_of_mem _ hk')) h.2⟩
theorem SC_F {z z' : ZS} {cid : Nat → Nat} {A : Nat → Nat → Int32} {n R p : Nat} {lp : List Nat} {C D V : Nat → Int32} (h : SC z cid A n R p lp C D V) (hF : Fz p cid lp A z z') : SC z' cid A n R p lp C D V := by
  obtain ⟨h1, h2, h3, h4, h5, h6, h7, h8, h9, h10, h11, h12, h13, h14, h15, h16⟩ := h
  have hS := CB_S h2
  have f6 := hF.2.2.2.2.2
  have tt : tg z' = tg z := hF.2.2.1
  refine ⟨h1, Fz_CB h1 h10 hF h2, Fz_CS h1 hS h10 hF h3, Fz_RT h1 hS h10 hF h4, h5, Fz_BT h1 hS h10 hF h6, Fz_ST h1 hS h10 hF h7, by rw [tt]; exact h8, h9, h10, h11, h12, h13, ?_, h15, h16⟩
  rw [f6 _ _ (v_lo hS h10 (by omega) (by omega))]
  exact LK_F lp _ (fun k hk => f6 _ _ (v_card hS h10 h1 (h10 k hk) (Or.inl ⟨by decide, by decide⟩))) h14
theorem sub60 {x y : Int32} (hx : 0 ≤ x ∧ x ≤ 9999) (hy : 0 ≤ y ∧ y ≤ 9999) : (¬ 60 < x - y ↔ ¬ y < x - 60) := by
  obtain ⟨a, ha, e⟩ := rng_nI (x := x) (N := 9999) (by decide) hx
  obtain ⟨b, hb, e'⟩ := rng_nI (x := y) (N := 9999) (by decide) hy
  have t1 : (x - y).toInt = x.toInt - y.toInt := by
    rw [Int32.toInt_sub]
    rw [e, e', nI_toInt (by omega), nI_toInt (by omega)]
    exact Int.bmod_eq_of_le (by omega) (by omega)
  have t2 : (x - 60).toInt = x.toInt - 60 := by
    rw [Int32.toInt_sub, show (60 : Int32).toInt = 60 by decide, e, nI_toInt (by omega)]
    exact Int.bmod_eq_of_le (by omega) (by omega)
  rw [i32_lt, i32_lt, t1, t2, show (60 : Int32).toInt = 60 by decide]; omega
theorem pb_jn (A : Nat → Nat → Int32) (R : Nat) : ∀ (t : List Nat) (x j : Nat), (pb A R t).2.2 x = some j → j ∈ t
  | [], x, j, h => by cases h
  | k :: t, x, j, h => by
    have ih := pb_jn A R t
    have h : (stP A R (pb A R t) t k).2.2 x = some j := h
    unfold stP at h
    split at h
    · exact List.mem_cons_of_mem _ (ih x j h)
    · split at h
      · exact List.mem_cons_of_mem _ (ih x j h)
      · split at h
        · split at h
          · exact List.mem_cons_of_mem _ (ih x j h)
          · exact List.mem_cons_of_mem _ (ih x j h)
        · split at h
          · exact List.mem_cons_of_mem _ (ih x j h)
          · cases hw : wtP (pb A R t) A t k with
            | none => rw [hw] at h; exact List.mem_cons_of_mem _ (ih x j h)
            | some o =>
              rw [hw] at h
              have h : (if x = k then some o else if x = o then some k else (pb A R t).2.2 x) = some j := h
              by_cases e1 : x = k
              · rw [if_pos e1] at h
                cases h
                exact List.mem_cons_of_mem _ (wtP_mem hw)
              · rw [if_neg e1] at h
                by_cases e2 : x = o
                · rw [if_pos e2] at h
                  cases h
                  exact List.mem_cons_self
                · rw [if_neg e2] at h
                  exact List.mem_cons_of_mem _ (ih x j h)
section XSet
variable (d : Nat) {cid : Nat → Nat} {A : Nat → Nat → Int32} {n R p : Nat} {lp : List Nat} {C D V : Nat → Int32}
/-- of a list in two parts -/
theorem split_lp {A : Nat → Nat → Int32} {n : Nat} {lp t r : List Nat} {k : Nat} (hl : ∀ k, k ∈ lp → k < n) (hnd : lp.Nodup) (hdn : dn (A 10) lp.reverse) (e : lp = t.reverse ++ k :: r) : k ∈ lp ∧ ¬ k ∈ t ∧ (∀ k', k' ∈ t → k' ∈ lp ∧ k' < n ∧ k' ≠ k ∧ A 10 k' ≤ A 10 k) ∧ dn (A 10) t := by
  have hk : k ∈ lp := by rw [e]; exact List.mem_append.mpr (Or.inr List.mem_cons_self)
  have hm : ∀ k', k' ∈ t → k' ∈ lp := fun k' h => by rw [e]; exact List.mem_append.mpr (Or.inl (List.mem_reverse.mpr h))
  have hkt : ¬ k ∈ t := by
    intro w
    rw [e] at hnd
    have := (List.nodup_append.mp hnd).2.2 k (List.mem_reverse.mpr w) k List.mem_cons_self
    exact this rfl
  have er : lp.reverse = r.reverse ++ (k :: t) := by
    rw [e, List.reverse_append, List.reverse_cons, List.reverse_reverse, List.append_assoc]; rfl
  rw [er] at hdn
  have hd2 := (List.pairwise_append.mp hdn).2.1
  have hd3 := List.pairwise_cons.mp hd2
  exact ⟨hk, hkt, fun k' h => ⟨hm k' h, hl k' (hm k' h), fun q => hkt (q ▸ h), hd3.1 k' h⟩, hd3.2⟩
theorem RK {z : ZS} (hc : SC z cid A n R p lp C D V) (t r : List Nat) (k : Nat) (hlp : lp = t.reverse ++ k :: r) (hIV : IV z cid A R p t) (num : Int32) (hnum : ¬ A 8 k = 2 → num = nuP (pb A R t) A t (A 10 k)) : ∃ z1, Rn (d + 5) i_P_reckonCard [.ref (34 + p), .ref (cid k), .int num, .ref 10] z none z1 ∧ Fz p cid lp A z z1 ∧ (∀ k', k' ∈ k :: t → I1 z1 cid A (pb A R (k :: t)) (gfP (pb A R (k :: t)) A (k :: t)) k') ∧ I2 z1 cid (pb A R (k :: t)) (34 + p) (mkd (pb A R t) t) := by
  obtain ⟨h1, h2, h3, h4, h5, h6, h7, h8, h9, h10, h11, h12, h13, h14, h15, h16⟩ := hc
  obtain ⟨kl, kt, ht, hdt⟩ := split_lp h10 h11 h12 hlp
  have hS := CB_S h2
  have hkn := h10 k kl
  obtain ⟨v1, v2, v3⟩ := h15 t (fun k' hk' => (ht k' hk').2.1) (by rw [hlp] at h16; simp at h16; omega)
  have hfr := pb_fr A R k t kt
  obtain ⟨i1, i2⟩ := hIV
  have hG : ∀ k', k' ∈ t → gfP (pb A R (k :: t)) A (k :: t) k' = gfP (pb A R t) A t k' := fun k' hk' => by
    unfold gfP; rw [nuP_ext A R t k kt _ (ht k' hk').2.2.2]
  have hGk : gfP (pb A R (k :: t)) A (k :: t) k = gfP (pb A R t) A t k := by
    unfold gfP; rw [nuP_ext A R t k kt _ (Int32.le_refl _)]
  have ho1 : ∀ k', k' ∈ t → (pb A R (k :: t)).1 k' = (pb A R t).1 k' ∧ (pb A R (k :: t)).2.1 k' = (pb A R t).2.1 k' ∧ gfP (pb A R (k :: t)) A (k :: t) k' = gfP (pb A R t) A t k' := fun k' hk' => by
    obtain ⟨o1, o2⟩ := stP_oth A R (pb A R t) t k k' (ht k' hk').2.2.1
    exact ⟨o1, o2, hG k' hk'⟩
  have hL : ∀ k', k' ∈ mkd (pb A R t) t → k' < n ∧ k' ≠ k ∧ (pb A R (k :: t)).1 k' = (pb A R t).1 k' := fun k' hk' => by
    have w := (mkd_mem.mp hk').1
    exact ⟨(ht k' w).2.1, (ht k' w).2.2.1, (ho1 k' w).1⟩
  have htn : ∀ k', k' ∈ t → k' < n ∧ k' ≠ k := fun k' hk' => ⟨(ht k' hk').2.1, (ht k' hk').2.2.1⟩
  obtain ⟨c1, c2, c3, c4, c5, c6, c7, c8, c9, c10, c11, c12⟩ := h2.1 k hkn
  -- none of t changes its partner
  have same : (pb A R (k :: t)).2.2 = (pb A R t).2.2 → ∀ k', k' ∈ t → idO cid ((pb A R (k :: t)).2.2 k') = if cid k' = cid k then cid k else idO cid ((pb A R t).2.2 k') := fun e k' hk' => by
    rw [e, if_neg (sp_ne hS (htn k' hk').1 hkn (htn k' hk').2).1]
  by_cases ha : A 8 k = 2
  · have h5' : zP z (cid k) 5 = 0 := by
      rcases c12 with w | w
      · exact w.2
      · rcases w.1 with q | q <;> (rw [q] at ha; exact absurd ha (by decide))
    have e' : pb A R (k :: t) = if A 14 k = 0 then (va_up (pb A R t).1 k (some (A 13 k)), (pb A R t).2) else pb A R t := by
      show stP A R (pb A R t) t k = _
      unfold stP
      by_cases hv : A 14 k = 0
      · rw [if_neg (fun w => w hv), if_pos ha, if_pos hv]
      · rw [if_pos hv, if_neg hv]
    have e22 : (pb A R (k :: t)).2 = (pb A R t).2 := by rw [e']; split <;> rfl
    have r := P_reck_away d z (34 + p) (cid k) h8 c3 h5' num 10
    have e1 : (if zI z (cid k) 10 = 0 then zI z (cid k) 9 else -100002) = orN ((pb A R (k :: t)).1 k) := by
      rw [c10, c9, e']
      by_cases hv : A 14 k = 0
      · rw [if_pos hv, if_pos hv]
        show _ = orN (if k = k then some (A 13 k) else _)
        rw [if_pos rfl]; rfl
      · rw [if_neg hv, if_neg hv, hfr.1]; rfl
    refine ⟨_, r, rk_F z kl _ _ _ _ _ _ (Or.inl rfl) (Or.inl ⟨rfl, rfl⟩), ?_, ?_⟩
    · exact RK_fin hS hkn htn e1 (by rw [e22, hfr.2.1]; rfl) (by rw [e22, hfr.2.2]; rfl) (Or.inl ⟨ha, rfl⟩) i1 ho1 (same (by rw [e22]))
    · exact I2_rk hS hkn hL (Or.inl ⟨ha, rfl⟩) i2
  · have hH := BC_HC h3 (h2.1 k hkn) ha
    obtain ⟨k01, kCK, kc4, k11, kc5, kc7, kc8, kt1, kt2, ksh⟩ := c12.resolve_left (fun w => ha w.1)
    have hnum := hnum ha
    have eg : gvS num (A 0 (cN A k)) (A 1 (cN A k)) (fun h => A 2 (18 * cN A k + h)) = gfP (pb A R t) A t k := by
      unfold gvS gfP gvT; rw [ps_pars, hnum]
    have eaw := aw_as A k (cN A k) (fsN A k) (lsN A k - fsN A k) (gfP (pb A R t) A t k) (zI z (cid k + 2)) (lsN A k - fsN A k) (Nat.le_refl _)
    have ehp := hp_pl A k (fsN A k) (lsN A k - fsN A k)
    have hNR : NR (cid k) (cid k + 2) := fun a a1 a2 => ⟨by omega, by omega⟩
    have cs := h3 (cN A k) kc4
    have ev : vlR C D V R (zI z (22 + 3 * cN A k) 0) (zI z (cid k) 4) = rgF A (A 11 k) (A 10 k) R := by rw [cs.2.2.2.2.2.1, c7, h5, ← k11]
    have hy : (A 8 k = 2 ∧ cid k + 2 = cid k) ∨ (¬ A 8 k = 2 ∧ cid k + 2 = cid k + 2) := Or.inr ⟨ha, rfl⟩
    have hsh : ∀ h, h < lsN A k - fsN A k → shF (fun h => A 3 (18 * cN A k + h)) (fsN A k) (gfP (pb A R t) A t k) (zI z (cid k + 2)) (lsN A k - fsN A k) h = gvF (gfP (pb A R (k :: t)) A (k :: t) k) (A 3 (18 * cN A k + (fsN A k + h))) := fun h hh => by
      unfold shF; rw [if_pos hh, hGk]
    have hy' : (A 8 k = 2 ∧ cid k + 2 = cid k) ∨ (¬ A 8 k = 2 ∧ cid k + 2 = cid k + 2 ∧ ∀ h, h < lsN A k - fsN A k → shF (fun h => A 3 (18 * cN A k + h)) (fsN A k) (gfP (pb A R t) A t k) (zI z (cid k + 2)) (lsN A k - fsN A k) h = gvF (gfP (pb A R (k :: t)) A (k :: t) k) (A 3 (18 * cN A k + (fsN A k + h)))) := Or.inr ⟨ha, rfl, hsh⟩
    by_cases hv : A 14 k = 0
    · rcases k01 with k0 | k1
      · have r := P_reck_card d z (34 + p) (cid k) (cid k + 2) _ _ _ _ _ _ _ _ h8 hH (c10.trans hv) (c5.trans k0) (h9 _ kc4).1 (h9 _ kc4).2 R C D V h4 hNR num
        rw [eg, eaw, ehp, ev, i32_ss] at r
        have e' : pb A R (k :: t) = if plF A k < 14 then pb A R t else (va_up (pb A R t).1 k (some (mkP (pb A R t) A t R k)), (pb A R t).2) := by
          show stP A R (pb A R t) t k = _
          unfold stP
          rw [if_neg (fun w => w hv), if_neg ha, if_pos k0]
        have e22 : (pb A R (k :: t)).2 = (pb A R t).2 := by rw [e']; split <;> rfl
        refine ⟨_, r, rk_F z kl _ _ _ _ _ _ (Or.inl rfl) (Or.inr ⟨ha, rfl⟩), ?_, ?_⟩
        · refine RK_fin hS hkn htn ?_ (by rw [e22, hfr.2.1]; rfl) (by rw [e22, hfr.2.2]; rfl) hy' i1 ho1 (same (by rw [e22]))
          rw [e']
          by_cases hp14 : plF A k < 14
          · rw [if_pos hp14, hfr.1]
            show (if plF A k < 14 then _ else _) = _
            rw [if_pos hp14]; rfl
          · rw [if_neg hp14]
            show (if plF A k < 14 then _ else _) = orN (if k = k then some (mkP (pb A R t) A t R k) else _)
            rw [if_neg hp14, if_pos rfl]; rfl
        · exact I2_rk hS hkn hL hy i2
      · have n0 : ¬ A 8 k = 0 := by rw [k1]; decide
        have hso : SO z cid (cid k) (cid k + 2) (qV (pb A R t) A k) t.reverse := fun o ho => by
          have ho := List.mem_reverse.mp ho
          obtain ⟨o1, o2, o3, o4⟩ := ht o ho
          obtain ⟨q1, q2, q3, q4, q5, q6, q7, q8, _⟩ := h2.1 o o2
          obtain ⟨s1, s2⟩ := sp_ne hS o2 hkn o3
          obtain ⟨j1, j2, j3, j4⟩ := i1 o ho
          refine ⟨q3, by omega, s1, (s2 ha).2.1, ?_⟩
          rw [j2, j3, q7, c7, ← sub60 (h13 k hkn) (h13 o o2), orN_ne (fun v hv' => v2 o v hv')]
          have ez : idO cid ((pb A R t).2.2 o) = 0 ↔ (pb A R t).2.2 o = none := by
            cases hj : (pb A R t).2.2 o with
            | none => exact ⟨fun _ => rfl, fun _ => rfl⟩
            | some j =>
              refine ⟨fun w => ?_, fun w => by cases w⟩
              have w : cid j = 0 := w
              have jn : j < n := (ht j (pb_jn A R t o j hj)).2.1
              have := hS.1 j jn
              omega
          rw [ez]
          unfold qV
          rw [decide_eq_true_iff, Option.isSome_iff_ne_none]
          exact ⟨fun w => ⟨⟨w.1, w.2.1⟩, w.2.2⟩, fun w => ⟨w.1.1, w.1.2, w.2⟩⟩
        have r := P_reck_nine d z (34 + p) (cid k) (cid k + 2) _ _ _ _ _ _ _ _ h8 hH (c10.trans hv) (c5.trans k1) (h9 _ kc4).1 (h9 _ kc4).2 R C D V h4 hNR num cid k rfl (by omega) (qV (pb A R t) A k) t.reverse r (hlp ▸ h14) hso
        rw [eg, eaw, ehp, ev, i32_ss] at r
        have ew : t.reverse.find? (qV (pb A R t) A k) = wtP (pb A R t) A t k := rfl
        rw [ew] at r
        have r : Rn (d + 5) i_P_reckonCard [.ref (34 + p), .ref (cid k), .int num, .ref 10] z none (if plF A k < 7 then rkz z (cid k) (-100002) (-100002) 0 (cid k) (cid k + 2) (shF (fun h => A 3 (18 * cN A k + h)) (fsN A k) (gfP (pb A R t) A t k) (zI z (cid k + 2)) (lsN A k - fsN A k)) else jz z cid (cid k) (-100002) (hfP (pb A R t) A t R k) (cid k + 2) (shF (fun h => A 3 (18 * cN A k + h)) (fsN A k) (gfP (pb A R t) A t k) (zI z (cid k + 2)) (lsN A k - fsN A k)) (wtP (pb A R t) A t k)) := r
        have e' : pb A R (k :: t) = if plF A k < 7 then pb A R t else jnB (pb A R t) k (hfP (pb A R t) A t R k) (wtP (pb A R t) A t k) := by
          show stP A R (pb A R t) t k = _
          unfold stP
          rw [if_neg (fun w => w hv), if_neg ha, if_neg n0]
        by_cases hp7 : plF A k < 7
        · rw [if_pos hp7] at r e'
          refine ⟨_, r, rk_F z kl _ _ _ _ _ _ (Or.inl rfl) (Or.inr ⟨ha, rfl⟩), ?_, ?_⟩
          · exact RK_fin hS hkn htn (by rw [e', hfr.1]; rfl) (by rw [e', hfr.2.1]; rfl) (by rw [e', hfr.2.2]; rfl) hy' i1 ho1 (same (by rw [e']))
          · exact I2_rk hS hkn hL hy i2
        · rw [if_neg hp7] at r e'
          cases hw : wtP (pb A R t) A t k with
          | none =>
            rw [hw] at r e'
            refine ⟨_, r, rk_F z kl _ _ _ _ _ _ (Or.inl rfl) (Or.inr ⟨ha, rfl⟩), ?_, ?_⟩
            · refine RK_fin hS hkn htn (by rw [e']; show _ = orN ((pb A R t).1 k); rw [hfr.1]; rfl) ?_ (by rw [e']; show _ = idO cid ((pb A R t).2.2 k); rw [hfr.2.2]; rfl) hy' i1 ho1 (same (by rw [e']; rfl))
              rw [e']
              show _ = orN (if k = k then some (hfP (pb A R t) A t R k) else _)
              rw [if_pos rfl]; rfl
            · exact I2_rk hS hkn hL hy i2
          | some o =>
            rw [hw] at r e'
            have om := wtP_mem hw
            have oq : qV (pb A R t) A k o = true := List.find?_some (by unfold wtP at hw; exact hw)
            obtain ⟨hv', ehv⟩ := Option.isSome_iff_exists.mp (of_decide_eq_true oq).1
            obtain ⟨j1, j2, j3, j4⟩ := i1 o om
            refine ⟨_, r, rk_F z kl _ _ _ _ _ _ (Or.inr ⟨o, (ht o om).1, rfl⟩) (Or.inr ⟨ha, rfl⟩), ?_, ?_⟩
            · refine RK_fin hS hkn htn ?_ ?_ ?_ hy' i1 ho1 (fun k' hk' => ?_)
              · rw [e', j2, ehv]
                show _ = orN (if k = k then some (((pb A R t).2.1 o).getD 0 + hfP (pb A R t) A t R k) else _)
                rw [if_pos rfl, ehv]; rfl
              · rw [e']
                show _ = orN (if k = k then some (hfP (pb A R t) A t R k) else _)
                rw [if_pos rfl]; rfl
              · rw [e']
                show _ = idO cid (if k = k then some o else _)
                rw [if_pos rfl]; rfl
              · rw [e']
                show idO cid (if k' = k then some o else if k' = o then some k else (pb A R t).2.2 k') = _
                rw [if_neg (htn k' hk').2]
                by_cases eo : k' = o
                · rw [if_pos eo, if_pos (by rw [eo])]; rfl
                · rw [if_neg eo, if_neg (sp_ne hS (htn k' hk').1 (htn o om).1 eo).1]
            · exact I2_rk hS hkn hL hy i2
    · have r := P_reck_void d z (34 + p) (cid k) (cid k + 2) _ _ _ _ _ _ _ _ h8 hH (by rw [c10]; exact hv) num 10
      rw [eg] at r
      have e' : pb A R (k :: t) = pb A R t := by
        show stP A R (pb A R t) t k = _
        unfold stP
        rw [if_pos hv]
      refine ⟨_, r, rk_F z kl _ _ _ _ _ _ (Or.inl rfl) (Or.inr ⟨ha, rfl⟩), ?_, ?_⟩
      · exact RK_fin hS hkn htn (by rw [e', hfr.1]; rfl) (by rw [e', hfr.2.1]; rfl) (by rw [e', hfr.2.2]; rfl) hy' i1 ho1 (same (by rw [e']))
      · exact I2_rk hS hkn hL hy i2
end XSet
