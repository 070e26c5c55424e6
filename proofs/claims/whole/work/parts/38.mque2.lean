/-! The model's score points match place check count. Own work. -/
def scF (A : Nat → Nat → Int32) (k c : Nat) (g net : Int32) (f : Nat) : Nat → Int32
  | 0 => 0
  | j + 1 => scF A k c g net f j + (A 15 (18 * k + (f + j)) - (if net = 0 then 0 else gvF g (A 3 (18 * c + (f + j)))))
def pt1 (u w : Int32) : Int32 := if u ≤ 0 then 0 else if w ≤ 0 then 0 else w
def ptF (A : Nat → Nat → Int32) (k c : Nat) (g : Int32) (s : Nat) : Nat → Int32
  | 0 => 0
  | m + 1 => ptF A k c g s m + pt1 (A 15 (18 * k + (s + m))) (A 2 (18 * c + (s + m)) + 2 + gvF g (A 3 (18 * c + (s + m))) - A 15 (18 * k + (s + m)))
def pfB (b : Bk) (A : Nat → Nat → Int32) (O : Nat → Nat) (n k c fm : Nat) : Int32 := ptF A k c (gfB b A O n k c) (max fm (fsN A k)) (lsN A k - max fm (fsN A k))
theorem ptF_b {A A' : Nat → Nat → Int32} (h : AgB A A') (k c : Nat) (g : Int32) (f : Nat) : ∀ j, ptF A' k c g f j = ptF A k c g f j
  | 0 => rfl
  | j + 1 => by unfold ptF; rw [ptF_b h k c g f j, h 15 (by decide), h 2 (by decide), h 3 (by decide)]
theorem pfB_b {A A' : Nat → Nat → Int32} (h : AgB A A') (b : Bk) (O : Nat → Nat) (n k c fm : Nat) : pfB b A' O n k c fm = pfB b A O n k c fm := by
  unfold pfB; rw [ptF_b h, gfB_b h, fsN_b h, lsN_b h]
def cmp3 (x y : Int32) : Int32 := if y ≤ x then (if x = y then 0 else 1) else -1
def wnF (u1 s1 u2 s2 : Int32) : Int32 := if u1 < 1 then (if u1 ≤ 0 then (if u2 ≤ 0 then 0 else -1) else 1) else if 1 ≤ u2 then cmp3 (u2 - s2) (u1 - s1) else (if u1 ≤ 0 then (if u2 ≤ 0 then 0 else -1) else 1)
def maF (w : Nat → Int32) : Nat → Int32 → Nat → Int32
  | 0, _, _ => 0
  | m + 1, up, h => if 17 - nI h < up + w h ∨ ¬ -(up + w h) ≤ 17 - nI h then 100 * (up + w h) + (17 - nI h) else maF w m (up + w h) (h + 1)
def frN : Nat → Nat
  | 0 => 0 | 1 => 9 | 2 => 12 | 3 => 15 | _ => 17
def ahS (pa pb : Nat → Int32) (lt : Bool) : Nat → Nat → Bool
  | 0, _ => lt
  | m + 1, k => if pa (frN k) = pb (frN k) then ahS pa pb lt m (k + 1) else decide (¬ pa (frN k) ≤ pb (frN k))
def ckF (due told : Nat → Int32) (n m : Nat) : Nat → Nat → Int32
  | 0, _ => if n ≤ m + 1 then 0 else 99
  | f + 1, i => if n ≤ i then 1 + nI i else if told i = due i then ckF due told n m f (i + 1) else 1 + nI i
section MQ2
variable (d : Nat) (z0 : ZS) (V : Nat → Int32) (A : Nat → Nat → Int32) (n R : Nat)
theorem M_score_bad (hM : MT z0) (k net : Int32) (hb : ¬ (0 ≤ k ∧ k ≤ V 10 - 1)) : Rn (d + 11) i_M_score [.ref 46, .int k, .int net] (mz z0 V A) (some (.int (-100001))) (mz z0 V (cnt A 1)) :=
  rn_i (full := cd_162) hM.1 (ok_n rfl) rfl (fun K hK => hK 0 _ _ _ ⟨_, _, M_isCard _ z0 V A hM _, ⟨fun c2 => ⟨_, _, M_fB _ z0 V A hM, rfl, rfl⟩, fun c2 => absurd (b1_f c2) hb⟩⟩)
theorem M_score_kind (hW : MW z0 V A n R) (k : Nat) (hk : k < n) (net : Int32) (h2 : A 8 k = 2) : Rn (d + 11) i_M_score [.ref 46, .int (nI k), .int net] (mz z0 V A) (some (.int (-100003))) (mz z0 V (cnt A 3)) := by
  obtain ⟨hM, hn, h60, _⟩ := hW
  have vk : vp_in (nI k) 60 := vp_in_nI (by omega) (by decide)
  have ck : (nI k).toNatClampNeg = k := nI_clamp (by omega)
  refine rn_i (full := cd_162) hM.1 (ok_n rfl) rfl (fun K hK => hK 0 _ _ _ ⟨_, _, M_isCard _ z0 V A hM _, ⟨fun c2 => absurd (card_rng hn hk h60) (b1_t c2), fun c2 => ⟨mt_g hM 8 (by decide), ⟨mt_l hM 8 (by decide) vk, ⟨fun c6 => ⟨_, _, M_fK _ z0 V A hM, rfl, rfl⟩, fun c6 => absurd ?_ c6⟩⟩⟩⟩⟩)
  show A 8 (nI k).toNatClampNeg = 2
  rw [ck]; exact h2
theorem M_score_none (hW : MW z0 V A n R) (k c : Nat) (hk : k < n) (hc : c < 4) (hck : A 11 k = nI c) (net : Int32) (h2 : ¬ A 8 k = 2) (hC : CK A k) (j0 : Nat) (hj0 : j0 < lsN A k - fsN A k) (hbad : ¬ 1 ≤ A 15 (18 * k + (fsN A k + j0))) : ∃ (V' : Nat → Int32) (A' : Nat → Nat → Int32), Rn (d + 11) i_M_score [.ref 46, .int (nI k), .int net] (mz z0 V A) (some (.int (-100002))) (mz z0 V' A') ∧ Ag V V' ∧ AgB (cnt A 2) A' := by
  obtain ⟨V1, A1, r, g1, g2, g3, g4⟩ := M_wb d z0 V A n R hW
  obtain ⟨hM, hn, h60, _⟩ := hW
  have vk : vp_in (nI k) 60 := vp_in_nI (by omega) (by decide)
  have ck : (nI k).toNatClampNeg = k := nI_clamp (by omega)
  obtain ⟨V2, A2, r2, q1, q2⟩ := M_givenFor (d + 3) z0 V1 A1 hM n g4 h60 _ _ g3 k c (by omega) hc (by rw [g2 11 (by decide)]; exact hck)
  have g' := AgB_t g2 (AgB_a q2)
  have hC2 := CK_b g' hC
  rw [← fsN_b g', ← lsN_b g'] at hj0
  rw [← fsN_b g', ← g' 15 (by decide)] at hbad
  have hck2 : A2 11 k = nI c := by rw [g' 11 (by decide)]; exact hck
  obtain ⟨h1', h2', h3'⟩ := hC2
  refine ⟨V2, cnt A2 2, rn_i (full := cd_162) hM.1 (ok_n rfl) rfl (fun K hK => hK 0 _ _ _ ⟨_, _, M_isCard _ z0 V A hM _, ⟨fun c2 => absurd (card_rng hn hk h60) (b1_t c2), fun c2 => ⟨mt_g hM 8 (by decide), ⟨mt_l hM 8 (by decide) vk, ⟨fun c6 => absurd ?_ h2, fun c6 => ⟨_, _, r, ⟨_, _, r2, ⟨mt_g hM 12 (by decide), ⟨mt_l hM 12 (by decide) vk, ?_⟩⟩⟩⟩⟩⟩⟩⟩⟩), Ag_t g1 q1, cnt_b g' 2⟩
  · have c6 : A 8 (nI k).toNatClampNeg = 2 := c6
    rw [ck] at c6; exact c6
  · generalize gfB (fB A n R) A1 (oF (A 10) n) n k c = g
    show K 53 [.ref 46, .int (nI k), .int net, .int g, .int 0, .int (A2 12 (nI k).toNatClampNeg)] [] (mz z0 V2 A2)
    rw [ck, h1']
    refine loop_up (P := fun j => ∀ s : Int32, K 53 [.ref 46, .int (nI k), .int net, .int g, .int s, .int (nI (fsN A2 k + j))] [] (mz z0 V2 A2)) j0 (fun j hj ih s => ?_) 0 (by omega) 0
    have vi : vp_in ((18 : Int32) * nI k + nI (fsN A2 k + j)) 1080 := by rw [ix18]; exact vp_in_nI (by omega) (by decide)
    have ci : ((18 : Int32) * nI k + nI (fsN A2 k + j)).toNatClampNeg = 18 * k + (fsN A2 k + j) := by rw [ix18]; exact nI_clamp (by omega)
    have nl : ¬ lastF A2 k ≤ nI (fsN A2 k + j) := by rw [h2']; exact nI_ge (by omega) (by omega)
    have jlt : 1 ≤ A2 15 (18 * k + (fsN A2 k + j)) → j < j0 := fun w => by
      rcases Nat.lt_or_ge j j0 with h | h
      · exact h
      · have : j = j0 := by omega
        rw [this] at w; exact absurd w hbad
    have ga := M_givenAt (d + 8) z0 V2 A2 hM g c (fsN A2 k + j) hc (by omega)
    have ga : Rn (d + 10) i_M_givenAt [.ref 46, .int g, .int (A2 11 (nI k).toNatClampNeg), .int (nI (fsN A2 k + j))] (mz z0 V2 A2) (some (.int (gvF g (A2 3 (18 * c + (fsN A2 k + j)))))) (mz z0 V2 A2) := by rw [ck, hck2]; exact ga
    refine hK 31 _ _ _ ⟨_, _, M_lastOf (d + 9) z0 V2 A2 hM k (by omega), ⟨fun c2 => absurd c2 nl, fun c2 => ⟨mt_g hM 15 (by decide), ⟨mt_l hM 15 (by decide) vi, ⟨fun c5 => ⟨mt_g hM 15 (by decide), ⟨mt_l hM 15 (by decide) vi, ⟨fun c7 => ?_, fun c7 => ⟨mt_g hM 11 (by decide), ⟨mt_l hM 11 (by decide) vk, ⟨_, _, ga, ?_⟩⟩⟩⟩⟩⟩, fun c5 => ⟨_, _, M_fN _ z0 V2 A2 hM, rfl, rfl⟩⟩⟩⟩⟩⟩
    all_goals
      have c5 : 1 ≤ A2 15 ((18 : Int32) * nI k + nI (fsN A2 k + j)).toNatClampNeg := c5
      rw [ci] at c5
      have ih := ih (jlt c5)
      rw [← Nat.add_assoc, nI_succ] at ih
      exact ih _
theorem M_score_ok (hW : MW z0 V A n R) (k c : Nat) (hk : k < n) (hc : c < 4) (hck : A 11 k = nI c) (net : Int32) (h2 : ¬ A 8 k = 2) (hC : CK A k) (hok : ∀ j, j < lsN A k - fsN A k → 1 ≤ A 15 (18 * k + (fsN A k + j))) : ∃ (V' : Nat → Int32) (A' : Nat → Nat → Int32), Rn (d + 11) i_M_score [.ref 46, .int (nI k), .int net] (mz z0 V A) (some (.int (scF A k c (gfB (fB A n R) A (oF (A 10) n) n k c) net (fsN A k) (lsN A k - fsN A k)))) (mz z0 V' A') ∧ Ag V V' ∧ AgB A A' := by
  obtain ⟨V1, A1, r, g1, g2, g3, g4⟩ := M_wb d z0 V A n R hW
  obtain ⟨hM, hn, h60, _⟩ := hW
  have vk : vp_in (nI k) 60 := vp_in_nI (by omega) (by decide)
  have ck : (nI k).toNatClampNeg = k := nI_clamp (by omega)
  obtain ⟨V2, A2, r2, q1, q2⟩ := M_givenFor (d + 3) z0 V1 A1 hM n g4 h60 _ _ g3 k c (by omega) hc (by rw [g2 11 (by decide)]; exact hck)
  rw [gfB_b g2] at r2
  have g' := AgB_t g2 (AgB_a q2)
  have hC2 := CK_b g' hC
  rw [← fsN_b g', ← lsN_b g', ← g' 15 (by decide)] at hok
  have hck2 : A2 11 k = nI c := by rw [g' 11 (by decide)]; exact hck
  have es : ∀ g f j, scF A k c g net f j = scF A2 k c g net f j := by
    intro g f j
    induction j with
    | zero => rfl
    | succ j ih => unfold scF; rw [ih, g' 15 (by decide), g' 3 (by decide)]
  rw [es, ← fsN_b g', ← lsN_b g']
  obtain ⟨h1', h2', h3'⟩ := hC2
  have hfl : fsN A2 k ≤ lsN A2 k := by unfold lsN; omega
  refine ⟨V2, A2, rn_i (full := cd_162) hM.1 (ok_n rfl) rfl (fun K hK => hK 0 _ _ _ ⟨_, _, M_isCard _ z0 V A hM _, ⟨fun c2 => absurd (card_rng hn hk h60) (b1_t c2), fun c2 => ⟨mt_g hM 8 (by decide), ⟨mt_l hM 8 (by decide) vk, ⟨fun c6 => absurd ?_ h2, fun c6 => ⟨_, _, r, ⟨_, _, r2, ⟨mt_g hM 12 (by decide), ⟨mt_l hM 12 (by decide) vk, ?_⟩⟩⟩⟩⟩⟩⟩⟩⟩), Ag_t g1 q1, g'⟩
  · have c6 : A 8 (nI k).toNatClampNeg = 2 := c6
    rw [ck] at c6; exact c6
  · generalize gfB (fB A n R) A (oF (A 10) n) n k c = g at hK ⊢
    show K 53 [.ref 46, .int (nI k), .int net, .int _, .int 0, .int (A2 12 (nI k).toNatClampNeg)] [] (mz z0 V2 A2)
    rw [ck, h1']
    refine loop_up (P := fun j => K 53 [.ref 46, .int (nI k), .int net, .int g, .int (scF A2 k c g net (fsN A2 k) j), .int (nI (fsN A2 k + j))] [] (mz z0 V2 A2)) (lsN A2 k - fsN A2 k) (fun j hj ih => ?_) 0 (by omega)
    by_cases hjl : j < lsN A2 k - fsN A2 k
    · have vi : vp_in ((18 : Int32) * nI k + nI (fsN A2 k + j)) 1080 := by rw [ix18]; exact vp_in_nI (by omega) (by decide)
      have ci : ((18 : Int32) * nI k + nI (fsN A2 k + j)).toNatClampNeg = 18 * k + (fsN A2 k + j) := by rw [ix18]; exact nI_clamp (by omega)
      have nl : ¬ lastF A2 k ≤ nI (fsN A2 k + j) := by rw [h2']; exact nI_ge (by omega) (by omega)
      have ga := M_givenAt (d + 8) z0 V2 A2 hM g c (fsN A2 k + j) hc (by omega)
      have ga : Rn (d + 10) i_M_givenAt [.ref 46, .int g, .int (A2 11 (nI k).toNatClampNeg), .int (nI (fsN A2 k + j))] (mz z0 V2 A2) (some (.int (gvF g (A2 3 (18 * c + (fsN A2 k + j)))))) (mz z0 V2 A2) := by rw [ck, hck2]; exact ga
      have ih := ih hjl
      rw [← Nat.add_assoc, nI_succ] at ih
      have hok := hok j hjl
      refine hK 31 _ _ _ ⟨_, _, M_lastOf (d + 9) z0 V2 A2 hM k (by omega), ⟨fun c2 => absurd c2 nl, fun c2 => ⟨mt_g hM 15 (by decide), ⟨mt_l hM 15 (by decide) vi, ⟨fun c5 => ⟨mt_g hM 15 (by decide), ⟨mt_l hM 15 (by decide) vi, ⟨fun c7 => ?_, fun c7 => ⟨mt_g hM 11 (by decide), ⟨mt_l hM 11 (by decide) vk, ⟨_, _, ga, ?_⟩⟩⟩⟩⟩⟩, fun c5 => absurd ?_ c5⟩⟩⟩⟩⟩
      · show K 53 [.ref 46, .int (nI k), .int net, .int g, .int (scF A2 k c g net (fsN A2 k) j + (A2 15 ((18 : Int32) * nI k + nI (fsN A2 k + j)).toNatClampNeg - 0)), .int (nI (fsN A2 k + j) + 1)] [] (mz z0 V2 A2)
        rw [ci]
        have c7 : net = 0 := c7
        unfold scF at ih
        rw [if_pos c7] at ih
        exact ih
      · show K 53 [.ref 46, .int (nI k), .int net, .int g, .int (scF A2 k c g net (fsN A2 k) j + (A2 15 ((18 : Int32) * nI k + nI (fsN A2 k + j)).toNatClampNeg - gvF g (A2 3 (18 * c + (fsN A2 k + j))))), .int (nI (fsN A2 k + j) + 1)] [] (mz z0 V2 A2)
        rw [ci]
        have c7 : ¬ net = 0 := c7
        unfold scF at ih
        rw [if_neg c7] at ih
        exact ih
      · show 1 ≤ A2 15 ((18 : Int32) * nI k + nI (fsN A2 k + j)).toNatClampNeg
        rw [ci]; exact hok
    · have : j = lsN A2 k - fsN A2 k := by omega
      subst this
      refine hK 31 _ _ _ ⟨_, _, M_lastOf (d + 9) z0 V2 A2 hM k (by omega), ⟨fun c2 => ⟨rfl, rfl⟩, fun c2 => absurd ?_ c2⟩⟩
      show lastF A2 k ≤ nI (fsN A2 k + (lsN A2 k - fsN A2 k))
      rw [h2', show fsN A2 k + (lsN A2 k - fsN A2 k) = lsN A2 k by omega]; exact Int32.le_refl _
theorem M_pointsFrom (hM : MT z0) (hn : V 10 = nI n) (h60 : n ≤ 60) (O : Nat → Nat) (b : Bk) (hB : BR A n O b) (k c fm : Nat) (hk : k < 60) (hc : c < 4) (hck : A 11 k = nI c) (hC : CK A k) (hfm : fm ≤ 18) : ∃ (V' : Nat → Int32) (A' : Nat → Nat → Int32), Rn (d + 8) i_M_pointsFrom [.ref 46, .int (nI k), .int (nI fm)] (mz z0 V A) (some (.int (pfB b A O n k c fm))) (mz z0 V' A') ∧ Ag V V' ∧ AgA A A' := by
  have vk : vp_in (nI k) 60 := vp_in_nI hk (by decide)
  have ck : (nI k).toNatClampNeg = k := nI_clamp (by omega)
  obtain ⟨V1, A1, r1, a1, aa1⟩ := M_givenFor d z0 V A hM n hn h60 O b hB k c hk hc hck
  have ab := AgB_a aa1
  have hC1 := CK_b ab hC
  have e : pfB b A O n k c fm = ptF A1 k c (gfB b A O n k c) (max fm (fsN A1 k)) (lsN A1 k - max fm (fsN A1 k)) := by
    unfold pfB; rw [fsN_b ab, lsN_b ab, ptF_b ab]
  rw [e]
  obtain ⟨h1, h2, h3⟩ := hC1
  have f9 : fsN A1 k ≤ 9 := by unfold fsN; split <;> omega
  have em : (if nI fm < A1 12 (nI k).toNatClampNeg then A1 12 (nI k).toNatClampNeg else nI fm) = nI (max fm (fsN A1 k)) := by
    rw [ck, h1]
    by_cases hl : fm < fsN A1 k
    · rw [if_pos (nI_lt hl (by omega)), Nat.max_eq_right (by omega)]
    · rw [if_neg (nI_nlt (by omega) (by omega)), Nat.max_eq_left (by omega)]
  refine ⟨V1, A1, rn_i (full := cd_163) hM.1 (ok_n rfl) rfl (fun K hK => hK 0 _ _ _ ⟨mt_g hM 11 (by decide), ⟨mt_l hM 11 (by decide) vk, ⟨_, _, r1, ⟨mt_g hM 12 (by decide), ⟨mt_l hM 12 (by decide) vk, ⟨_, _, J_max (d + 6) _ _ _, ?_⟩⟩⟩⟩⟩⟩), a1, aa1⟩
  show K 29 [.ref 46, .int (nI k), .int (nI fm), .int (A 11 (nI k).toNatClampNeg), .int (gfB b A O n k c), .int 0, .int (if nI fm < A1 12 (nI k).toNatClampNeg then A1 12 (nI k).toNatClampNeg else nI fm), .null, .null] [] (mz z0 V1 A1)
  rw [em, ck, hck]
  generalize gfB b A O n k c = g at hK ⊢
  have hs : max fm (fsN A1 k) ≤ 18 := by omega
  generalize max fm (fsN A1 k) = s at hK hs ⊢
  refine loop_up (P := fun j => ∀ v7 v8 : Value, K 29 [.ref 46, .int (nI k), .int (nI fm), .int (nI c), .int g, .int (ptF A1 k c g s j), .int (nI (s + j)), v7, v8] [] (mz z0 V1 A1)) (lsN A1 k - s) (fun j hj ih v7 v8 => ?_) 0 (by omega) .null .null
  by_cases hjl : j < lsN A1 k - s
  · have vi : vp_in ((18 : Int32) * nI k + nI (s + j)) 1080 := by rw [ix18]; exact vp_in_nI (by omega) (by decide)
    have ci : ((18 : Int32) * nI k + nI (s + j)).toNatClampNeg = 18 * k + (s + j) := by rw [ix18]; exact nI_clamp (by omega)
    have vj : vp_in ((18 : Int32) * nI c + nI (s + j)) 72 := by rw [ix18]; exact vp_in_nI (by omega) (by decide)
    have cj : ((18 : Int32) * nI c + nI (s + j)).toNatClampNeg = 18 * c + (s + j) := by rw [ix18]; exact nI_clamp (by omega)
    have nl : ¬ lastF A1 k ≤ nI (s + j) := by rw [h2]; exact nI_ge (by omega) (by omega)
    have ih := ih hjl
    rw [← Nat.add_assoc, nI_succ] at ih
    refine hK 18 _ _ _ ⟨_, _, M_lastOf (d + 6) z0 V1 A1 hM k hk, ⟨fun c2 => absurd c2 nl, fun c2 => ⟨mt_g hM 15 (by decide), ⟨mt_l hM 15 (by decide) vi, ⟨mt_g hM 2 (by decide), ⟨mt_l hM 2 (by decide) vj, ⟨_, _, M_givenAt (d + 5) z0 V1 A1 hM g c (s + j) hc (by omega), ⟨fun c7 => ?_, fun c7 => ⟨fun c9 => ?_, fun c9 => ?_⟩⟩⟩⟩⟩⟩⟩⟩⟩
    · have c7 : A1 15 ((18 : Int32) * nI k + nI (s + j)).toNatClampNeg ≤ 0 := c7
      rw [ci] at c7
      unfold ptF pt1 at ih
      rw [if_pos c7] at ih
      exact ih _ _
    · have c7 : ¬ A1 15 ((18 : Int32) * nI k + nI (s + j)).toNatClampNeg ≤ 0 := c7
      have c9 : A1 2 ((18 : Int32) * nI c + nI (s + j)).toNatClampNeg + 2 + gvF g (A1 3 (18 * c + (s + j))) - A1 15 ((18 : Int32) * nI k + nI (s + j)).toNatClampNeg ≤ 0 := c9
      rw [ci] at c7 c9
      rw [cj] at c9
      unfold ptF pt1 at ih
      rw [if_neg c7, if_pos c9] at ih
      exact ih _ _
    · have c7 : ¬ A1 15 ((18 : Int32) * nI k + nI (s + j)).toNatClampNeg ≤ 0 := c7
      have c9 : ¬ A1 2 ((18 : Int32) * nI c + nI (s + j)).toNatClampNeg + 2 + gvF g (A1 3 (18 * c + (s + j))) - A1 15 ((18 : Int32) * nI k + nI (s + j)).toNatClampNeg ≤ 0 := c9
      rw [ci] at c7 c9
      rw [cj] at c9
      unfold ptF pt1 at ih
      rw [if_neg c7, if_neg c9] at ih
      show K 29 [.ref 46, .int (nI k), .int (nI fm), .int (nI c), .int g, .int (ptF A1 k c g s j + (A1 2 ((18 : Int32) * nI c + nI (s + j)).toNatClampNeg + 2 + gvF g (A1 3 (18 * c + (s + j))) - A1 15 ((18 : Int32) * nI k + nI (s + j)).toNatClampNeg)), .int (nI (s + j) + 1), _, _] [] (mz z0 V1 A1)
      rw [ci, cj]
      exact ih _ _
  · have : j = lsN A1 k - s := by omega
    subst this
    refine hK 18 _ _ _ ⟨_, _, M_lastOf (d + 6) z0 V1 A1 hM k hk, ⟨fun c2 => ⟨rfl, rfl⟩, fun c2 => absurd ?_ c2⟩⟩
    show lastF A1 k ≤ nI (s + (lsN A1 k - s))
    rw [h2]; exact nI_le (by omega) (by omega)
theorem M_points_bad (hM : MT z0) (k : Int32) (hb : ¬ (0 ≤ k ∧ k ≤ V 10 - 1)) : Rn (d + 11) i_M_points [.ref 46, .int k] (mz z0 V A) (some (.int (-100001))) (mz z0 V (cnt A 1)) :=
  rn_i (full := cd_164) hM.1 (ok_n rfl) rfl (fun K hK => hK 0 _ _ _ ⟨_, _, M_isCard _ z0 V A hM _, ⟨fun c2 => ⟨_, _, M_fB _ z0 V A hM, rfl, rfl⟩, fun c2 => absurd (b1_f c2) hb⟩⟩)
theorem M_points_kind (hW : MW z0 V A n R) (k : Nat) (hk : k < n) (h2 : A 8 k = 2) : Rn (d + 11) i_M_points [.ref 46, .int (nI k)] (mz z0 V A) (some (.int (-100003))) (mz z0 V (cnt A 3)) := by
  obtain ⟨hM, hn, h60, _⟩ := hW
  have vk : vp_in (nI k) 60 := vp_in_nI (by omega) (by decide)
  have ck : (nI k).toNatClampNeg = k := nI_clamp (by omega)
  refine rn_i (full := cd_164) hM.1 (ok_n rfl) rfl (fun K hK => hK 0 _ _ _ ⟨_, _, M_isCard _ z0 V A hM _, ⟨fun c2 => absurd (card_rng hn hk h60) (b1_t c2), fun c2 => ⟨mt_g hM 8 (by decide), ⟨mt_l hM 8 (by decide) vk, ⟨fun c6 => ⟨_, _, M_fK _ z0 V A hM, rfl, rfl⟩, fun c6 => absurd ?_ c6⟩⟩⟩⟩⟩)
  show A 8 (nI k).toNatClampNeg = 2
  rw [ck]; exact h2
theorem M_points_ok (hW : MW z0 V A n R) (k c : Nat) (hk : k < n) (hc : c < 4) (hck : A 11 k = nI c) (h2 : ¬ A 8 k = 2) (hC : CK A k) : ∃ (V' : Nat → Int32) (A' : Nat → Nat → Int32), Rn (d + 11) i_M_points [.ref 46, .int (nI k)] (mz z0 V A) (some (.int (pfB (fB A n R) A (oF (A 10) n) n k c 0))) (mz z0 V' A') ∧ Ag V V' ∧ AgB A A' := by
  obtain ⟨V1, A1, r, g1, g2, g3, g4⟩ := M_wb d z0 V A n R hW
  obtain ⟨hM, hn, h60, _⟩ := hW
  have vk : vp_in (nI k) 60 := vp_in_nI (by omega) (by decide)
  have ck : (nI k).toNatClampNeg = k := nI_clamp (by omega)
  obtain ⟨V2, A2, r2, q1, q2⟩ := M_pointsFrom (d + 2) z0 V1 A1 n hM g4 h60 _ _ g3 k c 0 (by omega) hc (by rw [g2 11 (by decide)]; exact hck) (CK_b g2 hC) (by decide)
  rw [pfB_b g2] at r2
  refine ⟨V2, A2, rn_i (full := cd_164) hM.1 (ok_n rfl) rfl (fun K hK => hK 0 _ _ _ ⟨_, _, M_isCard _ z0 V A hM _, ⟨fun c2 => absurd (card_rng hn hk h60) (b1_t c2), fun c2 => ⟨mt_g hM 8 (by decide), ⟨mt_l hM 8 (by decide) vk, ⟨fun c6 => absurd ?_ h2, fun c6 => ⟨_, _, r, ⟨_, _, r2, rfl, rfl⟩⟩⟩⟩⟩⟩⟩), Ag_t g1 q1, AgB_t g2 (AgB_a q2)⟩
  have c6 : A 8 (nI k).toNatClampNeg = 2 := c6
  rw [ck] at c6; exact c6
theorem M_winner (hM : MT z0) (a b c h : Nat) (ha : a < 60) (hb : b < 60) (hc : c < 4) (hh : h < 18) (hca : A 11 a = nI c) (hcb : A 11 b = nI c) (ga gb : Int32) : Rn (d + 3) i_M_winner [.ref 46, .int (nI a), .int ga, .int (nI b), .int gb, .int (nI h)] (mz z0 V A) (some (.int (wnF (A 15 (18 * a + h)) (gvF ga (A 3 (18 * c + h))) (A 15 (18 * b + h)) (gvF gb (A 3 (18 * c + h)))))) (mz z0 V A) := by
  have va : vp_in (nI a) 60 := vp_in_nI ha (by decide)
  have ca : (nI a).toNatClampNeg = a := nI_clamp (by omega)
  have vb : vp_in (nI b) 60 := vp_in_nI hb (by decide)
  have cb : (nI b).toNatClampNeg = b := nI_clamp (by omega)
  have vi : ∀ k, k < 60 → vp_in ((18 : Int32) * nI k + nI h) 1080 := fun k hk => by rw [ix18]; exact vp_in_nI (by omega) (by decide)
  have ci : ∀ k, k < 60 → ((18 : Int32) * nI k + nI h).toNatClampNeg = 18 * k + h := fun k hk => by rw [ix18]; exact nI_clamp (by omega)
  have r1 : Rn (d + 2) i_M_givenAt [.ref 46, .int gb, .int (A 11 (nI b).toNatClampNeg), .int (nI h)] (mz z0 V A) (some (.int (gvF gb (A 3 (18 * c + h))))) (mz z0 V A) := by rw [cb, hcb]; exact M_givenAt d z0 V A hM gb c h hc hh
  have r2 : Rn (d + 2) i_M_givenAt [.ref 46, .int ga, .int (A 11 (nI a).toNatClampNeg), .int (nI h)] (mz z0 V A) (some (.int (gvF ga (A 3 (18 * c + h))))) (mz z0 V A) := by rw [ca, hca]; exact M_givenAt d z0 V A hM ga c h hc hh
  refine rn_i (full := cd_165) hM.1 (ok_n rfl) rfl (fun K hK => hK 0 _ _ _ ⟨mt_g hM 15 (by decide), ⟨mt_l hM 15 (by decide) (vi a ha), ⟨mt_g hM 15 (by decide), ⟨mt_l hM 15 (by decide) (vi b hb), ⟨fun c3 => ⟨fun c4 => ⟨fun c5 => ⟨?_, rfl⟩, fun c5 => ⟨?_, rfl⟩⟩, fun c4 => ⟨?_, rfl⟩⟩,
    fun c3 => ⟨fun c9 => ⟨mt_g hM 11 (by decide), ⟨mt_l hM 11 (by decide) vb, ⟨_, _, r1, ⟨mt_g hM 11 (by decide), ⟨mt_l hM 11 (by decide) va, ⟨_, _, r2, ⟨_, _, N_compare (d + 1) _ _ _, ⟨?_, rfl⟩⟩⟩⟩⟩⟩⟩⟩,
      fun c9 => ⟨fun c16 => ⟨fun c17 => ⟨?_, rfl⟩, fun c17 => ⟨?_, rfl⟩⟩, fun c16 => ⟨?_, rfl⟩⟩⟩⟩⟩⟩⟩⟩)
  all_goals have e1 : A 15 ((18 : Int32) * nI a + nI h).toNatClampNeg = A 15 (18 * a + h) := by rw [ci a ha]
  all_goals have e2 : A 15 ((18 : Int32) * nI b + nI h).toNatClampNeg = A 15 (18 * b + h) := by rw [ci b hb]
  · have c3 : A 15 ((18 : Int32) * nI a + nI h).toNatClampNeg < 1 := c3
    have c4 : A 15 ((18 : Int32) * nI a + nI h).toNatClampNeg ≤ 0 := c4
    have c5 : A 15 ((18 : Int32) * nI b + nI h).toNatClampNeg ≤ 0 := c5
    rw [e1] at c3 c4; rw [e2] at c5
    unfold wnF; rw [if_pos c3, if_pos c4, if_pos c5]
  · have c3 : A 15 ((18 : Int32) * nI a + nI h).toNatClampNeg < 1 := c3
    have c4 : A 15 ((18 : Int32) * nI a + nI h).toNatClampNeg ≤ 0 := c4
    have c5 : ¬ A 15 ((18 : Int32) * nI b + nI h).toNatClampNeg ≤ 0 := c5
    rw [e1] at c3 c4; rw [e2] at c5
    unfold wnF; rw [if_pos c3, if_pos c4, if_neg c5]
  · have c3 : A 15 ((18 : Int32) * nI a + nI h).toNatClampNeg < 1 := c3
    have c4 : ¬ A 15 ((18 : Int32) * nI a + nI h).toNatClampNeg ≤ 0 := c4
    rw [e1] at c3 c4
    unfold wnF; rw [if_pos c3, if_neg c4]
  · have c3 : ¬ A 15 ((18 : Int32) * nI a + nI h).toNatClampNeg < 1 := c3
    have c9 : 1 ≤ A 15 ((18 : Int32) * nI b + nI h).toNatClampNeg := c9
    rw [e1] at c3; rw [e2] at c9
    unfold wnF; rw [if_neg c3, if_pos c9, ← e1, ← e2]; rfl
  · have c3 : ¬ A 15 ((18 : Int32) * nI a + nI h).toNatClampNeg < 1 := c3
    have c9 : ¬ 1 ≤ A 15 ((18 : Int32) * nI b + nI h).toNatClampNeg := c9
    have c16 : A 15 ((18 : Int32) * nI a + nI h).toNatClampNeg ≤ 0 := c16
    have c17 : A 15 ((18 : Int32) * nI b + nI h).toNatClampNeg ≤ 0 := c17
    rw [e1] at c3 c16; rw [e2] at c9 c17
    unfold wnF; rw [if_neg c3, if_neg c9, if_pos c16, if_pos c17]
  · have c3 : ¬ A 15 ((18 : Int32) * nI a + nI h).toNatClampNeg < 1 := c3
    have c9 : ¬ 1 ≤ A 15 ((18 : Int32) * nI b + nI h).toNatClampNeg := c9
    have c16 : A 15 ((18 : Int32) * nI a + nI h).toNatClampNeg ≤ 0 := c16
    have c17 : ¬ A 15 ((18 : Int32) * nI b + nI h).toNatClampNeg ≤ 0 := c17
    rw [e1] at c3 c16; rw [e2] at c9 c17
    unfold wnF; rw [if_neg c3, if_neg c9, if_pos c16, if_neg c17]
  · have c3 : ¬ A 15 ((18 : Int32) * nI a + nI h).toNatClampNeg < 1 := c3
    have c9 : ¬ 1 ≤ A 15 ((18 : Int32) * nI b + nI h).toNatClampNeg := c9
    have c16 : ¬ A 15 ((18 : Int32) * nI a + nI h).toNatClampNeg ≤ 0 := c16
    rw [e1] at c3 c16; rw [e2] at c9
    unfold wnF; rw [if_neg c3, if_neg c9, if_neg c16]
end MQ2
