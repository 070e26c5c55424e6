/-! The simulation, and the class's small helpers within it. Own work. -/
def AZ (z : ZS) : Nat → Nat → Int32 := fun j => zI z (47 + j)
def trw (A : Nat → Nat → Int32) : Nat → Nat → Int32 := fun j => if j < 16 ∧ j ≠ 7 then A j else fun _ => 0
def TA (z : ZS) : Nat → Nat → Int32 := trw (AZ z)
def VZ (z : ZS) : Nat → Int32 := zI z 46
/-- findings, waiting holes, what was told -/
def fzF (A : Nat → Nat → Int32) (i : Nat) : Int32 := if i % 3 = 0 then A 17 (i / 3) else if i % 3 = 1 then A 7 (i / 3) else A 16 (i / 3)
def FZ (z : ZS) : Nat → Int32 := fzF (AZ z)
theorem fzF_e {A A' : Nat → Nat → Int32} (h17 : A' 17 = A 17) (h7 : A' 7 = A 7) (h16 : A' 16 = A 16) : fzF A' = fzF A := by funext i; unfold fzF; rw [h17, h7, h16]
def Sim (z : ZS) (n R : Nat) : Prop := MT z ∧ Cls z (TA z) (FZ z) (VZ z) n R
theorem mz_id (z : ZS) : mz z (VZ z) (AZ z) = z := by
  refine zs_ext rfl rfl rfl rfl (fun a j => ?_) (fun _ _ => rfl)
  show (if a = 46 then zI z 46 j else if 47 ≤ a ∧ a < 75 then zI z (47 + (a - 47)) j else zI z a j) = zI z a j
  by_cases h : a = 46
  · rw [if_pos h, h]
  · rw [if_neg h]
    by_cases h2 : 47 ≤ a ∧ a < 75
    · rw [if_pos h2, show 47 + (a - 47) = a by omega]
    · rw [if_neg h2]
theorem mz_A (z : ZS) (V : Nat → Int32) (A : Nat → Nat → Int32) (j : Nat) (h : j < 28) : AZ (mz z V A) j = A j := by
  funext i
  show (if 47 + j = 46 then V i else if 47 ≤ 47 + j ∧ 47 + j < 75 then A (47 + j - 47) i else zI z (47 + j) i) = A j i
  rw [if_neg (by omega), if_pos (by omega), show 47 + j - 47 = j by omega]
theorem trw_w {A A' : Nat → Nat → Int32} (h : AgW A A') : trw A' = trw A := by
  funext j
  unfold trw
  by_cases e : j < 16 ∧ j ≠ 7
  · rw [if_pos e, if_pos e, h j e]
  · rw [if_neg e, if_neg e]
theorem ta_w (z : ZS) : AgW (TA z) (AZ z) := fun j hj => by unfold TA trw; rw [if_pos hj]
theorem TA_mz (z : ZS) (V : Nat → Int32) (A : Nat → Nat → Int32) : TA (mz z V A) = trw A := by
  unfold TA
  exact trw_w (fun j hj => mz_A z V A j (by omega))
theorem mz_Fr (z : ZS) (V : Nat → Int32) (A : Nat → Nat → Int32) : Fr (fun a _ => 46 ≤ a ∧ a < 75) (fun _ _ => False) z (mz z V A) := by
  refine ⟨Nat.le_refl _, fun _ _ => ⟨rfl, rfl⟩, fun a j _ w => ?_, fun _ _ _ _ => rfl⟩
  show (if a = 46 then V j else if 47 ≤ a ∧ a < 75 then A (a - 47) j else zI z a j) = zI z a j
  rw [if_neg (by omega), if_neg (by omega)]
/-- a frame that touches neither cards nor players -/
theorem Cls_Fr {U : Nat → Nat → Prop} {z z' : ZS} {A : Nat → Nat → Int32} {F V : Nat → Int32} {n R : Nat} (h : Fr U (fun _ _ => False) z z') (hU : ∀ a j, U a j → a = 14 ∨ a = 15 ∨ a = 16 ∨ (46 ≤ a ∧ a < 75)) (hC : Cls z A F V n R) : Cls z' A F V n R := by
  obtain ⟨c1, c2, c3, c4, c5, c6, c7, c8, c9, c10⟩ := hC
  have h75 := c1.1
  have hS := CB_S c7
  have e9 : zP z' 9 = zP z 9 := funext (fun j => h.2.2.2 9 j (by omega) (fun w => w))
  have ui : ∀ a j, a < 46 → a ≠ 14 → a ≠ 15 → a ≠ 16 → zI z' a j = zI z a j := fun a j a1 a2 a3 a4 => h.2.2.1 a j (by omega) (fun w => by have := hU a j w; omega)
  refine ⟨L_CT h (fun a j w q => by have := hU a j w; omega) (fun a j w => w.elim) c1, L_CS h h75 (fun a j w q => by have := hU a j w; omega) (fun a j w => w.elim) c2, L_RG h h75 (fun a j w q => by have := hU a j w; omega) (fun a j w => w.elim) c3, L_RW h h75 (fun a j w q => by have := hU a j w; omega) c4, L_AN h h75 (fun a j w q => by have := hU a j w; omega) c5, ⟨c6.1, c6.2.1, by rw [ui 6 3 (by omega) (by omega) (by omega) (by omega)]; exact c6.2.2⟩, ?_, c8, c9, fun p hp => ?_⟩
  · rw [e9]
    exact L_CB h (fun k hk => by
      have := hS.1 k hk
      exact ⟨fun j _ _ _ _ w => by have := hU _ j w; omega, fun _ j w => by have := hU _ j w; omega, fun _ _ _ _ w => w⟩) c7
  · rw [e9]
    obtain ⟨a1, a2, a3⟩ := c10 p hp
    have lt : ∀ k, k ∈ lpF A n p → zP z 9 k < zn z := fun k hk => by
      have b2 := (c7.1 k ((lpF_mem A n p k).mp hk).1).2.1
      by_cases e : A 8 k = 2
      · rw [if_pos e] at b2; omega
      · rw [if_neg e] at b2; omega
    refine ⟨?_, by rw [ui _ _ (by omega) (by omega) (by omega) (by omega)]; exact a2, fun w => ?_⟩
    · rw [h.2.2.2 _ _ (by omega) (fun w => w)]
      exact LK_F _ _ (fun k hk => h.2.2.2 _ _ (lt k hk) (fun w => w)) a1
    · rw [ui _ _ (by omega) (by omega) (by omega) (by omega)] at w
      refine L_IV h h75 hp c7 (fun k hk => ((lpF_mem A n p k).mp (List.mem_reverse.mp hk)).1) (fun k hk => ?_) (fun w => w) (a3 w)
      have := hS.1 k ((lpF_mem A n p k).mp (List.mem_reverse.mp hk)).1
      exact ⟨fun j w => by have := hU _ j w; omega, fun _ j w => by have := hU _ j w; omega, fun w => w, fun w => w⟩
theorem Cls_V {z : ZS} {A : Nat → Nat → Int32} {F V V' : Nat → Int32} {n R : Nat} (h4 : V' 4 = V 4) (h8 : V' 8 = V 8) (h10 : V' 10 = V 10) (h19 : V' 19 = V 19) (h : Cls z A F V n R) : Cls z A F V' n R := by
  unfold Cls RG RW at h ⊢
  rw [h4, h8, h10, h19]; exact h
theorem q_close {z1 : ZS} {n R : Nat} {V' : Nat → Int32} {A' : Nat → Nat → Int32} (hM : MT z1) (hC : Cls z1 (TA z1) (FZ z1) (VZ z1) n R) (hV : Ag (VZ z1) V') (hA : AgB (AZ z1) A') : Sim (mz z1 V' A') n R := by
  refine ⟨hM, ?_⟩
  rw [TA_mz, show FZ (mz z1 V' A') = fzF A' from fzF_e (mz_A z1 V' A' 17 (by decide)) (mz_A z1 V' A' 7 (by decide)) (mz_A z1 V' A' 16 (by decide)), show VZ (mz z1 V' A') = V' from rfl, trw_w (AgW_b hA), fzF_e (hA 17 (by decide)) (hA 7 (by decide)) (hA 16 (by decide))]
  exact Cls_Fr (mz_Fr z1 V' A') (fun a j w => Or.inr (Or.inr (Or.inr w))) (Cls_V (hV 4 (by decide) (by decide) (by decide)) (hV 8 (by decide) (by decide) (by decide)) (hV 10 (by decide) (by decide) (by decide)) (hV 19 (by decide) (by decide) (by decide)) hC)
theorem f_close {z1 : ZS} {n R j : Nat} {V' : Nat → Int32} {A' : Nat → Nat → Int32} (hM : MT z1) (hC : Cls z1 (TA z1) (upd (FZ z1) (3 * j) (FZ z1 (3 * j) + 1)) (VZ z1) n R) (hV : Ag (VZ z1) V') (hA : AgB (cnt (AZ z1) j) A') : Sim (mz z1 V' A') n R := by
  refine ⟨hM, ?_⟩
  have e17 : fzF A' = upd (FZ z1) (3 * j) (FZ z1 (3 * j) + 1) := by
    funext i
    have o : ∀ q, q < 18 → q ≠ 17 → A' q = AZ z1 q := fun q h1 h2 => by
      rw [hA q h1]
      funext i
      show (if q = 17 ∧ i = j then _ else AZ z1 q i) = _
      rw [if_neg (fun w => h2 w.1)]
    have f0 : FZ z1 (3 * j) = AZ z1 17 j := by
      unfold FZ fzF
      rw [if_pos (by omega), show 3 * j / 3 = j by omega]
    rw [f0]
    unfold fzF upd
    rw [hA 17 (by decide), o 7 (by decide) (by decide), o 16 (by decide) (by decide)]
    by_cases e : i % 3 = 0
    · rw [if_pos e]
      show (if 17 = 17 ∧ i / 3 = j then AZ z1 17 j + 1 else AZ z1 17 (i / 3)) = if i = 3 * j then AZ z1 17 j + 1 else FZ z1 i
      by_cases e2 : i = 3 * j
      · rw [if_pos ⟨rfl, by omega⟩, if_pos e2]
      · rw [if_neg (by omega), if_neg e2]
        unfold FZ fzF
        rw [if_pos e]
    · rw [if_neg e, if_neg (show ¬ i = 3 * j by omega)]
      unfold FZ fzF
      rw [if_neg e]
  have et : trw A' = TA z1 := by
    unfold TA
    refine trw_w (fun q hq => ?_)
    rw [hA q (by omega)]
    funext i
    show (if q = 17 ∧ i = j then _ else AZ z1 q i) = _
    rw [if_neg (by omega)]
  rw [TA_mz, show FZ (mz z1 V' A') = fzF A' from fzF_e (mz_A z1 V' A' 17 (by decide)) (mz_A z1 V' A' 7 (by decide)) (mz_A z1 V' A' 16 (by decide)), show VZ (mz z1 V' A') = V' from rfl, et, e17]
  exact Cls_Fr (mz_Fr z1 V' A') (fun a j w => Or.inr (Or.inr (Or.inr w))) (Cls_V (hV 4 (by decide) (by decide) (by decide)) (hV 8 (by decide) (by decide) (by decide)) (hV 10 (by decide) (by decide) (by decide)) (hV 19 (by decide) (by decide) (by decide)) hC)
theorem Kp_MT {z z' : ZS} (h : Kp z z') (hM : MT z) : MT z' := by
  obtain ⟨h1, h2, h3, h4, h5⟩ := h
  unfold MT
  rw [show tg z' = tg z from h3, show ln z' = ln z from h4]
  exact ⟨hM.1, fun j hj => ⟨(hM.2 j hj).1, (hM.2 j hj).2.1, by rw [(h5 46 _ (by omega) (by omega)).2]; exact (hM.2 j hj).2.2⟩⟩
theorem Kp_AZ {z z' : ZS} (h : Kp z z') (j : Nat) (hj : j < 28) : AZ z' j = AZ z j := funext (fun i => (h.2.2.2.2 (47 + j) i (by omega) (by omega)).1)
theorem Kp_TA {z z' : ZS} (h : Kp z z') : TA z' = TA z := trw_w (fun j hj => Kp_AZ h j (by omega))
theorem Kp_FZ {z z' : ZS} (h : Kp z z') : FZ z' = FZ z := fzF_e (Kp_AZ h 17 (by decide)) (Kp_AZ h 7 (by decide)) (Kp_AZ h 16 (by decide))
theorem Kp_VZ {z z' : ZS} (h : Kp z z') : VZ z' = VZ z := funext (fun i => (h.2.2.2.2 46 i (by omega) (by omega)).1)
/-- one call of both -/
def Op2 (mx mm : Nat) (av : List Value) (z : ZS) : Prop := ∃ (r : Int32) (z1 z2 : ZS) (n' R' : Nat), Rn 12 mx (.ref 6 :: av) z (some (.int r)) z1 ∧ Rn 12 mm (.ref 46 :: av) z1 (some (.int r)) z2 ∧ Sim z2 n' R' ∧ zn z2 ≤ zn z + 3 ∧ zw z2 ≤ zw z + 60
theorem op_q {mx mm : Nat} {av : List Value} {z z1 : ZS} {n R : Nat} {r : Int32} (hM : MT z) (hK : Kp z z1) (hC : Cls z1 (TA z) (FZ z) (VZ z) n R) (rx : Rn 12 mx (.ref 6 :: av) z (some (.int r)) z1) (rm : ∃ (V' : Nat → Int32) (A' : Nat → Nat → Int32), Rn 12 mm (.ref 46 :: av) (mz z1 (VZ z1) (AZ z1)) (some (.int r)) (mz z1 V' A') ∧ Ag (VZ z1) V' ∧ AgB (AZ z1) A') : Op2 mx mm av z := by
  obtain ⟨V', A', rm, hV, hA⟩ := rm
  rw [mz_id] at rm
  refine ⟨r, z1, mz z1 V' A', n, R, rx, rm, q_close (Kp_MT hK hM) ?_ hV hA, ?_, ?_⟩
  · rw [Kp_TA hK, Kp_FZ hK, Kp_VZ hK]; exact hC
  · show z1.1 ≤ z.1 + 3; rw [hK.1]; omega
  · show z1.2.1 ≤ z.2.1 + 60; rw [hK.2.1]; omega
theorem op_f {mx mm : Nat} {av : List Value} {z z1 : ZS} {n R j : Nat} {r : Int32} (hM : MT z) (hK : Kp z z1) (hC : Cls z1 (TA z) (upd (FZ z) (3 * j) (FZ z (3 * j) + 1)) (VZ z) n R) (rx : Rn 12 mx (.ref 6 :: av) z (some (.int r)) z1) (rm : ∃ (V' : Nat → Int32) (A' : Nat → Nat → Int32), Rn 12 mm (.ref 46 :: av) (mz z1 (VZ z1) (AZ z1)) (some (.int r)) (mz z1 V' A') ∧ Ag (VZ z1) V' ∧ AgB (cnt (AZ z1) j) A') : Op2 mx mm av z := by
  obtain ⟨V', A', rm, hV, hA⟩ := rm
  rw [mz_id] at rm
  refine ⟨r, z1, mz z1 V' A', n, R, rx, rm, f_close (j := j) (Kp_MT hK hM) ?_ hV hA, ?_, ?_⟩
  · rw [Kp_TA hK, Kp_FZ hK, Kp_VZ hK]; exact hC
  · show z1.1 ≤ z.1 + 3; rw [hK.1]; omega
  · show z1.2.1 ≤ z.2.1 + 60; rw [hK.2.1]; omega
theorem op_f' {mx mm : Nat} {av : List Value} {z z1 : ZS} {n R j : Nat} {r : Int32} (hM : MT z) (hK : Kp z z1) (hC : Cls z1 (TA z) (upd (FZ z) (3 * j) (FZ z (3 * j) + 1)) (VZ z) n R) (rx : Rn 12 mx (.ref 6 :: av) z (some (.int r)) z1) (rm : Rn 12 mm (.ref 46 :: av) (mz z1 (VZ z1) (AZ z1)) (some (.int r)) (mz z1 (VZ z1) (cnt (AZ z1) j))) : Op2 mx mm av z := op_f hM hK hC rx ⟨_, _, rm, Ag_r _, AgB_r _⟩
theorem op_q' {mx mm : Nat} {av : List Value} {z z1 : ZS} {n R : Nat} {r : Int32} (hM : MT z) (hK : Kp z z1) (hC : Cls z1 (TA z) (FZ z) (VZ z) n R) (rx : Rn 12 mx (.ref 6 :: av) z (some (.int r)) z1) (rm : Rn 12 mm (.ref 46 :: av) (mz z1 (VZ z1) (AZ z1)) (some (.int r)) (mz z1 (VZ z1) (AZ z1))) : Op2 mx mm av z := op_q hM hK hC rx ⟨_, _, rm, Ag_r _, AgB_r _⟩
/-- a finding is counted -/
def rfz (z : ZS) (i : Nat) : ZS := sI z 21 i (zI z 21 i + 1)
theorem Cls_ref {z : ZS} {A : Nat → Nat → Int32} {F V : Nat → Int32} {n R : Nat} (h : Cls z A F V n R) (i : Nat) : Cls (rfz z i) A (upd F (3 * (i + 1)) (F (3 * (i + 1)) + 1)) V n R ∧ Kp z (rfz z i) := by
  obtain ⟨c1, c2, c3, c4, c5, c6, c7, c8, c9, c10⟩ := h
  have h75 := c1.1
  have hS := CB_S c7
  have hF : Fr (fun a _ => a = 21) (fun _ _ => False) z (rfz z i) := ⟨Nat.le_refl _, fun _ _ => ⟨rfl, rfl⟩, fun a j _ w => sI_n (fun q => w q.1), fun _ _ _ _ => rfl⟩
  have ui : ∀ a j, a ≠ 21 → zI (rfz z i) a j = zI z a j := fun a j w => sI_n (fun q => w q.1)
  refine ⟨⟨L_CT hF (fun a j w q => by have w : a = 21 := w; omega) (fun a j w => w.elim) c1, L_CS hF h75 (fun a j w q => by have w : a = 21 := w; omega) (fun a j w => w.elim) c2, L_RG hF h75 (fun a j w q => by have w : a = 21 := w; omega) (fun a j w => w.elim) c3, ?_, fun j hj => ?_, ⟨c6.1, c6.2.1, by rw [ui 6 3 (by omega)]; exact c6.2.2⟩, L_CB hF (fun k hk => by
      have := hS.1 k hk
      exact ⟨fun j _ _ _ _ w => by have w : zP z 9 k = 21 := w; omega, fun _ j w => by have w : zP z 9 k + 1 = 21 := w; omega, fun _ _ _ _ w => w⟩) c7, c8, c9, fun p hp => ?_⟩, rfl, rfl, rfl, rfl, fun a j a1 a2 => ⟨ui a j (by omega), rfl⟩⟩
  · obtain ⟨⟨w, w1, w2, w3, w4⟩, t, u1, u2, u3, u4⟩ := c4
    have o : ∀ q, q % 3 ≠ 0 → upd F (3 * (i + 1)) (F (3 * (i + 1)) + 1) q = F q := fun q hq => by
      unfold upd; rw [if_neg (by omega)]
    refine ⟨⟨w, w1, w2, by rw [ui 17 1 (by omega)]; exact w3, fun j hj => ?_⟩, t, u1, u2, by rw [ui 19 1 (by omega)]; exact u3, fun j hj => ?_⟩
    · rw [o _ (by omega), ui 18 j (by omega)]; exact w4 j hj
    · rw [o _ (by omega), ui 20 j (by omega)]; exact u4 j hj
  · show (if 21 = 21 ∧ j = i then zI z 21 i + 1 else zI z 21 j) = if 3 * (j + 1) = 3 * (i + 1) then F (3 * (i + 1)) + 1 else F (3 * (j + 1))
    by_cases e : j = i
    · rw [if_pos ⟨rfl, e⟩, if_pos (by omega), ← e, c5 j hj]
    · rw [if_neg (fun w => e w.2), if_neg (by omega)]; exact c5 j hj
  · obtain ⟨a1, a2, a3⟩ := c10 p hp
    refine ⟨LK_F (z := z) _ _ (fun _ _ => rfl) a1, by rw [ui _ _ (by omega)]; exact a2, fun w => ?_⟩
    rw [ui _ _ (by omega)] at w
    refine L_IV hF h75 hp c7 (fun k hk => ((lpF_mem A n p k).mp (List.mem_reverse.mp hk)).1) (fun k hk => ?_) (fun w => w) (a3 w)
    have := hS.1 k ((lpF_mem A n p k).mp (List.mem_reverse.mp hk)).1
    exact ⟨fun j w => by have w : zP z 9 k = 21 := w; omega, fun _ j w => by have w : zP z 9 k + 2 = 21 := w; omega, fun w => w, fun w => w⟩
theorem X_refuse (d : Nat) {z : ZS} (hT : CT z) (w : Int32) (i : Nat) (hi : i < 6) (hw : -100001 - w = nI i) (h1 : -100006 ≤ w ∧ w ≤ -100001) : Rn (d + 2) i_X_refuse [.ref 6, .int w] z (some (.int w)) (rfz z i) := by
  have v : vp_in (-100001 - w) (ln z 21) := by rw [hw, hT.2.2.2.2.2.2.2.1.2]; exact vp_in_nI hi (by decide)
  have c : (-100001 - w).toNatClampNeg = i := by rw [hw]; exact nI_clamp (by omega)
  have t6 := hT.2.1
  refine rn_i (full := cd_91) t6.1 (ok_n rfl) rfl (fun K hK => hK 0 _ _ _ ⟨_, _, X_isWithin d z w (-100006) (-100001), ⟨fun c2 => absurd h1 (b1_t c2), fun c2 => ⟨⟨t6.1, t6.2.2.2.2.2.2.2.2⟩, ⟨⟨hT.2.2.2.2.2.2.2.1.1, v⟩, ⟨⟨hT.2.2.2.2.2.2.2.1.1, v⟩, ⟨rfl, ?_⟩⟩⟩⟩⟩⟩)
  show sI z 21 (-100001 - w).toNatClampNeg (zI z 21 (-100001 - w).toNatClampNeg + 1) = _
  rw [c]; rfl
theorem X_rB (d : Nat) {z : ZS} (hT : CT z) : Rn (d + 2) i_X_refuse [.ref 6, .int (-100001)] z (some (.int (-100001))) (rfz z 0) := X_refuse d hT _ 0 (by decide) (by decide) (by decide)
theorem X_rN (d : Nat) {z : ZS} (hT : CT z) : Rn (d + 2) i_X_refuse [.ref 6, .int (-100002)] z (some (.int (-100002))) (rfz z 1) := X_refuse d hT _ 1 (by decide) (by decide) (by decide)
theorem X_rK (d : Nat) {z : ZS} (hT : CT z) : Rn (d + 2) i_X_refuse [.ref 6, .int (-100003)] z (some (.int (-100003))) (rfz z 2) := X_refuse d hT _ 2 (by decide) (by decide) (by decide)
theorem X_rS (d : Nat) {z : ZS} (hT : CT z) : Rn (d + 2) i_X_refuse [.ref 6, .int (-100004)] z (some (.int (-100004))) (rfz z 3) := X_refuse d hT _ 3 (by decide) (by decide) (by decide)
theorem X_rF (d : Nat) {z : ZS} (hT : CT z) : Rn (d + 2) i_X_refuse [.ref 6, .int (-100005)] z (some (.int (-100005))) (rfz z 4) := X_refuse d hT _ 4 (by decide) (by decide) (by decide)
theorem X_rV (d : Nat) {z : ZS} (hT : CT z) : Rn (d + 2) i_X_refuse [.ref 6, .int (-100006)] z (some (.int (-100006))) (rfz z 5) := X_refuse d hT _ 5 (by decide) (by decide) (by decide)
theorem X_orNone_v (d : Nat) {z : ZS} (hT : CT z) (v : Int32) (hv : ¬ v = -100002) : Rn (d + 3) i_X_orNone [.ref 6, .int v] z (some (.int v)) z :=
  rn_i (full := cd_92) hT.2.1.1 (ok_n rfl) rfl (fun K hK => hK 0 _ _ _ ⟨fun c1 => absurd c1 hv, fun c1 => ⟨rfl, rfl⟩⟩)
theorem X_orNone_n (d : Nat) {z : ZS} (hT : CT z) : Rn (d + 3) i_X_orNone [.ref 6, .int (-100002)] z (some (.int (-100002))) (rfz z 1) :=
  rn_i (full := cd_92) hT.2.1.1 (ok_n rfl) rfl (fun K hK => hK 0 _ _ _ ⟨fun c1 => ⟨_, _, X_rN d hT, rfl, rfl⟩, fun c1 => absurd rfl c1⟩)
theorem le_lt (x : Int32) (N : Nat) (hN : N < 2 ^ 31) (h0 : 0 < N) : x ≤ nI (N - 1) ↔ ¬ nI N ≤ x := by
  rw [i32_le, i32_le, nI_toInt (by omega), nI_toInt hN]; omega
theorem X_courseOf_ok (d : Nat) {z : ZS} (hT : CT z) (c : Nat) (hc : c < 4) : Rn (d + 1) i_X_courseOf [.ref 6, .int (nI c)] z (some (.ref (22 + 3 * c))) z := by
  have t6 := hT.2.1
  have t7 := hT.2.2.1
  refine rn_i (full := cd_93) t6.1 (ok_n rfl) rfl (fun K hK => hK 0 _ _ _ ⟨fun c1 => absurd c1 (nI_pos (by omega)), fun c1 => ⟨fun c3 => absurd c3 (nI_ge (b := 4) hc (by decide)), fun c3 => ⟨⟨t6.1, t6.2.1⟩, ⟨⟨t7.1, by rw [t7.2.1]; exact vp_in_nI hc (by decide)⟩, ⟨?_, rfl⟩⟩⟩⟩⟩)
  show some (Value.ref (zP z 7 (nI c).toNatClampNeg)) = _
  rw [nI_clamp (by omega), t7.2.2 c hc]
theorem X_courseOf_no (d : Nat) {z : ZS} (hT : CT z) (c : Int32) (h : ¬ (0 ≤ c ∧ c ≤ 3)) : Rn (d + 1) i_X_courseOf [.ref 6, .int c] z (some (.ref 0)) z :=
  rn_i (full := cd_93) hT.2.1.1 (ok_n rfl) rfl (fun K hK => hK 0 _ _ _ ⟨fun c1 => ⟨rfl, rfl⟩, fun c1 => ⟨fun c3 => ⟨rfl, rfl⟩, fun c3 => absurd ⟨Int32.not_lt.mp c1, (le_lt c 4 (by decide) (by decide)).mpr c3⟩ h⟩⟩)
theorem X_playerOf_ok (d : Nat) {z : ZS} (hT : CT z) (p : Nat) (hp : p < 12) : Rn (d + 1) i_X_playerOf [.ref 6, .int (nI p)] z (some (.ref (34 + p))) z := by
  have t6 := hT.2.1
  have t8 := hT.2.2.2.1
  refine rn_i (full := cd_94) t6.1 (ok_n rfl) rfl (fun K hK => hK 0 _ _ _ ⟨fun c1 => absurd c1 (nI_pos (by omega)), fun c1 => ⟨fun c3 => absurd c3 (nI_ge (b := 12) hp (by decide)), fun c3 => ⟨⟨t6.1, t6.2.2.1⟩, ⟨⟨t8.1, by rw [t8.2.1]; exact vp_in_nI hp (by decide)⟩, ⟨?_, rfl⟩⟩⟩⟩⟩)
  show some (Value.ref (zP z 8 (nI p).toNatClampNeg)) = _
  rw [nI_clamp (by omega), (t8.2.2 p hp).1]
theorem X_playerOf_no (d : Nat) {z : ZS} (hT : CT z) (p : Int32) (h : ¬ (0 ≤ p ∧ p ≤ 11)) : Rn (d + 1) i_X_playerOf [.ref 6, .int p] z (some (.ref 0)) z :=
  rn_i (full := cd_94) hT.2.1.1 (ok_n rfl) rfl (fun K hK => hK 0 _ _ _ ⟨fun c1 => ⟨rfl, rfl⟩, fun c1 => ⟨fun c3 => ⟨rfl, rfl⟩, fun c3 => absurd ⟨Int32.not_lt.mp c1, (le_lt p 12 (by decide) (by decide)).mpr c3⟩ h⟩⟩)
theorem X_cardOf_ok (d : Nat) {z : ZS} (hT : CT z) (n k : Nat) (hn : zI z 6 3 = nI n) (h60 : n ≤ 60) (hk : k < n) : Rn (d + 1) i_X_cardOf [.ref 6, .int (nI k)] z (some (.ref (zP z 9 k))) z := by
  have t6 := hT.2.1
  have t9 := hT.2.2.2.2.1
  refine rn_i (full := cd_95) t6.1 (ok_n rfl) rfl (fun K hK => hK 0 _ _ _ ⟨fun c1 => absurd c1 (nI_pos (by omega)), fun c1 => ⟨t6.1, ⟨fun c4 => absurd ?_ (nI_ge (a := k) (b := n) hk (by omega)), fun c4 => ⟨⟨t6.1, t6.2.2.2.1⟩, ⟨⟨t9.1, by rw [t9.2]; exact vp_in_nI (by omega) (by decide)⟩, ⟨?_, rfl⟩⟩⟩⟩⟩⟩)
  · have c4 : zI z 6 3 ≤ nI k := c4
    rw [hn] at c4; exact c4
  · show some (Value.ref (zP z 9 (nI k).toNatClampNeg)) = _
    rw [nI_clamp (by omega)]
theorem X_cardOf_no (d : Nat) {z : ZS} (hT : CT z) (n : Nat) (hn : zI z 6 3 = nI n) (h60 : n ≤ 60) (k : Int32) (h : ¬ (0 ≤ k ∧ k ≤ nI n - 1)) : Rn (d + 1) i_X_cardOf [.ref 6, .int k] z (some (.ref 0)) z := by
  have t6 := hT.2.1
  refine rn_i (full := cd_95) t6.1 (ok_n rfl) rfl (fun K hK => hK 0 _ _ _ ⟨fun c1 => ⟨rfl, rfl⟩, fun c1 => ⟨t6.1, ⟨fun c4 => ⟨rfl, rfl⟩, fun c4 => absurd ⟨Int32.not_lt.mp c1, ?_⟩ h⟩⟩⟩)
  have c4 : ¬ zI z 6 3 ≤ k := c4
  rw [hn] at c4
  cases n with
  | zero =>
    have c1 := Int32.not_lt.mp c1
    rw [i32_le] at c1 c4
    rw [nI_toInt (by omega)] at c4
    rw [show (0 : Int32).toInt = 0 by decide] at c1
    omega
  | succ n => rw [nI_pred]; exact (le_lt k (n + 1) (by omega) (by omega)).mpr c4
theorem card_in {x : Int32} {n : Nat} (h60 : n ≤ 60) (h : 0 ≤ x ∧ x ≤ nI n - 1) : ∃ k, k < n ∧ x = nI k := by
  cases n with
  | zero =>
    obtain ⟨h1, h2⟩ := h
    rw [i32_le] at h1 h2
    rw [show (nI 0 - 1 : Int32).toInt = -1 by decide] at h2
    rw [show (0 : Int32).toInt = 0 by decide] at h1
    omega
  | succ n =>
    rw [nI_pred] at h
    obtain ⟨j, hj, e⟩ := rng_nI (N := n) (by omega) h
    exact ⟨j, by omega, e⟩
