/-! The law's cases: one call of both. Own work; made by wip/whole/gen/gen82.py -/
def S5 (z : ZS) (L : Nat) : Prop := (5 < zn z ∧ tg z 5 = 3) ∧ ln z 5 = L
theorem S5_t {z z1 : ZS} {L : Nat} (h : S5 z L) (t : t5 z z1) : S5 z1 L ∧ zI z1 5 = zI z 5 := by
  obtain ⟨a, b, c⟩ := t h.1
  exact ⟨⟨a, b.trans h.2⟩, c⟩
theorem S5_v {z : ZS} {L i : Nat} (h : S5 z L) (hi : i + 5 ≤ L) (hL : L ≤ 2560) (j : Nat) (hj : j < 5) : tg z 5 = 3 ∧ vp_in (nI i + nI j) (ln z 5) := ⟨h.1.2, by
  rw [nI_add, h.2]; exact vp_in_nI (by omega) (by omega)⟩
section LawC
variable {K : Zk} {Rt : Option Value → ZS → Prop} {z : ZS} {n R i L : Nat}
set_option maxRecDepth 20000 in
theorem lc_0 (hS : Sim z n R) (h5 : S5 z L) (hi : i + 5 ≤ L) (hL : L ≤ 2560) (nx : ∀ (z2 : ZS) (n2 R2 : Nat), Sim z2 n2 R2 → S5 z2 L → zI z2 5 = zI z 5 → zn z2 ≤ zn z + 3 → zw z2 ≤ zw z + 60 → K 18 [.ref 5, .ref 6, .ref 46, .int (nI i + 5)] [] z2) : wq (Rn 12) cd_174 Rt K 389 (22, [.ref 5, .ref 6, .ref 46, .int (nI i)], [], z) := by
  have v1 : tg z 5 = 3 ∧ vp_in (nI i + 1) (ln z 5) := S5_v h5 hi hL 1 (by decide)
  have v2 : tg z 5 = 3 ∧ vp_in (nI i + 2) (ln z 5) := S5_v h5 hi hL 2 (by decide)
  have v3 : tg z 5 = 3 ∧ vp_in (nI i + 3) (ln z 5) := S5_v h5 hi hL 3 (by decide)
  obtain ⟨r, z1, z2, n2, R2, rx, rm, hS2, hn, hw⟩ := op_course hS (zI z 5 (nI i + 1).toNatClampNeg) (zI z 5 (nI i + 2).toNatClampNeg) (zI z 5 (nI i + 3).toNatClampNeg)
  obtain ⟨g5, g1⟩ := S5_t h5 (rn_5 _ _ _ _ _ _ rx)
  obtain ⟨k5, k1⟩ := S5_t g5 (rn_5 _ _ _ _ _ _ rm)
  have w1 : tg z1 5 = 3 ∧ vp_in (nI i + 1) (ln z1 5) := S5_v g5 hi hL 1 (by decide)
  have w2 : tg z1 5 = 3 ∧ vp_in (nI i + 2) (ln z1 5) := S5_v g5 hi hL 2 (by decide)
  have w3 : tg z1 5 = 3 ∧ vp_in (nI i + 3) (ln z1 5) := S5_v g5 hi hL 3 (by decide)
  have rm1 : Rn 12 i_M_course [.ref 46, .int (zI z1 5 (nI i + 1).toNatClampNeg), .int (zI z1 5 (nI i + 2).toNatClampNeg), .int (zI z1 5 (nI i + 3).toNatClampNeg)] z1 (some (.int r)) z2 := by
    rw [g1]; exact rm
  exact ⟨v1, ⟨v2, ⟨v3, ⟨_, _, rx, ⟨w1, ⟨w2, ⟨w3, ⟨_, _, rm1, ⟨fun _ => nx z2 n2 R2 hS2 k5 (k1.trans g1) hn hw, fun c => absurd rfl c⟩⟩⟩⟩⟩⟩⟩⟩⟩
set_option maxRecDepth 20000 in
theorem lc_1 (hS : Sim z n R) (h5 : S5 z L) (hi : i + 5 ≤ L) (hL : L ≤ 2560) (nx : ∀ (z2 : ZS) (n2 R2 : Nat), Sim z2 n2 R2 → S5 z2 L → zI z2 5 = zI z 5 → zn z2 ≤ zn z + 3 → zw z2 ≤ zw z + 60 → K 18 [.ref 5, .ref 6, .ref 46, .int (nI i + 5)] [] z2) : wq (Rn 12) cd_174 Rt K 389 (59, [.ref 5, .ref 6, .ref 46, .int (nI i)], [], z) := by
  have v1 : tg z 5 = 3 ∧ vp_in (nI i + 1) (ln z 5) := S5_v h5 hi hL 1 (by decide)
  have v2 : tg z 5 = 3 ∧ vp_in (nI i + 2) (ln z 5) := S5_v h5 hi hL 2 (by decide)
  have v3 : tg z 5 = 3 ∧ vp_in (nI i + 3) (ln z 5) := S5_v h5 hi hL 3 (by decide)
  have v4 : tg z 5 = 3 ∧ vp_in (nI i + 4) (ln z 5) := S5_v h5 hi hL 4 (by decide)
  obtain ⟨r, z1, z2, n2, R2, rx, rm, hS2, hn, hw⟩ := op_hole hS (zI z 5 (nI i + 1).toNatClampNeg) (zI z 5 (nI i + 2).toNatClampNeg) (zI z 5 (nI i + 3).toNatClampNeg) (zI z 5 (nI i + 4).toNatClampNeg)
  obtain ⟨g5, g1⟩ := S5_t h5 (rn_5 _ _ _ _ _ _ rx)
  obtain ⟨k5, k1⟩ := S5_t g5 (rn_5 _ _ _ _ _ _ rm)
  have w1 : tg z1 5 = 3 ∧ vp_in (nI i + 1) (ln z1 5) := S5_v g5 hi hL 1 (by decide)
  have w2 : tg z1 5 = 3 ∧ vp_in (nI i + 2) (ln z1 5) := S5_v g5 hi hL 2 (by decide)
  have w3 : tg z1 5 = 3 ∧ vp_in (nI i + 3) (ln z1 5) := S5_v g5 hi hL 3 (by decide)
  have w4 : tg z1 5 = 3 ∧ vp_in (nI i + 4) (ln z1 5) := S5_v g5 hi hL 4 (by decide)
  have rm1 : Rn 12 i_M_hole [.ref 46, .int (zI z1 5 (nI i + 1).toNatClampNeg), .int (zI z1 5 (nI i + 2).toNatClampNeg), .int (zI z1 5 (nI i + 3).toNatClampNeg), .int (zI z1 5 (nI i + 4).toNatClampNeg)] z1 (some (.int r)) z2 := by
    rw [g1]; exact rm
  exact ⟨v1, ⟨v2, ⟨v3, ⟨v4, ⟨_, _, rx, ⟨w1, ⟨w2, ⟨w3, ⟨w4, ⟨_, _, rm1, ⟨fun _ => nx z2 n2 R2 hS2 k5 (k1.trans g1) hn hw, fun c => absurd rfl c⟩⟩⟩⟩⟩⟩⟩⟩⟩⟩⟩
set_option maxRecDepth 20000 in
theorem lc_2 (hS : Sim z n R) (h5 : S5 z L) (hi : i + 5 ≤ L) (hL : L ≤ 2560) (nx : ∀ (z2 : ZS) (n2 R2 : Nat), Sim z2 n2 R2 → S5 z2 L → zI z2 5 = zI z 5 → zn z2 ≤ zn z + 3 → zw z2 ≤ zw z + 60 → K 18 [.ref 5, .ref 6, .ref 46, .int (nI i + 5)] [] z2) : wq (Rn 12) cd_174 Rt K 389 (106, [.ref 5, .ref 6, .ref 46, .int (nI i)], [], z) := by
  have v1 : tg z 5 = 3 ∧ vp_in (nI i + 1) (ln z 5) := S5_v h5 hi hL 1 (by decide)
  have v2 : tg z 5 = 3 ∧ vp_in (nI i + 2) (ln z 5) := S5_v h5 hi hL 2 (by decide)
  have v3 : tg z 5 = 3 ∧ vp_in (nI i + 3) (ln z 5) := S5_v h5 hi hL 3 (by decide)
  obtain ⟨r, z1, z2, n2, R2, rx, rm, hS2, hn, hw⟩ := op_right hS (zI z 5 (nI i + 1).toNatClampNeg) (zI z 5 (nI i + 2).toNatClampNeg) (zI z 5 (nI i + 3).toNatClampNeg)
  obtain ⟨g5, g1⟩ := S5_t h5 (rn_5 _ _ _ _ _ _ rx)
  obtain ⟨k5, k1⟩ := S5_t g5 (rn_5 _ _ _ _ _ _ rm)
  have w1 : tg z1 5 = 3 ∧ vp_in (nI i + 1) (ln z1 5) := S5_v g5 hi hL 1 (by decide)
  have w2 : tg z1 5 = 3 ∧ vp_in (nI i + 2) (ln z1 5) := S5_v g5 hi hL 2 (by decide)
  have w3 : tg z1 5 = 3 ∧ vp_in (nI i + 3) (ln z1 5) := S5_v g5 hi hL 3 (by decide)
  have rm1 : Rn 12 i_M_right [.ref 46, .int (zI z1 5 (nI i + 1).toNatClampNeg), .int (zI z1 5 (nI i + 2).toNatClampNeg), .int (zI z1 5 (nI i + 3).toNatClampNeg)] z1 (some (.int r)) z2 := by
    rw [g1]; exact rm
  exact ⟨v1, ⟨v2, ⟨v3, ⟨_, _, rx, ⟨w1, ⟨w2, ⟨w3, ⟨_, _, rm1, ⟨fun _ => nx z2 n2 R2 hS2 k5 (k1.trans g1) hn hw, fun c => absurd rfl c⟩⟩⟩⟩⟩⟩⟩⟩⟩
set_option maxRecDepth 20000 in
theorem lc_3 (hS : Sim z n R) (h5 : S5 z L) (hi : i + 5 ≤ L) (hL : L ≤ 2560) (nx : ∀ (z2 : ZS) (n2 R2 : Nat), Sim z2 n2 R2 → S5 z2 L → zI z2 5 = zI z 5 → zn z2 ≤ zn z + 3 → zw z2 ≤ zw z + 60 → K 18 [.ref 5, .ref 6, .ref 46, .int (nI i + 5)] [] z2) : wq (Rn 12) cd_174 Rt K 389 (143, [.ref 5, .ref 6, .ref 46, .int (nI i)], [], z) := by
  have v1 : tg z 5 = 3 ∧ vp_in (nI i + 1) (ln z 5) := S5_v h5 hi hL 1 (by decide)
  have v2 : tg z 5 = 3 ∧ vp_in (nI i + 2) (ln z 5) := S5_v h5 hi hL 2 (by decide)
  obtain ⟨r, z1, z2, n2, R2, rx, rm, hS2, hn, hw⟩ := op_about hS (zI z 5 (nI i + 1).toNatClampNeg) (zI z 5 (nI i + 2).toNatClampNeg)
  obtain ⟨g5, g1⟩ := S5_t h5 (rn_5 _ _ _ _ _ _ rx)
  obtain ⟨k5, k1⟩ := S5_t g5 (rn_5 _ _ _ _ _ _ rm)
  have w1 : tg z1 5 = 3 ∧ vp_in (nI i + 1) (ln z1 5) := S5_v g5 hi hL 1 (by decide)
  have w2 : tg z1 5 = 3 ∧ vp_in (nI i + 2) (ln z1 5) := S5_v g5 hi hL 2 (by decide)
  have rm1 : Rn 12 i_M_about [.ref 46, .int (zI z1 5 (nI i + 1).toNatClampNeg), .int (zI z1 5 (nI i + 2).toNatClampNeg)] z1 (some (.int r)) z2 := by
    rw [g1]; exact rm
  exact ⟨v1, ⟨v2, ⟨_, _, rx, ⟨w1, ⟨w2, ⟨_, _, rm1, ⟨fun _ => nx z2 n2 R2 hS2 k5 (k1.trans g1) hn hw, fun c => absurd rfl c⟩⟩⟩⟩⟩⟩⟩
set_option maxRecDepth 20000 in
theorem lc_4 (hS : Sim z n R) (h5 : S5 z L) (hi : i + 5 ≤ L) (hL : L ≤ 2560) (nx : ∀ (z2 : ZS) (n2 R2 : Nat), Sim z2 n2 R2 → S5 z2 L → zI z2 5 = zI z 5 → zn z2 ≤ zn z + 3 → zw z2 ≤ zw z + 60 → K 18 [.ref 5, .ref 6, .ref 46, .int (nI i + 5)] [] z2) : wq (Rn 12) cd_174 Rt K 389 (170, [.ref 5, .ref 6, .ref 46, .int (nI i)], [], z) := by
  have v1 : tg z 5 = 3 ∧ vp_in (nI i + 1) (ln z 5) := S5_v h5 hi hL 1 (by decide)
  have v2 : tg z 5 = 3 ∧ vp_in (nI i + 2) (ln z 5) := S5_v h5 hi hL 2 (by decide)
  have v3 : tg z 5 = 3 ∧ vp_in (nI i + 3) (ln z 5) := S5_v h5 hi hL 3 (by decide)
  obtain ⟨r, z1, z2, n2, R2, rx, rm, hS2, hn, hw⟩ := op_holes hS (((zI z 5 (nI i + 1).toNatClampNeg).toInt64 <<< ((32 : Int32).toInt64 &&& 63)) ||| ((zI z 5 (nI i + 2).toNatClampNeg).toInt64 &&& 4294967295)) (zI z 5 (nI i + 3).toNatClampNeg)
  obtain ⟨g5, g1⟩ := S5_t h5 (rn_5 _ _ _ _ _ _ rx)
  obtain ⟨k5, k1⟩ := S5_t g5 (rn_5 _ _ _ _ _ _ rm)
  have w1 : tg z1 5 = 3 ∧ vp_in (nI i + 1) (ln z1 5) := S5_v g5 hi hL 1 (by decide)
  have w2 : tg z1 5 = 3 ∧ vp_in (nI i + 2) (ln z1 5) := S5_v g5 hi hL 2 (by decide)
  have w3 : tg z1 5 = 3 ∧ vp_in (nI i + 3) (ln z1 5) := S5_v g5 hi hL 3 (by decide)
  have rm1 : Rn 12 i_M_holes [.ref 46, .long (((zI z1 5 (nI i + 1).toNatClampNeg).toInt64 <<< ((32 : Int32).toInt64 &&& 63)) ||| ((zI z1 5 (nI i + 2).toNatClampNeg).toInt64 &&& 4294967295)), .int (zI z1 5 (nI i + 3).toNatClampNeg)] z1 (some (.int r)) z2 := by
    rw [g1]; exact rm
  exact ⟨v1, ⟨v2, ⟨v3, ⟨_, _, rx, ⟨w1, ⟨w2, ⟨w3, ⟨_, _, rm1, ⟨fun _ => nx z2 n2 R2 hS2 k5 (k1.trans g1) hn hw, fun c => absurd rfl c⟩⟩⟩⟩⟩⟩⟩⟩⟩
set_option maxRecDepth 20000 in
theorem lc_5 (hS : Sim z n R) (h5 : S5 z L) (hi : i + 5 ≤ L) (hL : L ≤ 2560) (nx : ∀ (z2 : ZS) (n2 R2 : Nat), Sim z2 n2 R2 → S5 z2 L → zI z2 5 = zI z 5 → zn z2 ≤ zn z + 3 → zw z2 ≤ zw z + 60 → K 18 [.ref 5, .ref 6, .ref 46, .int (nI i + 5)] [] z2) : wq (Rn 12) cd_174 Rt K 389 (221, [.ref 5, .ref 6, .ref 46, .int (nI i)], [], z) := by
  have v1 : tg z 5 = 3 ∧ vp_in (nI i + 1) (ln z 5) := S5_v h5 hi hL 1 (by decide)
  obtain ⟨r, z1, z2, n2, R2, rx, rm, hS2, hn, hw⟩ := op_pickUp hS (zI z 5 (nI i + 1).toNatClampNeg)
  obtain ⟨g5, g1⟩ := S5_t h5 (rn_5 _ _ _ _ _ _ rx)
  obtain ⟨k5, k1⟩ := S5_t g5 (rn_5 _ _ _ _ _ _ rm)
  have w1 : tg z1 5 = 3 ∧ vp_in (nI i + 1) (ln z1 5) := S5_v g5 hi hL 1 (by decide)
  have rm1 : Rn 12 i_M_pickUp [.ref 46, .int (zI z1 5 (nI i + 1).toNatClampNeg)] z1 (some (.int r)) z2 := by
    rw [g1]; exact rm
  exact ⟨v1, ⟨_, _, rx, ⟨w1, ⟨_, _, rm1, ⟨fun _ => nx z2 n2 R2 hS2 k5 (k1.trans g1) hn hw, fun c => absurd rfl c⟩⟩⟩⟩⟩
set_option maxRecDepth 20000 in
theorem lc_6 (hS : Sim z n R) (h5 : S5 z L) (hi : i + 5 ≤ L) (hL : L ≤ 2560) (nx : ∀ (z2 : ZS) (n2 R2 : Nat), Sim z2 n2 R2 → S5 z2 L → zI z2 5 = zI z 5 → zn z2 ≤ zn z + 3 → zw z2 ≤ zw z + 60 → K 18 [.ref 5, .ref 6, .ref 46, .int (nI i + 5)] [] z2) : wq (Rn 12) cd_174 Rt K 389 (238, [.ref 5, .ref 6, .ref 46, .int (nI i)], [], z) := by
  have v1 : tg z 5 = 3 ∧ vp_in (nI i + 1) (ln z 5) := S5_v h5 hi hL 1 (by decide)
  have v2 : tg z 5 = 3 ∧ vp_in (nI i + 2) (ln z 5) := S5_v h5 hi hL 2 (by decide)
  have v3 : tg z 5 = 3 ∧ vp_in (nI i + 3) (ln z 5) := S5_v h5 hi hL 3 (by decide)
  obtain ⟨r, z1, z2, n2, R2, rx, rm, hS2, hn, hw⟩ := op_card hS (zI z 5 (nI i + 1).toNatClampNeg) (zI z 5 (nI i + 2).toNatClampNeg) (zI z 5 (nI i + 3).toNatClampNeg)
  obtain ⟨g5, g1⟩ := S5_t h5 (rn_5 _ _ _ _ _ _ rx)
  obtain ⟨k5, k1⟩ := S5_t g5 (rn_5 _ _ _ _ _ _ rm)
  have w1 : tg z1 5 = 3 ∧ vp_in (nI i + 1) (ln z1 5) := S5_v g5 hi hL 1 (by decide)
  have w2 : tg z1 5 = 3 ∧ vp_in (nI i + 2) (ln z1 5) := S5_v g5 hi hL 2 (by decide)
  have w3 : tg z1 5 = 3 ∧ vp_in (nI i + 3) (ln z1 5) := S5_v g5 hi hL 3 (by decide)
  have rm1 : Rn 12 i_M_card [.ref 46, .int (zI z1 5 (nI i + 1).toNatClampNeg), .int (zI z1 5 (nI i + 2).toNatClampNeg), .int (zI z1 5 (nI i + 3).toNatClampNeg)] z1 (some (.int r)) z2 := by
    rw [g1]; exact rm
  exact ⟨v1, ⟨v2, ⟨v3, ⟨_, _, rx, ⟨w1, ⟨w2, ⟨w3, ⟨_, _, rm1, ⟨fun _ => nx z2 n2 R2 hS2 k5 (k1.trans g1) hn hw, fun c => absurd rfl c⟩⟩⟩⟩⟩⟩⟩⟩⟩
set_option maxRecDepth 20000 in
theorem lc_7 (hS : Sim z n R) (h5 : S5 z L) (hi : i + 5 ≤ L) (hL : L ≤ 2560) (nx : ∀ (z2 : ZS) (n2 R2 : Nat), Sim z2 n2 R2 → S5 z2 L → zI z2 5 = zI z 5 → zn z2 ≤ zn z + 3 → zw z2 ≤ zw z + 60 → K 18 [.ref 5, .ref 6, .ref 46, .int (nI i + 5)] [] z2) : wq (Rn 12) cd_174 Rt K 389 (275, [.ref 5, .ref 6, .ref 46, .int (nI i)], [], z) := by
  have v1 : tg z 5 = 3 ∧ vp_in (nI i + 1) (ln z 5) := S5_v h5 hi hL 1 (by decide)
  have v2 : tg z 5 = 3 ∧ vp_in (nI i + 2) (ln z 5) := S5_v h5 hi hL 2 (by decide)
  have v3 : tg z 5 = 3 ∧ vp_in (nI i + 3) (ln z 5) := S5_v h5 hi hL 3 (by decide)
  have v4 : tg z 5 = 3 ∧ vp_in (nI i + 4) (ln z 5) := S5_v h5 hi hL 4 (by decide)
  by_cases hb : (zI z 5 (nI i + 4).toNatClampNeg) = 0
  · obtain ⟨r, z1, z2, n2, R2, rx, rm, hS2, hn, hw⟩ := op_nine hS (zI z 5 (nI i + 1).toNatClampNeg) (zI z 5 (nI i + 2).toNatClampNeg) (zI z 5 (nI i + 3).toNatClampNeg) 0
    obtain ⟨g5, g1⟩ := S5_t h5 (rn_5 _ _ _ _ _ _ rx)
    obtain ⟨k5, k1⟩ := S5_t g5 (rn_5 _ _ _ _ _ _ rm)
    have w1 : tg z1 5 = 3 ∧ vp_in (nI i + 1) (ln z1 5) := S5_v g5 hi hL 1 (by decide)
    have w2 : tg z1 5 = 3 ∧ vp_in (nI i + 2) (ln z1 5) := S5_v g5 hi hL 2 (by decide)
    have w3 : tg z1 5 = 3 ∧ vp_in (nI i + 3) (ln z1 5) := S5_v g5 hi hL 3 (by decide)
    have w4 : tg z1 5 = 3 ∧ vp_in (nI i + 4) (ln z1 5) := S5_v g5 hi hL 4 (by decide)
    have rm1 : Rn 12 i_M_nine [.ref 46, .int (zI z1 5 (nI i + 1).toNatClampNeg), .int (zI z1 5 (nI i + 2).toNatClampNeg), .int (zI z1 5 (nI i + 3).toNatClampNeg), .int 0] z1 (some (.int r)) z2 := by
      rw [g1]; exact rm
    have hb1 : (zI z1 5 (nI i + 4).toNatClampNeg) = 0 := by rw [g1]; exact hb
    exact ⟨v1, ⟨v2, ⟨v3, ⟨v4, ⟨fun c => ⟨_, _, rx, ⟨w1, ⟨w2, ⟨w3, ⟨w4, ⟨fun c => ⟨_, _, rm1, ⟨fun _ => nx z2 n2 R2 hS2 k5 (k1.trans g1) hn hw, fun c => absurd rfl c⟩⟩, fun c => absurd hb1 c⟩⟩⟩⟩⟩⟩, fun c => absurd hb c⟩⟩⟩⟩⟩
  · obtain ⟨r, z1, z2, n2, R2, rx, rm, hS2, hn, hw⟩ := op_nine hS (zI z 5 (nI i + 1).toNatClampNeg) (zI z 5 (nI i + 2).toNatClampNeg) (zI z 5 (nI i + 3).toNatClampNeg) 1
    obtain ⟨g5, g1⟩ := S5_t h5 (rn_5 _ _ _ _ _ _ rx)
    obtain ⟨k5, k1⟩ := S5_t g5 (rn_5 _ _ _ _ _ _ rm)
    have w1 : tg z1 5 = 3 ∧ vp_in (nI i + 1) (ln z1 5) := S5_v g5 hi hL 1 (by decide)
    have w2 : tg z1 5 = 3 ∧ vp_in (nI i + 2) (ln z1 5) := S5_v g5 hi hL 2 (by decide)
    have w3 : tg z1 5 = 3 ∧ vp_in (nI i + 3) (ln z1 5) := S5_v g5 hi hL 3 (by decide)
    have w4 : tg z1 5 = 3 ∧ vp_in (nI i + 4) (ln z1 5) := S5_v g5 hi hL 4 (by decide)
    have rm1 : Rn 12 i_M_nine [.ref 46, .int (zI z1 5 (nI i + 1).toNatClampNeg), .int (zI z1 5 (nI i + 2).toNatClampNeg), .int (zI z1 5 (nI i + 3).toNatClampNeg), .int 1] z1 (some (.int r)) z2 := by
      rw [g1]; exact rm
    have hb1 : ¬ (zI z1 5 (nI i + 4).toNatClampNeg) = 0 := by rw [g1]; exact hb
    exact ⟨v1, ⟨v2, ⟨v3, ⟨v4, ⟨fun c => absurd c hb, fun c => ⟨_, _, rx, ⟨w1, ⟨w2, ⟨w3, ⟨w4, ⟨fun c => absurd c hb1, fun c => ⟨_, _, rm1, ⟨fun _ => nx z2 n2 R2 hS2 k5 (k1.trans g1) hn hw, fun c => absurd rfl c⟩⟩⟩⟩⟩⟩⟩⟩⟩⟩⟩⟩⟩
set_option maxRecDepth 20000 in
theorem lc_8 (hS : Sim z n R) (h5 : S5 z L) (hi : i + 5 ≤ L) (hL : L ≤ 2560) (nx : ∀ (z2 : ZS) (n2 R2 : Nat), Sim z2 n2 R2 → S5 z2 L → zI z2 5 = zI z 5 → zn z2 ≤ zn z + 3 → zw z2 ≤ zw z + 60 → K 18 [.ref 5, .ref 6, .ref 46, .int (nI i + 5)] [] z2) : wq (Rn 12) cd_174 Rt K 389 (330, [.ref 5, .ref 6, .ref 46, .int (nI i)], [], z) := by
  have v1 : tg z 5 = 3 ∧ vp_in (nI i + 1) (ln z 5) := S5_v h5 hi hL 1 (by decide)
  have v2 : tg z 5 = 3 ∧ vp_in (nI i + 2) (ln z 5) := S5_v h5 hi hL 2 (by decide)
  have v3 : tg z 5 = 3 ∧ vp_in (nI i + 3) (ln z 5) := S5_v h5 hi hL 3 (by decide)
  obtain ⟨r, z1, z2, n2, R2, rx, rm, hS2, hn, hw⟩ := op_away hS (zI z 5 (nI i + 1).toNatClampNeg) (zI z 5 (nI i + 2).toNatClampNeg) (zI z 5 (nI i + 3).toNatClampNeg)
  obtain ⟨g5, g1⟩ := S5_t h5 (rn_5 _ _ _ _ _ _ rx)
  obtain ⟨k5, k1⟩ := S5_t g5 (rn_5 _ _ _ _ _ _ rm)
  have w1 : tg z1 5 = 3 ∧ vp_in (nI i + 1) (ln z1 5) := S5_v g5 hi hL 1 (by decide)
  have w2 : tg z1 5 = 3 ∧ vp_in (nI i + 2) (ln z1 5) := S5_v g5 hi hL 2 (by decide)
  have w3 : tg z1 5 = 3 ∧ vp_in (nI i + 3) (ln z1 5) := S5_v g5 hi hL 3 (by decide)
  have rm1 : Rn 12 i_M_away [.ref 46, .int (zI z1 5 (nI i + 1).toNatClampNeg), .int (zI z1 5 (nI i + 2).toNatClampNeg), .int (zI z1 5 (nI i + 3).toNatClampNeg)] z1 (some (.int r)) z2 := by
    rw [g1]; exact rm
  exact ⟨v1, ⟨v2, ⟨v3, ⟨_, _, rx, ⟨w1, ⟨w2, ⟨w3, ⟨_, _, rm1, ⟨fun _ => nx z2 n2 R2 hS2 k5 (k1.trans g1) hn hw, fun c => absurd rfl c⟩⟩⟩⟩⟩⟩⟩⟩⟩
set_option maxRecDepth 20000 in
theorem lc_9 (hS : Sim z n R) (h5 : S5 z L) (hi : i + 5 ≤ L) (hL : L ≤ 2560) (nx : ∀ (z2 : ZS) (n2 R2 : Nat), Sim z2 n2 R2 → S5 z2 L → zI z2 5 = zI z 5 → zn z2 ≤ zn z + 3 → zw z2 ≤ zw z + 60 → K 18 [.ref 5, .ref 6, .ref 46, .int (nI i + 5)] [] z2) : wq (Rn 12) cd_174 Rt K 389 (367, [.ref 5, .ref 6, .ref 46, .int (nI i)], [], z) := by
  have v1 : tg z 5 = 3 ∧ vp_in (nI i + 1) (ln z 5) := S5_v h5 hi hL 1 (by decide)
  have v2 : tg z 5 = 3 ∧ vp_in (nI i + 2) (ln z 5) := S5_v h5 hi hL 2 (by decide)
  by_cases hb : (zI z 5 (nI i + 2).toNatClampNeg) = 0
  · obtain ⟨r, z1, z2, n2, R2, rx, rm, hS2, hn, hw⟩ := op_strike hS (zI z 5 (nI i + 1).toNatClampNeg) 0 (Or.inl rfl)
    obtain ⟨g5, g1⟩ := S5_t h5 (rn_5 _ _ _ _ _ _ rx)
    obtain ⟨k5, k1⟩ := S5_t g5 (rn_5 _ _ _ _ _ _ rm)
    have w1 : tg z1 5 = 3 ∧ vp_in (nI i + 1) (ln z1 5) := S5_v g5 hi hL 1 (by decide)
    have w2 : tg z1 5 = 3 ∧ vp_in (nI i + 2) (ln z1 5) := S5_v g5 hi hL 2 (by decide)
    have rm1 : Rn 12 i_M_strike [.ref 46, .int (zI z1 5 (nI i + 1).toNatClampNeg), .int 0] z1 (some (.int r)) z2 := by
      rw [g1]; exact rm
    have hb1 : (zI z1 5 (nI i + 2).toNatClampNeg) = 0 := by rw [g1]; exact hb
    exact ⟨v1, ⟨v2, ⟨fun c => ⟨_, _, rx, ⟨w1, ⟨w2, ⟨fun c => ⟨_, _, rm1, ⟨fun _ => nx z2 n2 R2 hS2 k5 (k1.trans g1) hn hw, fun c => absurd rfl c⟩⟩, fun c => absurd hb1 c⟩⟩⟩⟩, fun c => absurd hb c⟩⟩⟩
  · obtain ⟨r, z1, z2, n2, R2, rx, rm, hS2, hn, hw⟩ := op_strike hS (zI z 5 (nI i + 1).toNatClampNeg) 1 (Or.inr rfl)
    obtain ⟨g5, g1⟩ := S5_t h5 (rn_5 _ _ _ _ _ _ rx)
    obtain ⟨k5, k1⟩ := S5_t g5 (rn_5 _ _ _ _ _ _ rm)
    have w1 : tg z1 5 = 3 ∧ vp_in (nI i + 1) (ln z1 5) := S5_v g5 hi hL 1 (by decide)
    have w2 : tg z1 5 = 3 ∧ vp_in (nI i + 2) (ln z1 5) := S5_v g5 hi hL 2 (by decide)
    have rm1 : Rn 12 i_M_strike [.ref 46, .int (zI z1 5 (nI i + 1).toNatClampNeg), .int 1] z1 (some (.int r)) z2 := by
      rw [g1]; exact rm
    have hb1 : ¬ (zI z1 5 (nI i + 2).toNatClampNeg) = 0 := by rw [g1]; exact hb
    exact ⟨v1, ⟨v2, ⟨fun c => absurd c hb, fun c => ⟨_, _, rx, ⟨w1, ⟨w2, ⟨fun c => absurd c hb1, fun c => ⟨_, _, rm1, ⟨fun _ => nx z2 n2 R2 hS2 k5 (k1.trans g1) hn hw, fun c => absurd rfl c⟩⟩⟩⟩⟩⟩⟩⟩⟩
set_option maxRecDepth 20000 in
theorem lc_10 (hS : Sim z n R) (h5 : S5 z L) (hi : i + 5 ≤ L) (hL : L ≤ 2560) (nx : ∀ (z2 : ZS) (n2 R2 : Nat), Sim z2 n2 R2 → S5 z2 L → zI z2 5 = zI z 5 → zn z2 ≤ zn z + 3 → zw z2 ≤ zw z + 60 → K 18 [.ref 5, .ref 6, .ref 46, .int (nI i + 5)] [] z2) : wq (Rn 12) cd_174 Rt K 389 (402, [.ref 5, .ref 6, .ref 46, .int (nI i)], [], z) := by
  have v1 : tg z 5 = 3 ∧ vp_in (nI i + 1) (ln z 5) := S5_v h5 hi hL 1 (by decide)
  have v2 : tg z 5 = 3 ∧ vp_in (nI i + 2) (ln z 5) := S5_v h5 hi hL 2 (by decide)
  obtain ⟨r, z1, z2, n2, R2, rx, rm, hS2, hn, hw⟩ := op_ask hS (zI z 5 (nI i + 1).toNatClampNeg) (zI z 5 (nI i + 2).toNatClampNeg)
  obtain ⟨g5, g1⟩ := S5_t h5 (rn_5 _ _ _ _ _ _ rx)
  obtain ⟨k5, k1⟩ := S5_t g5 (rn_5 _ _ _ _ _ _ rm)
  have w1 : tg z1 5 = 3 ∧ vp_in (nI i + 1) (ln z1 5) := S5_v g5 hi hL 1 (by decide)
  have w2 : tg z1 5 = 3 ∧ vp_in (nI i + 2) (ln z1 5) := S5_v g5 hi hL 2 (by decide)
  have rm1 : Rn 12 i_M_ask [.ref 46, .int (zI z1 5 (nI i + 1).toNatClampNeg), .int (zI z1 5 (nI i + 2).toNatClampNeg)] z1 (some (.int r)) z2 := by
    rw [g1]; exact rm
  exact ⟨v1, ⟨v2, ⟨_, _, rx, ⟨w1, ⟨w2, ⟨_, _, rm1, ⟨fun _ => nx z2 n2 R2 hS2 k5 (k1.trans g1) hn hw, fun c => absurd rfl c⟩⟩⟩⟩⟩⟩⟩
set_option maxRecDepth 20000 in
theorem lc_11 (hS : Sim z n R) (h5 : S5 z L) (hi : i + 5 ≤ L) (hL : L ≤ 2560) (nx : ∀ (z2 : ZS) (n2 R2 : Nat), Sim z2 n2 R2 → S5 z2 L → zI z2 5 = zI z 5 → zn z2 ≤ zn z + 3 → zw z2 ≤ zw z + 60 → K 18 [.ref 5, .ref 6, .ref 46, .int (nI i + 5)] [] z2) : wq (Rn 12) cd_174 Rt K 389 (429, [.ref 5, .ref 6, .ref 46, .int (nI i)], [], z) := by
  have v1 : tg z 5 = 3 ∧ vp_in (nI i + 1) (ln z 5) := S5_v h5 hi hL 1 (by decide)
  have v2 : tg z 5 = 3 ∧ vp_in (nI i + 2) (ln z 5) := S5_v h5 hi hL 2 (by decide)
  obtain ⟨r, z1, z2, n2, R2, rx, rm, hS2, hn, hw⟩ := op_as hS (zI z 5 (nI i + 1).toNatClampNeg) (zI z 5 (nI i + 2).toNatClampNeg)
  obtain ⟨g5, g1⟩ := S5_t h5 (rn_5 _ _ _ _ _ _ rx)
  obtain ⟨k5, k1⟩ := S5_t g5 (rn_5 _ _ _ _ _ _ rm)
  have w1 : tg z1 5 = 3 ∧ vp_in (nI i + 1) (ln z1 5) := S5_v g5 hi hL 1 (by decide)
  have w2 : tg z1 5 = 3 ∧ vp_in (nI i + 2) (ln z1 5) := S5_v g5 hi hL 2 (by decide)
  have rm1 : Rn 12 i_M_as [.ref 46, .int (zI z1 5 (nI i + 1).toNatClampNeg), .int (zI z1 5 (nI i + 2).toNatClampNeg)] z1 (some (.int r)) z2 := by
    rw [g1]; exact rm
  exact ⟨v1, ⟨v2, ⟨_, _, rx, ⟨w1, ⟨w2, ⟨_, _, rm1, ⟨fun _ => nx z2 n2 R2 hS2 k5 (k1.trans g1) hn hw, fun c => absurd rfl c⟩⟩⟩⟩⟩⟩⟩
set_option maxRecDepth 20000 in
theorem lc_12 (hS : Sim z n R) (h5 : S5 z L) (hi : i + 5 ≤ L) (hL : L ≤ 2560) (nx : ∀ (z2 : ZS) (n2 R2 : Nat), Sim z2 n2 R2 → S5 z2 L → zI z2 5 = zI z 5 → zn z2 ≤ zn z + 3 → zw z2 ≤ zw z + 60 → K 18 [.ref 5, .ref 6, .ref 46, .int (nI i + 5)] [] z2) : wq (Rn 12) cd_174 Rt K 389 (456, [.ref 5, .ref 6, .ref 46, .int (nI i)], [], z) := by
  have v1 : tg z 5 = 3 ∧ vp_in (nI i + 1) (ln z 5) := S5_v h5 hi hL 1 (by decide)
  have v2 : tg z 5 = 3 ∧ vp_in (nI i + 2) (ln z 5) := S5_v h5 hi hL 2 (by decide)
  obtain ⟨r, z1, z2, n2, R2, rx, rm, hS2, hn, hw⟩ := op_at hS (zI z 5 (nI i + 1).toNatClampNeg) (zI z 5 (nI i + 2).toNatClampNeg)
  obtain ⟨g5, g1⟩ := S5_t h5 (rn_5 _ _ _ _ _ _ rx)
  obtain ⟨k5, k1⟩ := S5_t g5 (rn_5 _ _ _ _ _ _ rm)
  have w1 : tg z1 5 = 3 ∧ vp_in (nI i + 1) (ln z1 5) := S5_v g5 hi hL 1 (by decide)
  have w2 : tg z1 5 = 3 ∧ vp_in (nI i + 2) (ln z1 5) := S5_v g5 hi hL 2 (by decide)
  have rm1 : Rn 12 i_M_at [.ref 46, .int (zI z1 5 (nI i + 1).toNatClampNeg), .int (zI z1 5 (nI i + 2).toNatClampNeg)] z1 (some (.int r)) z2 := by
    rw [g1]; exact rm
  exact ⟨v1, ⟨v2, ⟨_, _, rx, ⟨w1, ⟨w2, ⟨_, _, rm1, ⟨fun _ => nx z2 n2 R2 hS2 k5 (k1.trans g1) hn hw, fun c => absurd rfl c⟩⟩⟩⟩⟩⟩⟩
set_option maxRecDepth 20000 in
theorem lc_13 (hS : Sim z n R) (h5 : S5 z L) (hi : i + 5 ≤ L) (hL : L ≤ 2560) (nx : ∀ (z2 : ZS) (n2 R2 : Nat), Sim z2 n2 R2 → S5 z2 L → zI z2 5 = zI z 5 → zn z2 ≤ zn z + 3 → zw z2 ≤ zw z + 60 → K 18 [.ref 5, .ref 6, .ref 46, .int (nI i + 5)] [] z2) : wq (Rn 12) cd_174 Rt K 389 (483, [.ref 5, .ref 6, .ref 46, .int (nI i)], [], z) := by
  have v1 : tg z 5 = 3 ∧ vp_in (nI i + 1) (ln z 5) := S5_v h5 hi hL 1 (by decide)
  have v2 : tg z 5 = 3 ∧ vp_in (nI i + 2) (ln z 5) := S5_v h5 hi hL 2 (by decide)
  obtain ⟨r, z1, z2, n2, R2, rx, rm, hS2, hn, hw⟩ := op_adjusted hS (zI z 5 (nI i + 1).toNatClampNeg) (zI z 5 (nI i + 2).toNatClampNeg)
  obtain ⟨g5, g1⟩ := S5_t h5 (rn_5 _ _ _ _ _ _ rx)
  obtain ⟨k5, k1⟩ := S5_t g5 (rn_5 _ _ _ _ _ _ rm)
  have w1 : tg z1 5 = 3 ∧ vp_in (nI i + 1) (ln z1 5) := S5_v g5 hi hL 1 (by decide)
  have w2 : tg z1 5 = 3 ∧ vp_in (nI i + 2) (ln z1 5) := S5_v g5 hi hL 2 (by decide)
  have rm1 : Rn 12 i_M_adjusted [.ref 46, .int (zI z1 5 (nI i + 1).toNatClampNeg), .int (zI z1 5 (nI i + 2).toNatClampNeg)] z1 (some (.int r)) z2 := by
    rw [g1]; exact rm
  exact ⟨v1, ⟨v2, ⟨_, _, rx, ⟨w1, ⟨w2, ⟨_, _, rm1, ⟨fun _ => nx z2 n2 R2 hS2 k5 (k1.trans g1) hn hw, fun c => absurd rfl c⟩⟩⟩⟩⟩⟩⟩
set_option maxRecDepth 20000 in
theorem lc_14 (hS : Sim z n R) (h5 : S5 z L) (hi : i + 5 ≤ L) (hL : L ≤ 2560) (nx : ∀ (z2 : ZS) (n2 R2 : Nat), Sim z2 n2 R2 → S5 z2 L → zI z2 5 = zI z 5 → zn z2 ≤ zn z + 3 → zw z2 ≤ zw z + 60 → K 18 [.ref 5, .ref 6, .ref 46, .int (nI i + 5)] [] z2) : wq (Rn 12) cd_174 Rt K 389 (510, [.ref 5, .ref 6, .ref 46, .int (nI i)], [], z) := by
  have v1 : tg z 5 = 3 ∧ vp_in (nI i + 1) (ln z 5) := S5_v h5 hi hL 1 (by decide)
  obtain ⟨r, z1, z2, n2, R2, rx, rm, hS2, hn, hw⟩ := op_mark hS (zI z 5 (nI i + 1).toNatClampNeg)
  obtain ⟨g5, g1⟩ := S5_t h5 (rn_5 _ _ _ _ _ _ rx)
  obtain ⟨k5, k1⟩ := S5_t g5 (rn_5 _ _ _ _ _ _ rm)
  have w1 : tg z1 5 = 3 ∧ vp_in (nI i + 1) (ln z1 5) := S5_v g5 hi hL 1 (by decide)
  have rm1 : Rn 12 i_M_mark [.ref 46, .int (zI z1 5 (nI i + 1).toNatClampNeg)] z1 (some (.int r)) z2 := by
    rw [g1]; exact rm
  exact ⟨v1, ⟨_, _, rx, ⟨w1, ⟨_, _, rm1, ⟨fun _ => nx z2 n2 R2 hS2 k5 (k1.trans g1) hn hw, fun c => absurd rfl c⟩⟩⟩⟩⟩
set_option maxRecDepth 20000 in
theorem lc_15 (hS : Sim z n R) (h5 : S5 z L) (hi : i + 5 ≤ L) (hL : L ≤ 2560) (nx : ∀ (z2 : ZS) (n2 R2 : Nat), Sim z2 n2 R2 → S5 z2 L → zI z2 5 = zI z 5 → zn z2 ≤ zn z + 3 → zw z2 ≤ zw z + 60 → K 18 [.ref 5, .ref 6, .ref 46, .int (nI i + 5)] [] z2) : wq (Rn 12) cd_174 Rt K 389 (527, [.ref 5, .ref 6, .ref 46, .int (nI i)], [], z) := by
  have v1 : tg z 5 = 3 ∧ vp_in (nI i + 1) (ln z 5) := S5_v h5 hi hL 1 (by decide)
  obtain ⟨r, z1, z2, n2, R2, rx, rm, hS2, hn, hw⟩ := op_half hS (zI z 5 (nI i + 1).toNatClampNeg)
  obtain ⟨g5, g1⟩ := S5_t h5 (rn_5 _ _ _ _ _ _ rx)
  obtain ⟨k5, k1⟩ := S5_t g5 (rn_5 _ _ _ _ _ _ rm)
  have w1 : tg z1 5 = 3 ∧ vp_in (nI i + 1) (ln z1 5) := S5_v g5 hi hL 1 (by decide)
  have rm1 : Rn 12 i_M_half [.ref 46, .int (zI z1 5 (nI i + 1).toNatClampNeg)] z1 (some (.int r)) z2 := by
    rw [g1]; exact rm
  exact ⟨v1, ⟨_, _, rx, ⟨w1, ⟨_, _, rm1, ⟨fun _ => nx z2 n2 R2 hS2 k5 (k1.trans g1) hn hw, fun c => absurd rfl c⟩⟩⟩⟩⟩
set_option maxRecDepth 20000 in
theorem lc_16 (hS : Sim z n R) (h5 : S5 z L) (hi : i + 5 ≤ L) (hL : L ≤ 2560) (nx : ∀ (z2 : ZS) (n2 R2 : Nat), Sim z2 n2 R2 → S5 z2 L → zI z2 5 = zI z 5 → zn z2 ≤ zn z + 3 → zw z2 ≤ zw z + 60 → K 18 [.ref 5, .ref 6, .ref 46, .int (nI i + 5)] [] z2) : wq (Rn 12) cd_174 Rt K 389 (544, [.ref 5, .ref 6, .ref 46, .int (nI i)], [], z) := by
  have v1 : tg z 5 = 3 ∧ vp_in (nI i + 1) (ln z 5) := S5_v h5 hi hL 1 (by decide)
  obtain ⟨r, z1, z2, n2, R2, rx, rm, hS2, hn, hw⟩ := op_joined hS (zI z 5 (nI i + 1).toNatClampNeg)
  obtain ⟨g5, g1⟩ := S5_t h5 (rn_5 _ _ _ _ _ _ rx)
  obtain ⟨k5, k1⟩ := S5_t g5 (rn_5 _ _ _ _ _ _ rm)
  have w1 : tg z1 5 = 3 ∧ vp_in (nI i + 1) (ln z1 5) := S5_v g5 hi hL 1 (by decide)
  have rm1 : Rn 12 i_M_joined [.ref 46, .int (zI z1 5 (nI i + 1).toNatClampNeg)] z1 (some (.int r)) z2 := by
    rw [g1]; exact rm
  exact ⟨v1, ⟨_, _, rx, ⟨w1, ⟨_, _, rm1, ⟨fun _ => nx z2 n2 R2 hS2 k5 (k1.trans g1) hn hw, fun c => absurd rfl c⟩⟩⟩⟩⟩
set_option maxRecDepth 20000 in
theorem lc_17 (hS : Sim z n R) (h5 : S5 z L) (hi : i + 5 ≤ L) (hL : L ≤ 2560) (nx : ∀ (z2 : ZS) (n2 R2 : Nat), Sim z2 n2 R2 → S5 z2 L → zI z2 5 = zI z 5 → zn z2 ≤ zn z + 3 → zw z2 ≤ zw z + 60 → K 18 [.ref 5, .ref 6, .ref 46, .int (nI i + 5)] [] z2) : wq (Rn 12) cd_174 Rt K 389 (561, [.ref 5, .ref 6, .ref 46, .int (nI i)], [], z) := by
  have v1 : tg z 5 = 3 ∧ vp_in (nI i + 1) (ln z 5) := S5_v h5 hi hL 1 (by decide)
  have v2 : tg z 5 = 3 ∧ vp_in (nI i + 2) (ln z 5) := S5_v h5 hi hL 2 (by decide)
  obtain ⟨r, z1, z2, n2, R2, rx, rm, hS2, hn, hw⟩ := op_number hS (zI z 5 (nI i + 1).toNatClampNeg) (zI z 5 (nI i + 2).toNatClampNeg)
  obtain ⟨g5, g1⟩ := S5_t h5 (rn_5 _ _ _ _ _ _ rx)
  obtain ⟨k5, k1⟩ := S5_t g5 (rn_5 _ _ _ _ _ _ rm)
  have w1 : tg z1 5 = 3 ∧ vp_in (nI i + 1) (ln z1 5) := S5_v g5 hi hL 1 (by decide)
  have w2 : tg z1 5 = 3 ∧ vp_in (nI i + 2) (ln z1 5) := S5_v g5 hi hL 2 (by decide)
  have rm1 : Rn 12 i_M_number [.ref 46, .int (zI z1 5 (nI i + 1).toNatClampNeg), .int (zI z1 5 (nI i + 2).toNatClampNeg)] z1 (some (.int r)) z2 := by
    rw [g1]; exact rm
  exact ⟨v1, ⟨v2, ⟨_, _, rx, ⟨w1, ⟨w2, ⟨_, _, rm1, ⟨fun _ => nx z2 n2 R2 hS2 k5 (k1.trans g1) hn hw, fun c => absurd rfl c⟩⟩⟩⟩⟩⟩⟩
set_option maxRecDepth 20000 in
theorem lc_18 (hS : Sim z n R) (h5 : S5 z L) (hi : i + 5 ≤ L) (hL : L ≤ 2560) (nx : ∀ (z2 : ZS) (n2 R2 : Nat), Sim z2 n2 R2 → S5 z2 L → zI z2 5 = zI z 5 → zn z2 ≤ zn z + 3 → zw z2 ≤ zw z + 60 → K 18 [.ref 5, .ref 6, .ref 46, .int (nI i + 5)] [] z2) : wq (Rn 12) cd_174 Rt K 389 (588, [.ref 5, .ref 6, .ref 46, .int (nI i)], [], z) := by
  have v1 : tg z 5 = 3 ∧ vp_in (nI i + 1) (ln z 5) := S5_v h5 hi hL 1 (by decide)
  have v2 : tg z 5 = 3 ∧ vp_in (nI i + 2) (ln z 5) := S5_v h5 hi hL 2 (by decide)
  have v3 : tg z 5 = 3 ∧ vp_in (nI i + 3) (ln z 5) := S5_v h5 hi hL 3 (by decide)
  by_cases hb : (zI z 5 (nI i + 3).toNatClampNeg) = 0
  · obtain ⟨r, z1, z2, n2, R2, rx, rm, hS2, hn, hw⟩ := op_raw hS (zI z 5 (nI i + 1).toNatClampNeg) (zI z 5 (nI i + 2).toNatClampNeg) 0
    obtain ⟨g5, g1⟩ := S5_t h5 (rn_5 _ _ _ _ _ _ rx)
    obtain ⟨k5, k1⟩ := S5_t g5 (rn_5 _ _ _ _ _ _ rm)
    have w1 : tg z1 5 = 3 ∧ vp_in (nI i + 1) (ln z1 5) := S5_v g5 hi hL 1 (by decide)
    have w2 : tg z1 5 = 3 ∧ vp_in (nI i + 2) (ln z1 5) := S5_v g5 hi hL 2 (by decide)
    have w3 : tg z1 5 = 3 ∧ vp_in (nI i + 3) (ln z1 5) := S5_v g5 hi hL 3 (by decide)
    have rm1 : Rn 12 i_M_raw [.ref 46, .int (zI z1 5 (nI i + 1).toNatClampNeg), .int (zI z1 5 (nI i + 2).toNatClampNeg), .int 0] z1 (some (.int r)) z2 := by
      rw [g1]; exact rm
    have hb1 : (zI z1 5 (nI i + 3).toNatClampNeg) = 0 := by rw [g1]; exact hb
    exact ⟨v1, ⟨v2, ⟨v3, ⟨fun c => ⟨_, _, rx, ⟨w1, ⟨w2, ⟨w3, ⟨fun c => ⟨_, _, rm1, ⟨fun _ => nx z2 n2 R2 hS2 k5 (k1.trans g1) hn hw, fun c => absurd rfl c⟩⟩, fun c => absurd hb1 c⟩⟩⟩⟩⟩, fun c => absurd hb c⟩⟩⟩⟩
  · obtain ⟨r, z1, z2, n2, R2, rx, rm, hS2, hn, hw⟩ := op_raw hS (zI z 5 (nI i + 1).toNatClampNeg) (zI z 5 (nI i + 2).toNatClampNeg) 1
    obtain ⟨g5, g1⟩ := S5_t h5 (rn_5 _ _ _ _ _ _ rx)
    obtain ⟨k5, k1⟩ := S5_t g5 (rn_5 _ _ _ _ _ _ rm)
    have w1 : tg z1 5 = 3 ∧ vp_in (nI i + 1) (ln z1 5) := S5_v g5 hi hL 1 (by decide)
    have w2 : tg z1 5 = 3 ∧ vp_in (nI i + 2) (ln z1 5) := S5_v g5 hi hL 2 (by decide)
    have w3 : tg z1 5 = 3 ∧ vp_in (nI i + 3) (ln z1 5) := S5_v g5 hi hL 3 (by decide)
    have rm1 : Rn 12 i_M_raw [.ref 46, .int (zI z1 5 (nI i + 1).toNatClampNeg), .int (zI z1 5 (nI i + 2).toNatClampNeg), .int 1] z1 (some (.int r)) z2 := by
      rw [g1]; exact rm
    have hb1 : ¬ (zI z1 5 (nI i + 3).toNatClampNeg) = 0 := by rw [g1]; exact hb
    exact ⟨v1, ⟨v2, ⟨v3, ⟨fun c => absurd c hb, fun c => ⟨_, _, rx, ⟨w1, ⟨w2, ⟨w3, ⟨fun c => absurd c hb1, fun c => ⟨_, _, rm1, ⟨fun _ => nx z2 n2 R2 hS2 k5 (k1.trans g1) hn hw, fun c => absurd rfl c⟩⟩⟩⟩⟩⟩⟩⟩⟩⟩⟩
set_option maxRecDepth 20000 in
theorem lc_19 (hS : Sim z n R) (h5 : S5 z L) (hi : i + 5 ≤ L) (hL : L ≤ 2560) (nx : ∀ (z2 : ZS) (n2 R2 : Nat), Sim z2 n2 R2 → S5 z2 L → zI z2 5 = zI z 5 → zn z2 ≤ zn z + 3 → zw z2 ≤ zw z + 60 → K 18 [.ref 5, .ref 6, .ref 46, .int (nI i + 5)] [] z2) : wq (Rn 12) cd_174 Rt K 389 (633, [.ref 5, .ref 6, .ref 46, .int (nI i)], [], z) := by
  have v1 : tg z 5 = 3 ∧ vp_in (nI i + 1) (ln z 5) := S5_v h5 hi hL 1 (by decide)
  have v2 : tg z 5 = 3 ∧ vp_in (nI i + 2) (ln z 5) := S5_v h5 hi hL 2 (by decide)
  obtain ⟨r, z1, z2, n2, R2, rx, rm, hS2, hn, hw⟩ := op_last hS (zI z 5 (nI i + 1).toNatClampNeg) (zI z 5 (nI i + 2).toNatClampNeg)
  obtain ⟨g5, g1⟩ := S5_t h5 (rn_5 _ _ _ _ _ _ rx)
  obtain ⟨k5, k1⟩ := S5_t g5 (rn_5 _ _ _ _ _ _ rm)
  have w1 : tg z1 5 = 3 ∧ vp_in (nI i + 1) (ln z1 5) := S5_v g5 hi hL 1 (by decide)
  have w2 : tg z1 5 = 3 ∧ vp_in (nI i + 2) (ln z1 5) := S5_v g5 hi hL 2 (by decide)
  have rm1 : Rn 12 i_M_last [.ref 46, .int (zI z1 5 (nI i + 1).toNatClampNeg), .int (zI z1 5 (nI i + 2).toNatClampNeg)] z1 (some (.int r)) z2 := by
    rw [g1]; exact rm
  exact ⟨v1, ⟨v2, ⟨_, _, rx, ⟨w1, ⟨w2, ⟨_, _, rm1, ⟨fun _ => nx z2 n2 R2 hS2 k5 (k1.trans g1) hn hw, fun c => absurd rfl c⟩⟩⟩⟩⟩⟩⟩
set_option maxRecDepth 20000 in
theorem lc_20 (hS : Sim z n R) (h5 : S5 z L) (hi : i + 5 ≤ L) (hL : L ≤ 2560) (nx : ∀ (z2 : ZS) (n2 R2 : Nat), Sim z2 n2 R2 → S5 z2 L → zI z2 5 = zI z 5 → zn z2 ≤ zn z + 3 → zw z2 ≤ zw z + 60 → K 18 [.ref 5, .ref 6, .ref 46, .int (nI i + 5)] [] z2) : wq (Rn 12) cd_174 Rt K 389 (660, [.ref 5, .ref 6, .ref 46, .int (nI i)], [], z) := by
  have v1 : tg z 5 = 3 ∧ vp_in (nI i + 1) (ln z 5) := S5_v h5 hi hL 1 (by decide)
  have v2 : tg z 5 = 3 ∧ vp_in (nI i + 2) (ln z 5) := S5_v h5 hi hL 2 (by decide)
  have v3 : tg z 5 = 3 ∧ vp_in (nI i + 3) (ln z 5) := S5_v h5 hi hL 3 (by decide)
  obtain ⟨r, z1, z2, n2, R2, rx, rm, hS2, hn, hw⟩ := op_makes hS (zI z 5 (nI i + 1).toNatClampNeg) (zI z 5 (nI i + 2).toNatClampNeg) (zI z 5 (nI i + 3).toNatClampNeg)
  obtain ⟨g5, g1⟩ := S5_t h5 (rn_5 _ _ _ _ _ _ rx)
  obtain ⟨k5, k1⟩ := S5_t g5 (rn_5 _ _ _ _ _ _ rm)
  have w1 : tg z1 5 = 3 ∧ vp_in (nI i + 1) (ln z1 5) := S5_v g5 hi hL 1 (by decide)
  have w2 : tg z1 5 = 3 ∧ vp_in (nI i + 2) (ln z1 5) := S5_v g5 hi hL 2 (by decide)
  have w3 : tg z1 5 = 3 ∧ vp_in (nI i + 3) (ln z1 5) := S5_v g5 hi hL 3 (by decide)
  have rm1 : Rn 12 i_M_makes [.ref 46, .int (zI z1 5 (nI i + 1).toNatClampNeg), .int (zI z1 5 (nI i + 2).toNatClampNeg), .int (zI z1 5 (nI i + 3).toNatClampNeg)] z1 (some (.int r)) z2 := by
    rw [g1]; exact rm
  exact ⟨v1, ⟨v2, ⟨v3, ⟨_, _, rx, ⟨w1, ⟨w2, ⟨w3, ⟨_, _, rm1, ⟨fun _ => nx z2 n2 R2 hS2 k5 (k1.trans g1) hn hw, fun c => absurd rfl c⟩⟩⟩⟩⟩⟩⟩⟩⟩
set_option maxRecDepth 20000 in
theorem lc_21 (hS : Sim z n R) (h5 : S5 z L) (hi : i + 5 ≤ L) (hL : L ≤ 2560) (nx : ∀ (z2 : ZS) (n2 R2 : Nat), Sim z2 n2 R2 → S5 z2 L → zI z2 5 = zI z 5 → zn z2 ≤ zn z + 3 → zw z2 ≤ zw z + 60 → K 18 [.ref 5, .ref 6, .ref 46, .int (nI i + 5)] [] z2) : wq (Rn 12) cd_174 Rt K 389 (697, [.ref 5, .ref 6, .ref 46, .int (nI i)], [], z) := by
  have v1 : tg z 5 = 3 ∧ vp_in (nI i + 1) (ln z 5) := S5_v h5 hi hL 1 (by decide)
  have v2 : tg z 5 = 3 ∧ vp_in (nI i + 2) (ln z 5) := S5_v h5 hi hL 2 (by decide)
  have v3 : tg z 5 = 3 ∧ vp_in (nI i + 3) (ln z 5) := S5_v h5 hi hL 3 (by decide)
  obtain ⟨r, z1, z2, n2, R2, rx, rm, hS2, hn, hw⟩ := op_given hS (zI z 5 (nI i + 1).toNatClampNeg) (zI z 5 (nI i + 2).toNatClampNeg) (zI z 5 (nI i + 3).toNatClampNeg)
  obtain ⟨g5, g1⟩ := S5_t h5 (rn_5 _ _ _ _ _ _ rx)
  obtain ⟨k5, k1⟩ := S5_t g5 (rn_5 _ _ _ _ _ _ rm)
  have w1 : tg z1 5 = 3 ∧ vp_in (nI i + 1) (ln z1 5) := S5_v g5 hi hL 1 (by decide)
  have w2 : tg z1 5 = 3 ∧ vp_in (nI i + 2) (ln z1 5) := S5_v g5 hi hL 2 (by decide)
  have w3 : tg z1 5 = 3 ∧ vp_in (nI i + 3) (ln z1 5) := S5_v g5 hi hL 3 (by decide)
  have rm1 : Rn 12 i_M_given [.ref 46, .int (zI z1 5 (nI i + 1).toNatClampNeg), .int (zI z1 5 (nI i + 2).toNatClampNeg), .int (zI z1 5 (nI i + 3).toNatClampNeg)] z1 (some (.int r)) z2 := by
    rw [g1]; exact rm
  exact ⟨v1, ⟨v2, ⟨v3, ⟨_, _, rx, ⟨w1, ⟨w2, ⟨w3, ⟨_, _, rm1, ⟨fun _ => nx z2 n2 R2 hS2 k5 (k1.trans g1) hn hw, fun c => absurd rfl c⟩⟩⟩⟩⟩⟩⟩⟩⟩
set_option maxRecDepth 20000 in
theorem lc_22 (hS : Sim z n R) (h5 : S5 z L) (hi : i + 5 ≤ L) (hL : L ≤ 2560) (nx : ∀ (z2 : ZS) (n2 R2 : Nat), Sim z2 n2 R2 → S5 z2 L → zI z2 5 = zI z 5 → zn z2 ≤ zn z + 3 → zw z2 ≤ zw z + 60 → K 18 [.ref 5, .ref 6, .ref 46, .int (nI i + 5)] [] z2) : wq (Rn 12) cd_174 Rt K 389 (734, [.ref 5, .ref 6, .ref 46, .int (nI i)], [], z) := by
  have v1 : tg z 5 = 3 ∧ vp_in (nI i + 1) (ln z 5) := S5_v h5 hi hL 1 (by decide)
  have v2 : tg z 5 = 3 ∧ vp_in (nI i + 2) (ln z 5) := S5_v h5 hi hL 2 (by decide)
  have v3 : tg z 5 = 3 ∧ vp_in (nI i + 3) (ln z 5) := S5_v h5 hi hL 3 (by decide)
  obtain ⟨r, z1, z2, n2, R2, rx, rm, hS2, hn, hw⟩ := op_strokes hS (zI z 5 (nI i + 1).toNatClampNeg) (zI z 5 (nI i + 2).toNatClampNeg) (zI z 5 (nI i + 3).toNatClampNeg)
  obtain ⟨g5, g1⟩ := S5_t h5 (rn_5 _ _ _ _ _ _ rx)
  obtain ⟨k5, k1⟩ := S5_t g5 (rn_5 _ _ _ _ _ _ rm)
  have w1 : tg z1 5 = 3 ∧ vp_in (nI i + 1) (ln z1 5) := S5_v g5 hi hL 1 (by decide)
  have w2 : tg z1 5 = 3 ∧ vp_in (nI i + 2) (ln z1 5) := S5_v g5 hi hL 2 (by decide)
  have w3 : tg z1 5 = 3 ∧ vp_in (nI i + 3) (ln z1 5) := S5_v g5 hi hL 3 (by decide)
  have rm1 : Rn 12 i_M_strokes [.ref 46, .int (zI z1 5 (nI i + 1).toNatClampNeg), .int (zI z1 5 (nI i + 2).toNatClampNeg), .int (zI z1 5 (nI i + 3).toNatClampNeg)] z1 (some (.int r)) z2 := by
    rw [g1]; exact rm
  exact ⟨v1, ⟨v2, ⟨v3, ⟨_, _, rx, ⟨w1, ⟨w2, ⟨w3, ⟨_, _, rm1, ⟨fun _ => nx z2 n2 R2 hS2 k5 (k1.trans g1) hn hw, fun c => absurd rfl c⟩⟩⟩⟩⟩⟩⟩⟩⟩
set_option maxRecDepth 20000 in
theorem lc_23 (hS : Sim z n R) (h5 : S5 z L) (hi : i + 5 ≤ L) (hL : L ≤ 2560) (nx : ∀ (z2 : ZS) (n2 R2 : Nat), Sim z2 n2 R2 → S5 z2 L → zI z2 5 = zI z 5 → zn z2 ≤ zn z + 3 → zw z2 ≤ zw z + 60 → K 18 [.ref 5, .ref 6, .ref 46, .int (nI i + 5)] [] z2) : wq (Rn 12) cd_174 Rt K 389 (771, [.ref 5, .ref 6, .ref 46, .int (nI i)], [], z) := by
  have v1 : tg z 5 = 3 ∧ vp_in (nI i + 1) (ln z 5) := S5_v h5 hi hL 1 (by decide)
  have v2 : tg z 5 = 3 ∧ vp_in (nI i + 2) (ln z 5) := S5_v h5 hi hL 2 (by decide)
  by_cases hb : (zI z 5 (nI i + 2).toNatClampNeg) = 0
  · obtain ⟨r, z1, z2, n2, R2, rx, rm, hS2, hn, hw⟩ := op_score hS (zI z 5 (nI i + 1).toNatClampNeg) 0
    obtain ⟨g5, g1⟩ := S5_t h5 (rn_5 _ _ _ _ _ _ rx)
    obtain ⟨k5, k1⟩ := S5_t g5 (rn_5 _ _ _ _ _ _ rm)
    have w1 : tg z1 5 = 3 ∧ vp_in (nI i + 1) (ln z1 5) := S5_v g5 hi hL 1 (by decide)
    have w2 : tg z1 5 = 3 ∧ vp_in (nI i + 2) (ln z1 5) := S5_v g5 hi hL 2 (by decide)
    have rm1 : Rn 12 i_M_score [.ref 46, .int (zI z1 5 (nI i + 1).toNatClampNeg), .int 0] z1 (some (.int r)) z2 := by
      rw [g1]; exact rm
    have hb1 : (zI z1 5 (nI i + 2).toNatClampNeg) = 0 := by rw [g1]; exact hb
    exact ⟨v1, ⟨v2, ⟨fun c => ⟨_, _, rx, ⟨w1, ⟨w2, ⟨fun c => ⟨_, _, rm1, ⟨fun _ => nx z2 n2 R2 hS2 k5 (k1.trans g1) hn hw, fun c => absurd rfl c⟩⟩, fun c => absurd hb1 c⟩⟩⟩⟩, fun c => absurd hb c⟩⟩⟩
  · obtain ⟨r, z1, z2, n2, R2, rx, rm, hS2, hn, hw⟩ := op_score hS (zI z 5 (nI i + 1).toNatClampNeg) 1
    obtain ⟨g5, g1⟩ := S5_t h5 (rn_5 _ _ _ _ _ _ rx)
    obtain ⟨k5, k1⟩ := S5_t g5 (rn_5 _ _ _ _ _ _ rm)
    have w1 : tg z1 5 = 3 ∧ vp_in (nI i + 1) (ln z1 5) := S5_v g5 hi hL 1 (by decide)
    have w2 : tg z1 5 = 3 ∧ vp_in (nI i + 2) (ln z1 5) := S5_v g5 hi hL 2 (by decide)
    have rm1 : Rn 12 i_M_score [.ref 46, .int (zI z1 5 (nI i + 1).toNatClampNeg), .int 1] z1 (some (.int r)) z2 := by
      rw [g1]; exact rm
    have hb1 : ¬ (zI z1 5 (nI i + 2).toNatClampNeg) = 0 := by rw [g1]; exact hb
    exact ⟨v1, ⟨v2, ⟨fun c => absurd c hb, fun c => ⟨_, _, rx, ⟨w1, ⟨w2, ⟨fun c => absurd c hb1, fun c => ⟨_, _, rm1, ⟨fun _ => nx z2 n2 R2 hS2 k5 (k1.trans g1) hn hw, fun c => absurd rfl c⟩⟩⟩⟩⟩⟩⟩⟩⟩
set_option maxRecDepth 20000 in
theorem lc_24 (hS : Sim z n R) (h5 : S5 z L) (hi : i + 5 ≤ L) (hL : L ≤ 2560) (nx : ∀ (z2 : ZS) (n2 R2 : Nat), Sim z2 n2 R2 → S5 z2 L → zI z2 5 = zI z 5 → zn z2 ≤ zn z + 3 → zw z2 ≤ zw z + 60 → K 18 [.ref 5, .ref 6, .ref 46, .int (nI i + 5)] [] z2) : wq (Rn 12) cd_174 Rt K 389 (806, [.ref 5, .ref 6, .ref 46, .int (nI i)], [], z) := by
  have v1 : tg z 5 = 3 ∧ vp_in (nI i + 1) (ln z 5) := S5_v h5 hi hL 1 (by decide)
  obtain ⟨r, z1, z2, n2, R2, rx, rm, hS2, hn, hw⟩ := op_points hS (zI z 5 (nI i + 1).toNatClampNeg)
  obtain ⟨g5, g1⟩ := S5_t h5 (rn_5 _ _ _ _ _ _ rx)
  obtain ⟨k5, k1⟩ := S5_t g5 (rn_5 _ _ _ _ _ _ rm)
  have w1 : tg z1 5 = 3 ∧ vp_in (nI i + 1) (ln z1 5) := S5_v g5 hi hL 1 (by decide)
  have rm1 : Rn 12 i_M_points [.ref 46, .int (zI z1 5 (nI i + 1).toNatClampNeg)] z1 (some (.int r)) z2 := by
    rw [g1]; exact rm
  exact ⟨v1, ⟨_, _, rx, ⟨w1, ⟨_, _, rm1, ⟨fun _ => nx z2 n2 R2 hS2 k5 (k1.trans g1) hn hw, fun c => absurd rfl c⟩⟩⟩⟩⟩
set_option maxRecDepth 20000 in
theorem lc_25 (hS : Sim z n R) (h5 : S5 z L) (hi : i + 5 ≤ L) (hL : L ≤ 2560) (nx : ∀ (z2 : ZS) (n2 R2 : Nat), Sim z2 n2 R2 → S5 z2 L → zI z2 5 = zI z 5 → zn z2 ≤ zn z + 3 → zw z2 ≤ zw z + 60 → K 18 [.ref 5, .ref 6, .ref 46, .int (nI i + 5)] [] z2) : wq (Rn 12) cd_174 Rt K 389 (823, [.ref 5, .ref 6, .ref 46, .int (nI i)], [], z) := by
  have v1 : tg z 5 = 3 ∧ vp_in (nI i + 1) (ln z 5) := S5_v h5 hi hL 1 (by decide)
  have v2 : tg z 5 = 3 ∧ vp_in (nI i + 2) (ln z 5) := S5_v h5 hi hL 2 (by decide)
  obtain ⟨r, z1, z2, n2, R2, rx, rm, hS2, hn, hw⟩ := op_match hS (zI z 5 (nI i + 1).toNatClampNeg) (zI z 5 (nI i + 2).toNatClampNeg)
  obtain ⟨g5, g1⟩ := S5_t h5 (rn_5 _ _ _ _ _ _ rx)
  obtain ⟨k5, k1⟩ := S5_t g5 (rn_5 _ _ _ _ _ _ rm)
  have w1 : tg z1 5 = 3 ∧ vp_in (nI i + 1) (ln z1 5) := S5_v g5 hi hL 1 (by decide)
  have w2 : tg z1 5 = 3 ∧ vp_in (nI i + 2) (ln z1 5) := S5_v g5 hi hL 2 (by decide)
  have rm1 : Rn 12 i_M_match [.ref 46, .int (zI z1 5 (nI i + 1).toNatClampNeg), .int (zI z1 5 (nI i + 2).toNatClampNeg)] z1 (some (.int r)) z2 := by
    rw [g1]; exact rm
  exact ⟨v1, ⟨v2, ⟨_, _, rx, ⟨w1, ⟨w2, ⟨_, _, rm1, ⟨fun _ => nx z2 n2 R2 hS2 k5 (k1.trans g1) hn hw, fun c => absurd rfl c⟩⟩⟩⟩⟩⟩⟩
set_option maxRecDepth 20000 in
theorem lc_26 (hS : Sim z n R) (h5 : S5 z L) (hi : i + 5 ≤ L) (hL : L ≤ 2560) (nx : ∀ (z2 : ZS) (n2 R2 : Nat), Sim z2 n2 R2 → S5 z2 L → zI z2 5 = zI z 5 → zn z2 ≤ zn z + 3 → zw z2 ≤ zw z + 60 → K 18 [.ref 5, .ref 6, .ref 46, .int (nI i + 5)] [] z2) : wq (Rn 12) cd_174 Rt K 389 (850, [.ref 5, .ref 6, .ref 46, .int (nI i)], [], z) := by
  have v1 : tg z 5 = 3 ∧ vp_in (nI i + 1) (ln z 5) := S5_v h5 hi hL 1 (by decide)
  obtain ⟨r, z1, z2, n2, R2, rx, rm, hS2, hn, hw⟩ := op_place hS (zI z 5 (nI i + 1).toNatClampNeg)
  obtain ⟨g5, g1⟩ := S5_t h5 (rn_5 _ _ _ _ _ _ rx)
  obtain ⟨k5, k1⟩ := S5_t g5 (rn_5 _ _ _ _ _ _ rm)
  have w1 : tg z1 5 = 3 ∧ vp_in (nI i + 1) (ln z1 5) := S5_v g5 hi hL 1 (by decide)
  have rm1 : Rn 12 i_M_place [.ref 46, .int (zI z1 5 (nI i + 1).toNatClampNeg)] z1 (some (.int r)) z2 := by
    rw [g1]; exact rm
  exact ⟨v1, ⟨_, _, rx, ⟨w1, ⟨_, _, rm1, ⟨fun _ => nx z2 n2 R2 hS2 k5 (k1.trans g1) hn hw, fun c => absurd rfl c⟩⟩⟩⟩⟩
set_option maxRecDepth 20000 in
theorem lc_27 (hS : Sim z n R) (h5 : S5 z L) (hi : i + 5 ≤ L) (hL : L ≤ 2560) (nx : ∀ (z2 : ZS) (n2 R2 : Nat), Sim z2 n2 R2 → S5 z2 L → zI z2 5 = zI z 5 → zn z2 ≤ zn z + 3 → zw z2 ≤ zw z + 60 → K 18 [.ref 5, .ref 6, .ref 46, .int (nI i + 5)] [] z2) : wq (Rn 12) cd_174 Rt K 389 (867, [.ref 5, .ref 6, .ref 46, .int (nI i)], [], z) := by
  have v1 : tg z 5 = 3 ∧ vp_in (nI i + 1) (ln z 5) := S5_v h5 hi hL 1 (by decide)
  obtain ⟨r, z1, z2, n2, R2, rx, rm, hS2, hn, hw⟩ := op_tell hS (zI z 5 (nI i + 1).toNatClampNeg)
  obtain ⟨g5, g1⟩ := S5_t h5 (rn_5 _ _ _ _ _ _ rx)
  obtain ⟨k5, k1⟩ := S5_t g5 (rn_5 _ _ _ _ _ _ rm)
  have w1 : tg z1 5 = 3 ∧ vp_in (nI i + 1) (ln z1 5) := S5_v g5 hi hL 1 (by decide)
  have rm1 : Rn 12 i_M_tell [.ref 46, .int (zI z1 5 (nI i + 1).toNatClampNeg)] z1 (some (.int r)) z2 := by
    rw [g1]; exact rm
  exact ⟨v1, ⟨_, _, rx, ⟨w1, ⟨_, _, rm1, ⟨fun _ => nx z2 n2 R2 hS2 k5 (k1.trans g1) hn hw, fun c => absurd rfl c⟩⟩⟩⟩⟩
set_option maxRecDepth 20000 in
theorem lc_28 (hS : Sim z n R) (h5 : S5 z L) (hi : i + 5 ≤ L) (hL : L ≤ 2560) (nx : ∀ (z2 : ZS) (n2 R2 : Nat), Sim z2 n2 R2 → S5 z2 L → zI z2 5 = zI z 5 → zn z2 ≤ zn z + 3 → zw z2 ≤ zw z + 60 → K 18 [.ref 5, .ref 6, .ref 46, .int (nI i + 5)] [] z2) : wq (Rn 12) cd_174 Rt K 389 (884, [.ref 5, .ref 6, .ref 46, .int (nI i)], [], z) := by
  have v1 : tg z 5 = 3 ∧ vp_in (nI i + 1) (ln z 5) := S5_v h5 hi hL 1 (by decide)
  have v2 : tg z 5 = 3 ∧ vp_in (nI i + 2) (ln z 5) := S5_v h5 hi hL 2 (by decide)
  obtain ⟨r, z1, z2, n2, R2, rx, rm, hS2, hn, hw⟩ := op_check hS (zI z 5 (nI i + 1).toNatClampNeg) (zI z 5 (nI i + 2).toNatClampNeg)
  obtain ⟨g5, g1⟩ := S5_t h5 (rn_5 _ _ _ _ _ _ rx)
  obtain ⟨k5, k1⟩ := S5_t g5 (rn_5 _ _ _ _ _ _ rm)
  have w1 : tg z1 5 = 3 ∧ vp_in (nI i + 1) (ln z1 5) := S5_v g5 hi hL 1 (by decide)
  have w2 : tg z1 5 = 3 ∧ vp_in (nI i + 2) (ln z1 5) := S5_v g5 hi hL 2 (by decide)
  have rm1 : Rn 12 i_M_check [.ref 46, .int (zI z1 5 (nI i + 1).toNatClampNeg), .int (zI z1 5 (nI i + 2).toNatClampNeg)] z1 (some (.int r)) z2 := by
    rw [g1]; exact rm
  exact ⟨v1, ⟨v2, ⟨_, _, rx, ⟨w1, ⟨w2, ⟨_, _, rm1, ⟨fun _ => nx z2 n2 R2 hS2 k5 (k1.trans g1) hn hw, fun c => absurd rfl c⟩⟩⟩⟩⟩⟩⟩
set_option maxRecDepth 20000 in
theorem lc_29 (hS : Sim z n R) (h5 : S5 z L) (hi : i + 5 ≤ L) (hL : L ≤ 2560) (nx : ∀ (z2 : ZS) (n2 R2 : Nat), Sim z2 n2 R2 → S5 z2 L → zI z2 5 = zI z 5 → zn z2 ≤ zn z + 3 → zw z2 ≤ zw z + 60 → K 18 [.ref 5, .ref 6, .ref 46, .int (nI i + 5)] [] z2) : wq (Rn 12) cd_174 Rt K 389 (911, [.ref 5, .ref 6, .ref 46, .int (nI i)], [], z) := by
  have v1 : tg z 5 = 3 ∧ vp_in (nI i + 1) (ln z 5) := S5_v h5 hi hL 1 (by decide)
  obtain ⟨r, z1, z2, n2, R2, rx, rm, hS2, hn, hw⟩ := op_count hS (zI z 5 (nI i + 1).toNatClampNeg)
  obtain ⟨g5, g1⟩ := S5_t h5 (rn_5 _ _ _ _ _ _ rx)
  obtain ⟨k5, k1⟩ := S5_t g5 (rn_5 _ _ _ _ _ _ rm)
  have w1 : tg z1 5 = 3 ∧ vp_in (nI i + 1) (ln z1 5) := S5_v g5 hi hL 1 (by decide)
  have rm1 : Rn 12 i_M_count [.ref 46, .int (zI z1 5 (nI i + 1).toNatClampNeg)] z1 (some (.int r)) z2 := by
    rw [g1]; exact rm
  exact ⟨v1, ⟨_, _, rx, ⟨w1, ⟨_, _, rm1, ⟨fun _ => nx z2 n2 R2 hS2 k5 (k1.trans g1) hn hw, fun c => absurd rfl c⟩⟩⟩⟩⟩
set_option maxRecDepth 20000 in
theorem lc_30 (hS : Sim z n R) (h5 : S5 z L) (hi : i + 5 ≤ L) (hL : L ≤ 2560) (nx : ∀ (z2 : ZS) (n2 R2 : Nat), Sim z2 n2 R2 → S5 z2 L → zI z2 5 = zI z 5 → zn z2 ≤ zn z + 3 → zw z2 ≤ zw z + 60 → K 18 [.ref 5, .ref 6, .ref 46, .int (nI i + 5)] [] z2) : wq (Rn 12) cd_174 Rt K 389 (928, [.ref 5, .ref 6, .ref 46, .int (nI i)], [], z) := by
  obtain ⟨r, z1, z2, n2, R2, rx, rm, hS2, hn, hw⟩ := op_undo hS
  obtain ⟨g5, g1⟩ := S5_t h5 (rn_5 _ _ _ _ _ _ rx)
  obtain ⟨k5, k1⟩ := S5_t g5 (rn_5 _ _ _ _ _ _ rm)
  have rm1 : Rn 12 i_M_undo [.ref 46] z1 (some (.int r)) z2 := by
    exact rm
  exact ⟨_, _, rx, ⟨_, _, rm1, ⟨fun _ => nx z2 n2 R2 hS2 k5 (k1.trans g1) hn hw, fun c => absurd rfl c⟩⟩⟩
set_option maxRecDepth 20000 in
theorem lc_31 (hS : Sim z n R) (h5 : S5 z L) (hi : i + 5 ≤ L) (hL : L ≤ 2560) (nx : ∀ (z2 : ZS) (n2 R2 : Nat), Sim z2 n2 R2 → S5 z2 L → zI z2 5 = zI z 5 → zn z2 ≤ zn z + 3 → zw z2 ≤ zw z + 60 → K 18 [.ref 5, .ref 6, .ref 46, .int (nI i + 5)] [] z2) : wq (Rn 12) cd_174 Rt K 389 (935, [.ref 5, .ref 6, .ref 46, .int (nI i)], [], z) := by
  have v1 : tg z 5 = 3 ∧ vp_in (nI i + 1) (ln z 5) := S5_v h5 hi hL 1 (by decide)
  obtain ⟨r, z1, z2, n2, R2, rx, rm, hS2, hn, hw⟩ := op_found hS (zI z 5 (nI i + 1).toNatClampNeg)
  obtain ⟨g5, g1⟩ := S5_t h5 (rn_5 _ _ _ _ _ _ rx)
  obtain ⟨k5, k1⟩ := S5_t g5 (rn_5 _ _ _ _ _ _ rm)
  have w1 : tg z1 5 = 3 ∧ vp_in (nI i + 1) (ln z1 5) := S5_v g5 hi hL 1 (by decide)
  have rm1 : Rn 12 i_M_found [.ref 46, .int (zI z1 5 (nI i + 1).toNatClampNeg)] z1 (some (.int r)) z2 := by
    rw [g1]; exact rm
  exact ⟨v1, ⟨_, _, rx, ⟨w1, ⟨_, _, rm1, ⟨fun _ => nx z2 n2 R2 hS2 k5 (k1.trans g1) hn hw, fun c => absurd rfl c⟩⟩⟩⟩⟩
set_option maxRecDepth 20000 in
theorem lc_d (nx : K 18 [.ref 5, .ref 6, .ref 46, .int (nI i + 5)] [] z) : wq (Rn 12) cd_174 Rt K 389 (952, [.ref 5, .ref 6, .ref 46, .int (nI i)], [], z) := nx
end LawC
