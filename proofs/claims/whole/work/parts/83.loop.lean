/-! The law's loop. Own work; made by wip/whole/gen/gen82.py -/
section LawL
variable {K : Zk} {Rt : Option Value → ZS → Prop}
set_option maxRecDepth 20000 in
set_option maxHeartbeats 4000000 in
theorem lw_step (hK : Sf (Rn 12) cd_174 Rt K) {z : ZS} {n R i L : Nat} (hS : Sim z n R) (h5 : S5 z L) (hi : i + 5 ≤ L) (hL : L ≤ 2560) (nx : ∀ (z2 : ZS) (n2 R2 : Nat), Sim z2 n2 R2 → S5 z2 L → zI z2 5 = zI z 5 → zn z2 ≤ zn z + 3 → zw z2 ≤ zw z + 60 → K 18 [.ref 5, .ref 6, .ref 46, .int (nI i + 5)] [] z2) : K 18 [.ref 5, .ref 6, .ref 46, .int (nI i)] [] z := by
  have v0 : tg z 5 = 3 ∧ vp_in (nI i) (ln z 5) := ⟨h5.1.2, by rw [h5.2]; exact vp_in_nI (by omega) (by omega)⟩
  have ar : isAr (tg z 5) = true := by rw [h5.1.2]; rfl
  have ng : ¬ (nI (ln z 5) - 5 : Int32) < nI i := by
    rw [h5.2, show (5 : Int32) = nI 5 from rfl, pk_sub (by omega)]
    exact Int32.not_lt.mpr (nI_le (by omega) (by omega))
  exact hK 10 _ _ _ ⟨ar, ⟨fun c => absurd c ng, fun c => ⟨v0, ⟨fun c => lc_0 hS h5 hi hL nx,
    fun c => ⟨fun c => lc_1 hS h5 hi hL nx,
    fun c => ⟨fun c => lc_2 hS h5 hi hL nx,
    fun c => ⟨fun c => lc_3 hS h5 hi hL nx,
    fun c => ⟨fun c => lc_4 hS h5 hi hL nx,
    fun c => ⟨fun c => lc_5 hS h5 hi hL nx,
    fun c => ⟨fun c => lc_6 hS h5 hi hL nx,
    fun c => ⟨fun c => lc_7 hS h5 hi hL nx,
    fun c => ⟨fun c => lc_8 hS h5 hi hL nx,
    fun c => ⟨fun c => lc_9 hS h5 hi hL nx,
    fun c => ⟨fun c => lc_10 hS h5 hi hL nx,
    fun c => ⟨fun c => lc_11 hS h5 hi hL nx,
    fun c => ⟨fun c => lc_12 hS h5 hi hL nx,
    fun c => ⟨fun c => lc_13 hS h5 hi hL nx,
    fun c => ⟨fun c => lc_14 hS h5 hi hL nx,
    fun c => ⟨fun c => lc_15 hS h5 hi hL nx,
    fun c => ⟨fun c => lc_16 hS h5 hi hL nx,
    fun c => ⟨fun c => lc_17 hS h5 hi hL nx,
    fun c => ⟨fun c => lc_18 hS h5 hi hL nx,
    fun c => ⟨fun c => lc_19 hS h5 hi hL nx,
    fun c => ⟨fun c => lc_20 hS h5 hi hL nx,
    fun c => ⟨fun c => lc_21 hS h5 hi hL nx,
    fun c => ⟨fun c => lc_22 hS h5 hi hL nx,
    fun c => ⟨fun c => lc_23 hS h5 hi hL nx,
    fun c => ⟨fun c => lc_24 hS h5 hi hL nx,
    fun c => ⟨fun c => lc_25 hS h5 hi hL nx,
    fun c => ⟨fun c => lc_26 hS h5 hi hL nx,
    fun c => ⟨fun c => lc_27 hS h5 hi hL nx,
    fun c => ⟨fun c => lc_28 hS h5 hi hL nx,
    fun c => ⟨fun c => lc_29 hS h5 hi hL nx,
    fun c => ⟨fun c => lc_30 hS h5 hi hL nx,
    fun c => ⟨fun c => lc_31 hS h5 hi hL nx,
    fun c => lc_d (nx z n R hS h5 rfl (by omega) (by omega))⟩⟩⟩⟩⟩⟩⟩⟩⟩⟩⟩⟩⟩⟩⟩⟩⟩⟩⟩⟩⟩⟩⟩⟩⟩⟩⟩⟩⟩⟩⟩⟩⟩⟩⟩

set_option maxRecDepth 20000 in
theorem lw_loop {L : Nat} (hL : L ≤ 2560) (hK : Sf (Rn 12) cd_174 (fun r z1 => r = some (.int 1) ∧ zn z1 ≤ 600006 ∧ zw z1 ≤ 7302250) K) : ∀ (m i : Nat) (z : ZS) (n R : Nat), L < i + m → i ≤ L + 4 → Sim z n R → S5 z L → zn z ≤ 75 + i → zw z ≤ 10000 + 20 * i → K 18 [.ref 5, .ref 6, .ref 46, .int (nI i)] [] z := by
  intro m
  induction m with
  | zero =>
    intro i z n R h1 h2 hS h5 hn hw
    have ar : isAr (tg z 5) = true := by rw [h5.1.2]; rfl
    have lt : (nI (ln z 5) - 5 : Int32) < nI i := by
      rw [h5.2, i32_lt, show (5 : Int32) = nI 5 from rfl, pk_sub_toInt (by omega) (by omega), nI_toInt (by omega)]
      omega
    exact hK 10 _ _ _ ⟨ar, ⟨fun c => ⟨rfl, by omega, by omega⟩, fun c => absurd lt c⟩⟩
  | succ m ih =>
    intro i z n R h1 h2 hS h5 hn hw
    by_cases hi : i + 5 ≤ L
    · refine lw_step hK hS h5 hi hL (fun z2 n2 R2 hS2 k5 _ hn2 hw2 => ?_)
      have g := ih (i + 5) z2 n2 R2 (by omega) (by omega) hS2 k5 (by omega) (by omega)
      rw [show nI i + 5 = nI (i + 5) from nI_add i 5]
      exact g
    · have ar : isAr (tg z 5) = true := by rw [h5.1.2]; rfl
      have lt : (nI (ln z 5) - 5 : Int32) < nI i := by
        rw [h5.2, i32_lt, show (5 : Int32) = nI 5 from rfl, pk_sub_toInt (by omega) (by omega), nI_toInt (by omega)]
        omega
      exact hK 10 _ _ _ ⟨ar, ⟨fun c => ⟨rfl, by omega, by omega⟩, fun c => absurd lt c⟩⟩
end LawL
