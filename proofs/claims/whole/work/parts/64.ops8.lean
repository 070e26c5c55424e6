/-! Calls of both: holes. Own work. -/
def hcF (w : Int64) (i : Nat) : Int32 := ((w.toUInt64 >>> ((((4 : Int32) * nI i).toInt64).toUInt64 &&& Int64.toUInt64 63)).toInt64 &&& 15).toInt32
theorem sh_64 (w : Int64) (s : Nat) (hs : s ≤ 60) (a : Int64) (ea : a.toBitVec = BitVec.ofNat 64 s) (b : UInt64) (eb : b.toBitVec = BitVec.ofNat 64 s) : (w.toUInt64 >>> b).toInt64 &&& 15 = w >>> a &&& 15 := by
  apply Int64.toBitVec_inj.mp
  rw [Int64.toBitVec_and, Int64.toBitVec_and]
  have e1 : ((w.toUInt64 >>> b).toInt64).toBitVec = w.toBitVec >>> s := by
    show (w.toUInt64 >>> b).toBitVec = _
    rw [UInt64.toBitVec_shiftRight]
    have : (b.toBitVec % 64#64).toNat = s := by
      rw [eb, BitVec.toNat_umod, BitVec.toNat_ofNat, BitVec.toNat_ofNat, Nat.mod_eq_of_lt (show s < 2 ^ 64 by omega), show 64 % 2 ^ 64 = 64 by decide]
      exact Nat.mod_eq_of_lt (by omega)
    show w.toBitVec >>> (b.toBitVec % 64#64) = _
    rw [BitVec.ushiftRight_eq', this]
  have e2 : (w >>> a).toBitVec = w.toBitVec.sshiftRight s := by
    rw [Int64.toBitVec_shiftRight, ea]
    have hsm : ((BitVec.ofNat 64 s).smod 64) = BitVec.ofNat 64 s := by
      apply BitVec.eq_of_toInt_eq
      rw [BitVec.toInt_smod]
      have : (BitVec.ofNat 64 s).toInt = (s : Int) := by
        rw [BitVec.toInt_eq_toNat_of_lt (by rw [BitVec.toNat_ofNat, Nat.mod_eq_of_lt (show s < 2 ^ 64 by omega)]; omega), BitVec.toNat_ofNat, Nat.mod_eq_of_lt (show s < 2 ^ 64 by omega)]
      rw [this]
      show (s : Int).fmod (64#64).toInt = s
      rw [show (64#64).toInt = 64 by decide]
      rw [Int.fmod_eq_emod_of_nonneg _ (by omega)]
      omega
    rw [hsm]
    show w.toBitVec.sshiftRight (BitVec.ofNat 64 s).toNat = _
    rw [BitVec.toNat_ofNat, Nat.mod_eq_of_lt (by omega)]
  rw [e1, e2]
  exact (sh_bv w.toBitVec s hs).symm
theorem hc_hl (w : Int64) (i : Nat) (hi : i < 8) : hcF w i = hlF w i := by
  unfold hcF hlF
  congr 1
  rcases (show i = 0 ∨ i = 1 ∨ i = 2 ∨ i = 3 ∨ i = 4 ∨ i = 5 ∨ i = 6 ∨ i = 7 by omega) with e | e | e | e | e | e | e | e <;> subst e
  · exact sh_64 w 0 (by decide) _ (by decide) _ (by decide)
  · exact sh_64 w 4 (by decide) _ (by decide) _ (by decide)
  · exact sh_64 w 8 (by decide) _ (by decide) _ (by decide)
  · exact sh_64 w 12 (by decide) _ (by decide) _ (by decide)
  · exact sh_64 w 16 (by decide) _ (by decide) _ (by decide)
  · exact sh_64 w 20 (by decide) _ (by decide) _ (by decide)
  · exact sh_64 w 24 (by decide) _ (by decide) _ (by decide)
  · exact sh_64 w 28 (by decide) _ (by decide) _ (by decide)
theorem hl_bd (w : Int64) (i : Nat) : -1 ≤ (hlF w i).toInt ∧ (hlF w i).toInt ≤ 15 := by
  unfold hlF
  generalize w >>> (((4 : Int32) * nI i).toInt64 &&& 63) = x
  have hn : (x &&& 15).toBitVec.toNat ≤ 15 := by
    rw [Int64.toBitVec_and, BitVec.toNat_and]
    exact Nat.and_le_right
  have e : x &&& 15 = Int64.ofBitVec (BitVec.ofNat 64 (x &&& 15).toBitVec.toNat) := by
    apply Int64.toBitVec_inj.mp
    show _ = BitVec.ofNat 64 (x &&& 15).toBitVec.toNat
    rw [BitVec.ofNat_toNat, BitVec.setWidth_eq]
  rw [e]
  generalize (x &&& 15).toBitVec.toNat = m at hn
  have key : ∀ m, m < 16 → -1 ≤ (Int64.ofBitVec (BitVec.ofNat 64 m)).toInt32.toInt ∧ (Int64.ofBitVec (BitVec.ofNat 64 m)).toInt32.toInt ≤ 15 := by decide
  exact key m (by omega)
