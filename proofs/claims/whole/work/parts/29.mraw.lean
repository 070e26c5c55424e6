/-! The model's rawOfMakers. Own work. -/
def smF (A : Nat → Nat → Int32) : Nat → Int32
  | 0 => 0
  | k + 1 => smF A k + A 20 (A 26 k).toNatClampNeg
def rwF (A : Nat → Nat → Int32) (mk m : Nat) : Int32 := if rnd (smF A mk) (nI mk) - lsF m < 540 then rnd (smF A mk) (nI mk) - lsF m else 540
section MRaw
variable (d : Nat) (z0 : ZS) (V : Nat → Int32) (A : Nat → Nat → Int32)
theorem M_rawOfMakers (hM : MT z0) (mk m : Nat) (h31 : V 31 = nI mk) (h1 : 1 ≤ mk) (h8 : mk ≤ 8) (h29 : V 29 = nI m) (hm : m ≤ 20) (hO : okB (A 26) mk) : Rn (d + 3) i_M_rawOfMakers [.ref 46] (mz z0 V A) (some (.int (rwF A mk m))) (mz z0 V A) := by
  have h2 : ¬ (2 : Int32) * nI mk = 0 := by
    rw [show (2 : Int32) = nI 2 from rfl, pk_mul]
    exact nI_ne0 (by omega) (by omega)
  have g1 : Rn (d + 2) i_M_rounded [.int (smF A mk), .int (V 31)] (mz z0 V A) (some (.int (rnd (smF A mk) (nI mk)))) (mz z0 V A) := by rw [h31]; exact M_rounded d _ _ _ h2
  have g2 : Rn (d + 2) i_M_less [.int (V 29)] (mz z0 V A) (some (.int (lsF m))) (mz z0 V A) := by rw [h29]; exact M_less (d + 1) _ m (by omega)
  refine rn_i (full := cd_147) hM.1 trivial rfl (fun K hK => hK 0 _ _ _ (loop_up (P := fun k => K 4 [.ref 46, .int (smF A k), .int (nI k)] [] (mz z0 V A)) mk (fun k hk ih => ?_) 0 (by omega)))
  refine hK 4 _ _ _ ⟨hM.1, ⟨fun c1 => ?_, fun c1 => ?_⟩⟩
  · have c1 : V 31 ≤ nI k := c1
    rw [h31] at c1
    have c1 : mk ≤ k := (nI_leI (by omega) (by omega)).mp c1
    have : k = mk := by omega
    subst this
    exact ⟨hM.1, ⟨_, _, g1, ⟨hM.1, ⟨_, _, g2, ⟨_, _, J_min (d + 1) _ _ _, ⟨rfl, rfl⟩⟩⟩⟩⟩⟩
  · have c1 : ¬ V 31 ≤ nI k := c1
    rw [h31] at c1
    have c1 := nI_leN (by omega) (by omega) c1
    have ih := ih c1
    have ck : (nI k).toNatClampNeg = k := nI_clamp (by omega)
    obtain ⟨q, hq, hB⟩ := hO k c1
    have vk : vp_in (nI k) 8 := vp_in_nI (by omega) (by decide)
    have vq : vp_in (A 26 (nI k).toNatClampNeg) 60 := by rw [ck, hB]; exact vp_in_nI hq (by decide)
    refine ⟨mt_g hM 20 (by decide), ⟨mt_g hM 26 (by decide), ⟨mt_l hM 26 (by decide) vk, ⟨mt_l hM 20 (by decide) vq, ?_⟩⟩⟩⟩
    show K 4 [.ref 46, .int (smF A k + A 20 (A 26 (nI k).toNatClampNeg).toNatClampNeg), .int (nI k + 1)] [] (mz z0 V A)
    rw [ck, nI_1]
    exact ih
end MRaw
