/-! The model's constructor. Own work; made by wip/whole/gen/gen86.py -/
def maz (z : ZS) : Nat → ZS
  | 0 => z
  | j + 1 => sP (nw (maz z j) (mTag j) (mLen j) (mLen j)) 46 (mSlot j) (zn (maz z j))
def msm : Nat → Nat
  | 0 => 0
  | j + 1 => msm j + mLen j
theorem mSlot_lt : ∀ j, j < 28 → ∀ i, i < j → mSlot i ≠ mSlot j := by decide
theorem maz_f (z : ZS) (h46 : 46 < zn z) : ∀ j, j ≤ 28 → zn (maz z j) = zn z + j ∧ zw (maz z j) = zw z + msm j ∧ (∀ a, a < zn z → tg (maz z j) a = tg z a ∧ ln (maz z j) a = ln z a ∧ zI (maz z j) a = zI z a) ∧ (∀ a, a < zn z → a ≠ 46 → zP (maz z j) a = zP z a) ∧ ∀ i, i < j → tg (maz z j) (zn z + i) = mTag i ∧ ln (maz z j) (zn z + i) = mLen i ∧ zI (maz z j) (zn z + i) = (fun _ => 0) ∧ zP (maz z j) 46 (mSlot i) = zn z + i
  | 0, _ => ⟨rfl, rfl, fun a _ => ⟨rfl, rfl, rfl⟩, fun a _ _ => rfl, fun i hi => absurd hi (by omega)⟩
  | j + 1, hj => by
    obtain ⟨h1, h2, h3, h4, h5⟩ := maz_f z h46 j (by omega)
    have o := fun a (ha : a ≠ zn z + j) => nw_o (maz z j) (mTag j) (mLen j) (mLen j) (a := a) (by rw [h1]; exact ha)
    have e1 : tg (nw (maz z j) (mTag j) (mLen j) (mLen j)) (zn z + j) = mTag j ∧ ln (nw (maz z j) (mTag j) (mLen j) (mLen j)) (zn z + j) = mLen j ∧ zI (nw (maz z j) (mTag j) (mLen j) (mLen j)) (zn z + j) = fun _ => 0 := by
      rw [← h1]; exact ⟨nw_tg _ _ _ _, nw_ln _ _ _ _, nw_zI _ _ _ _⟩
    have es : maz z (j + 1) = sP (nw (maz z j) (mTag j) (mLen j) (mLen j)) 46 (mSlot j) (zn z + j) := by rw [← h1]; rfl
    have en : zn (nw (maz z j) (mTag j) (mLen j) (mLen j)) = zn z + j + 1 := by rw [← h1]; rfl
    have ew : zw (nw (maz z j) (mTag j) (mLen j) (mLen j)) = zw z + msm j + mLen j := by rw [← h2]; rfl
    rw [es]
    refine ⟨by rw [sP_zn, en]; omega, by rw [sP_zw, ew]; show _ = zw z + (msm j + mLen j); omega, fun a ha => ⟨?_, ?_, ?_⟩, fun a ha ne => ?_, fun i hi => ?_⟩
    · rw [sP_tg, (o a (by omega)).1]; exact (h3 a ha).1
    · rw [sP_ln, (o a (by omega)).2.1]; exact (h3 a ha).2.1
    · rw [sP_zI, (o a (by omega)).2.2.1]; exact (h3 a ha).2.2
    · funext k
      rw [sP_n (fun q => ne q.1), (o a (by omega)).2.2.2, h4 a ha ne]
    · by_cases e : i = j
      · subst e
        exact ⟨by rw [sP_tg]; exact e1.1, by rw [sP_ln]; exact e1.2.1, by rw [sP_zI]; exact e1.2.2, sP_e⟩
      · obtain ⟨g1, g2, g3, g4⟩ := h5 i (by omega)
        refine ⟨?_, ?_, ?_, ?_⟩
        · rw [sP_tg, (o _ (by omega)).1]; exact g1
        · rw [sP_ln, (o _ (by omega)).2.1]; exact g2
        · rw [sP_zI, (o _ (by omega)).2.2.1]; exact g3
        · rw [sP_n (fun q => mSlot_lt j (by omega) i (by omega) q.2), (o 46 (by omega)).2.2.2]; exact g4
theorem maz_MT {z : ZS} (hn : zn z = 47) (h46 : tg z 46 = 17) : MT (maz z 28) := by
  obtain ⟨h1, h2, h3, h4, h5⟩ := maz_f z (by omega) 28 (by omega)
  rw [hn] at h5
  exact ⟨(h3 46 (by omega)).1.trans h46, fun j hj => ⟨(h5 j hj).1, (h5 j hj).2.1, (h5 j hj).2.2.2⟩⟩
def inF (A : Nat → Nat → Int32) (c : Nat) : Nat → Nat → Nat → Int32
  | 0 => A
  | h + 1 => u2 (u2 (inF A c h) 2 (18 * c + h) 4) 3 (18 * c + h) (nI (h + 1))
def ouF (A : Nat → Nat → Int32) : Nat → Nat → Nat → Int32
  | 0 => A
  | c + 1 => inF (u2 (u2 (ouF A c) 0 c 720) 1 c 113) c 18
theorem in_f (A : Nat → Nat → Int32) (c : Nat) : ∀ h, (∀ q, q ≠ 2 → q ≠ 3 → inF A c h q = A q) ∧ (∀ i, inF A c h 2 i = if 18 * c ≤ i ∧ i < 18 * c + h then 4 else A 2 i) ∧ ∀ i, inF A c h 3 i = if 18 * c ≤ i ∧ i < 18 * c + h then nI (i - 18 * c + 1) else A 3 i
  | 0 => ⟨fun _ _ _ => rfl, fun i => by rw [if_neg (by omega)]; rfl, fun i => by rw [if_neg (by omega)]; rfl⟩
  | h + 1 => by
    obtain ⟨h1, h2, h3⟩ := in_f A c h
    refine ⟨fun q n2 n3 => ?_, fun i => ?_, fun i => ?_⟩
    · show u2 (u2 (inF A c h) 2 (18 * c + h) 4) 3 (18 * c + h) (nI (h + 1)) q = _
      rw [u2_n n3, u2_n n2]; exact h1 q n2 n3
    · show u2 (u2 (inF A c h) 2 (18 * c + h) 4) 3 (18 * c + h) (nI (h + 1)) 2 i = _
      rw [u2_n (by decide), u2_v, h2]
      by_cases e : i = 18 * c + h
      · rw [if_pos ⟨rfl, e⟩, if_pos (by omega)]
      · rw [if_neg (fun w => e w.2)]
        by_cases e2 : 18 * c ≤ i ∧ i < 18 * c + h
        · rw [if_pos e2, if_pos (by omega)]
        · rw [if_neg e2, if_neg (by omega)]
    · show u2 (u2 (inF A c h) 2 (18 * c + h) 4) 3 (18 * c + h) (nI (h + 1)) 3 i = _
      rw [u2_v]
      by_cases e : i = 18 * c + h
      · rw [if_pos ⟨rfl, e⟩, if_pos (by omega), show i - 18 * c + 1 = h + 1 by omega]
      · rw [if_neg (fun w => e w.2), u2_n (by decide), h3]
        by_cases e2 : 18 * c ≤ i ∧ i < 18 * c + h
        · rw [if_pos e2, if_pos (by omega)]
        · rw [if_neg e2, if_neg (by omega)]
theorem ou_f (A : Nat → Nat → Int32) : ∀ c, (∀ q, 4 ≤ q → ouF A c q = A q) ∧ ∀ k, k < c → ouF A c 0 k = 720 ∧ ouF A c 1 k = 113 ∧ ∀ h, h < 18 → ouF A c 2 (18 * k + h) = 4 ∧ ouF A c 3 (18 * k + h) = nI (h + 1)
  | 0 => ⟨fun _ _ => rfl, fun k hk => absurd hk (by omega)⟩
  | c + 1 => by
    obtain ⟨h1, h2⟩ := ou_f A c
    obtain ⟨g1, g2, g3⟩ := in_f (u2 (u2 (ouF A c) 0 c 720) 1 c 113) c 18
    refine ⟨fun q hq => ?_, fun k hk => ⟨?_, ?_, fun h hh => ⟨?_, ?_⟩⟩⟩
    · show inF (u2 (u2 (ouF A c) 0 c 720) 1 c 113) c 18 q = _
      rw [g1 q (by omega) (by omega), u2_n (by omega), u2_n (by omega)]; exact h1 q hq
    · show inF (u2 (u2 (ouF A c) 0 c 720) 1 c 113) c 18 0 k = _
      rw [g1 0 (by omega) (by omega), u2_n (by omega), u2_v]
      by_cases e : k = c
      · rw [if_pos ⟨rfl, e⟩]
      · rw [if_neg (fun w => e w.2)]; exact (h2 k (by omega)).1
    · show inF (u2 (u2 (ouF A c) 0 c 720) 1 c 113) c 18 1 k = _
      rw [g1 1 (by omega) (by omega), u2_v]
      by_cases e : k = c
      · rw [if_pos ⟨rfl, e⟩]
      · rw [if_neg (fun w => e w.2), u2_n (by omega)]; exact (h2 k (by omega)).2.1
    · show inF (u2 (u2 (ouF A c) 0 c 720) 1 c 113) c 18 2 (18 * k + h) = _
      rw [g2]
      by_cases e : k = c
      · rw [if_pos (by omega)]
      · rw [if_neg (by omega), u2_n (by omega), u2_n (by omega)]; exact ((h2 k (by omega)).2.2 h hh).1
    · show inF (u2 (u2 (ouF A c) 0 c 720) 1 c 113) c 18 3 (18 * k + h) = _
      rw [g3]
      by_cases e : k = c
      · rw [if_pos (by omega), show 18 * k + h - 18 * c + 1 = h + 1 by omega]
      · rw [if_neg (by omega), u2_n (by omega), u2_n (by omega)]; exact ((h2 k (by omega)).2.2 h hh).2
section MI
variable {K : Zk} {Rt : Option Value → ZS → Prop} {d : Nat}
set_option maxRecDepth 4000 in
theorem mi_0 (y : ZS) (h46 : tg y 46 = 17) (hz : 46 < zn y) (next : wq (Rn d) cd_105 Rt K 395 (6, [.ref 46, .null, .null], [], sP (nw y 1 4 4) 46 0 (zn y))) : wq (Rn d) cd_105 Rt K 399 (2, [.ref 46, .null, .null], [], y) := ⟨na_ok (n := 4) (by omega), ⟨(nw_lt hz).trans h46, next⟩⟩
set_option maxRecDepth 4000 in
theorem mi_1 (y : ZS) (h46 : tg y 46 = 17) (hz : 46 < zn y) (next : wq (Rn d) cd_105 Rt K 391 (10, [.ref 46, .null, .null], [], sP (nw y 1 4 4) 46 1 (zn y))) : wq (Rn d) cd_105 Rt K 395 (6, [.ref 46, .null, .null], [], y) := ⟨na_ok (n := 4) (by omega), ⟨(nw_lt hz).trans h46, next⟩⟩
set_option maxRecDepth 4000 in
theorem mi_2 (y : ZS) (h46 : tg y 46 = 17) (hz : 46 < zn y) (next : wq (Rn d) cd_105 Rt K 387 (14, [.ref 46, .null, .null], [], sP (nw y 1 72 72) 46 2 (zn y))) : wq (Rn d) cd_105 Rt K 391 (10, [.ref 46, .null, .null], [], y) := ⟨na_ok (n := 72) (by omega), ⟨(nw_lt hz).trans h46, next⟩⟩
set_option maxRecDepth 4000 in
theorem mi_3 (y : ZS) (h46 : tg y 46 = 17) (hz : 46 < zn y) (next : wq (Rn d) cd_105 Rt K 383 (18, [.ref 46, .null, .null], [], sP (nw y 1 72 72) 46 3 (zn y))) : wq (Rn d) cd_105 Rt K 387 (14, [.ref 46, .null, .null], [], y) := ⟨na_ok (n := 72) (by omega), ⟨(nw_lt hz).trans h46, next⟩⟩
set_option maxRecDepth 4000 in
theorem mi_4 (y : ZS) (h46 : tg y 46 = 17) (hz : 46 < zn y) (next : wq (Rn d) cd_105 Rt K 379 (22, [.ref 46, .null, .null], [], sP (nw y 1 30 30) 46 5 (zn y))) : wq (Rn d) cd_105 Rt K 383 (18, [.ref 46, .null, .null], [], y) := ⟨na_ok (n := 30) (by omega), ⟨(nw_lt hz).trans h46, next⟩⟩
set_option maxRecDepth 4000 in
theorem mi_5 (y : ZS) (h46 : tg y 46 = 17) (hz : 46 < zn y) (next : wq (Rn d) cd_105 Rt K 375 (26, [.ref 46, .null, .null], [], sP (nw y 1 30 30) 46 6 (zn y))) : wq (Rn d) cd_105 Rt K 379 (22, [.ref 46, .null, .null], [], y) := ⟨na_ok (n := 30) (by omega), ⟨(nw_lt hz).trans h46, next⟩⟩
set_option maxRecDepth 4000 in
theorem mi_6 (y : ZS) (h46 : tg y 46 = 17) (hz : 46 < zn y) (next : wq (Rn d) cd_105 Rt K 371 (30, [.ref 46, .null, .null], [], sP (nw y 1 30 30) 46 7 (zn y))) : wq (Rn d) cd_105 Rt K 375 (26, [.ref 46, .null, .null], [], y) := ⟨na_ok (n := 30) (by omega), ⟨(nw_lt hz).trans h46, next⟩⟩
set_option maxRecDepth 4000 in
theorem mi_7 (y : ZS) (h46 : tg y 46 = 17) (hz : 46 < zn y) (next : wq (Rn d) cd_105 Rt K 367 (34, [.ref 46, .null, .null], [], sP (nw y 1 18 18) 46 9 (zn y))) : wq (Rn d) cd_105 Rt K 371 (30, [.ref 46, .null, .null], [], y) := ⟨na_ok (n := 18) (by omega), ⟨(nw_lt hz).trans h46, next⟩⟩
set_option maxRecDepth 4000 in
theorem mi_8 (y : ZS) (h46 : tg y 46 = 17) (hz : 46 < zn y) (next : wq (Rn d) cd_105 Rt K 363 (38, [.ref 46, .null, .null], [], sP (nw y 1 60 60) 46 11 (zn y))) : wq (Rn d) cd_105 Rt K 367 (34, [.ref 46, .null, .null], [], y) := ⟨na_ok (n := 60) (by omega), ⟨(nw_lt hz).trans h46, next⟩⟩
set_option maxRecDepth 4000 in
theorem mi_9 (y : ZS) (h46 : tg y 46 = 17) (hz : 46 < zn y) (next : wq (Rn d) cd_105 Rt K 359 (42, [.ref 46, .null, .null], [], sP (nw y 1 60 60) 46 12 (zn y))) : wq (Rn d) cd_105 Rt K 363 (38, [.ref 46, .null, .null], [], y) := ⟨na_ok (n := 60) (by omega), ⟨(nw_lt hz).trans h46, next⟩⟩
set_option maxRecDepth 4000 in
theorem mi_10 (y : ZS) (h46 : tg y 46 = 17) (hz : 46 < zn y) (next : wq (Rn d) cd_105 Rt K 355 (46, [.ref 46, .null, .null], [], sP (nw y 1 60 60) 46 13 (zn y))) : wq (Rn d) cd_105 Rt K 359 (42, [.ref 46, .null, .null], [], y) := ⟨na_ok (n := 60) (by omega), ⟨(nw_lt hz).trans h46, next⟩⟩
set_option maxRecDepth 4000 in
theorem mi_11 (y : ZS) (h46 : tg y 46 = 17) (hz : 46 < zn y) (next : wq (Rn d) cd_105 Rt K 351 (50, [.ref 46, .null, .null], [], sP (nw y 1 60 60) 46 14 (zn y))) : wq (Rn d) cd_105 Rt K 355 (46, [.ref 46, .null, .null], [], y) := ⟨na_ok (n := 60) (by omega), ⟨(nw_lt hz).trans h46, next⟩⟩
set_option maxRecDepth 4000 in
theorem mi_12 (y : ZS) (h46 : tg y 46 = 17) (hz : 46 < zn y) (next : wq (Rn d) cd_105 Rt K 347 (54, [.ref 46, .null, .null], [], sP (nw y 1 60 60) 46 15 (zn y))) : wq (Rn d) cd_105 Rt K 351 (50, [.ref 46, .null, .null], [], y) := ⟨na_ok (n := 60) (by omega), ⟨(nw_lt hz).trans h46, next⟩⟩
set_option maxRecDepth 4000 in
theorem mi_13 (y : ZS) (h46 : tg y 46 = 17) (hz : 46 < zn y) (next : wq (Rn d) cd_105 Rt K 343 (58, [.ref 46, .null, .null], [], sP (nw y 1 60 60) 46 16 (zn y))) : wq (Rn d) cd_105 Rt K 347 (54, [.ref 46, .null, .null], [], y) := ⟨na_ok (n := 60) (by omega), ⟨(nw_lt hz).trans h46, next⟩⟩
set_option maxRecDepth 4000 in
theorem mi_14 (y : ZS) (h46 : tg y 46 = 17) (hz : 46 < zn y) (next : wq (Rn d) cd_105 Rt K 339 (62, [.ref 46, .null, .null], [], sP (nw y 2 60 60) 46 17 (zn y))) : wq (Rn d) cd_105 Rt K 343 (58, [.ref 46, .null, .null], [], y) := ⟨na_ok (n := 60) (by omega), ⟨(nw_lt hz).trans h46, next⟩⟩
set_option maxRecDepth 4000 in
theorem mi_15 (y : ZS) (h46 : tg y 46 = 17) (hz : 46 < zn y) (next : wq (Rn d) cd_105 Rt K 335 (66, [.ref 46, .null, .null], [], sP (nw y 1 1080 1080) 46 18 (zn y))) : wq (Rn d) cd_105 Rt K 339 (62, [.ref 46, .null, .null], [], y) := ⟨na_ok (n := 1080) (by omega), ⟨(nw_lt hz).trans h46, next⟩⟩
set_option maxRecDepth 4000 in
theorem mi_16 (y : ZS) (h46 : tg y 46 = 17) (hz : 46 < zn y) (next : wq (Rn d) cd_105 Rt K 331 (70, [.ref 46, .null, .null], [], sP (nw y 1 20 20) 46 20 (zn y))) : wq (Rn d) cd_105 Rt K 335 (66, [.ref 46, .null, .null], [], y) := ⟨na_ok (n := 20) (by omega), ⟨(nw_lt hz).trans h46, next⟩⟩
set_option maxRecDepth 4000 in
theorem mi_17 (y : ZS) (h46 : tg y 46 = 17) (hz : 46 < zn y) (next : wq (Rn d) cd_105 Rt K 327 (74, [.ref 46, .null, .null], [], sP (nw y 1 7 7) 46 21 (zn y))) : wq (Rn d) cd_105 Rt K 331 (70, [.ref 46, .null, .null], [], y) := ⟨na_ok (n := 7) (by omega), ⟨(nw_lt hz).trans h46, next⟩⟩
set_option maxRecDepth 4000 in
theorem mi_18 (y : ZS) (h46 : tg y 46 = 17) (hz : 46 < zn y) (next : wq (Rn d) cd_105 Rt K 323 (78, [.ref 46, .null, .null], [], sP (nw y 1 60 60) 46 22 (zn y))) : wq (Rn d) cd_105 Rt K 327 (74, [.ref 46, .null, .null], [], y) := ⟨na_ok (n := 60) (by omega), ⟨(nw_lt hz).trans h46, next⟩⟩
set_option maxRecDepth 4000 in
theorem mi_19 (y : ZS) (h46 : tg y 46 = 17) (hz : 46 < zn y) (next : wq (Rn d) cd_105 Rt K 319 (82, [.ref 46, .null, .null], [], sP (nw y 2 60 60) 46 23 (zn y))) : wq (Rn d) cd_105 Rt K 323 (78, [.ref 46, .null, .null], [], y) := ⟨na_ok (n := 60) (by omega), ⟨(nw_lt hz).trans h46, next⟩⟩
set_option maxRecDepth 4000 in
theorem mi_20 (y : ZS) (h46 : tg y 46 = 17) (hz : 46 < zn y) (next : wq (Rn d) cd_105 Rt K 315 (86, [.ref 46, .null, .null], [], sP (nw y 1 60 60) 46 24 (zn y))) : wq (Rn d) cd_105 Rt K 319 (82, [.ref 46, .null, .null], [], y) := ⟨na_ok (n := 60) (by omega), ⟨(nw_lt hz).trans h46, next⟩⟩
set_option maxRecDepth 4000 in
theorem mi_21 (y : ZS) (h46 : tg y 46 = 17) (hz : 46 < zn y) (next : wq (Rn d) cd_105 Rt K 311 (90, [.ref 46, .null, .null], [], sP (nw y 2 60 60) 46 25 (zn y))) : wq (Rn d) cd_105 Rt K 315 (86, [.ref 46, .null, .null], [], y) := ⟨na_ok (n := 60) (by omega), ⟨(nw_lt hz).trans h46, next⟩⟩
set_option maxRecDepth 4000 in
theorem mi_22 (y : ZS) (h46 : tg y 46 = 17) (hz : 46 < zn y) (next : wq (Rn d) cd_105 Rt K 307 (94, [.ref 46, .null, .null], [], sP (nw y 1 60 60) 46 26 (zn y))) : wq (Rn d) cd_105 Rt K 311 (90, [.ref 46, .null, .null], [], y) := ⟨na_ok (n := 60) (by omega), ⟨(nw_lt hz).trans h46, next⟩⟩
set_option maxRecDepth 4000 in
theorem mi_23 (y : ZS) (h46 : tg y 46 = 17) (hz : 46 < zn y) (next : wq (Rn d) cd_105 Rt K 303 (98, [.ref 46, .null, .null], [], sP (nw y 2 60 60) 46 27 (zn y))) : wq (Rn d) cd_105 Rt K 307 (94, [.ref 46, .null, .null], [], y) := ⟨na_ok (n := 60) (by omega), ⟨(nw_lt hz).trans h46, next⟩⟩
set_option maxRecDepth 4000 in
theorem mi_24 (y : ZS) (h46 : tg y 46 = 17) (hz : 46 < zn y) (next : wq (Rn d) cd_105 Rt K 299 (102, [.ref 46, .null, .null], [], sP (nw y 1 60 60) 46 28 (zn y))) : wq (Rn d) cd_105 Rt K 303 (98, [.ref 46, .null, .null], [], y) := ⟨na_ok (n := 60) (by omega), ⟨(nw_lt hz).trans h46, next⟩⟩
set_option maxRecDepth 4000 in
theorem mi_25 (y : ZS) (h46 : tg y 46 = 17) (hz : 46 < zn y) (next : wq (Rn d) cd_105 Rt K 295 (106, [.ref 46, .null, .null], [], sP (nw y 1 20 20) 46 30 (zn y))) : wq (Rn d) cd_105 Rt K 299 (102, [.ref 46, .null, .null], [], y) := ⟨na_ok (n := 20) (by omega), ⟨(nw_lt hz).trans h46, next⟩⟩
set_option maxRecDepth 4000 in
theorem mi_26 (y : ZS) (h46 : tg y 46 = 17) (hz : 46 < zn y) (next : wq (Rn d) cd_105 Rt K 291 (110, [.ref 46, .null, .null], [], sP (nw y 1 8 8) 46 32 (zn y))) : wq (Rn d) cd_105 Rt K 295 (106, [.ref 46, .null, .null], [], y) := ⟨na_ok (n := 8) (by omega), ⟨(nw_lt hz).trans h46, next⟩⟩
set_option maxRecDepth 4000 in
theorem mi_27 (y : ZS) (h46 : tg y 46 = 17) (hz : 46 < zn y) (next : wq (Rn d) cd_105 Rt K 287 (114, [.ref 46, .null, .null], [], sP (nw y 2 20 20) 46 33 (zn y))) : wq (Rn d) cd_105 Rt K 291 (110, [.ref 46, .null, .null], [], y) := ⟨na_ok (n := 20) (by omega), ⟨(nw_lt hz).trans h46, next⟩⟩
theorem mi_end {y : ZS} (g : K 229 [.ref 46, .int (nI 0), .null] [] y) : wq (Rn d) cd_105 Rt K 287 (114, [.ref 46, .null, .null], [], y) := g
end MI
theorem M_init (d : Nat) (z : ZS) (hn : zn z = 47) (h46 : tg z 46 = 17) : Rn (d + 1) i_M_init [.ref 46] z none (mz (maz z 28) (VZ (maz z 28)) (ouF (AZ (maz z 28)) 4)) := by
  have hM := maz_MT hn h46
  have tj : ∀ j, j ≤ 28 → tg (maz z j) 46 = 17 ∧ 46 < zn (maz z j) := fun j hj => by
    obtain ⟨h1, h2, h3, h4, h5⟩ := maz_f z (by omega) j hj
    exact ⟨(h3 46 (by omega)).1.trans h46, by omega⟩
  refine rn_i (full := cd_105) (show ¬ (46 : Nat) = 0 by decide) (ok_n rfl) rfl (fun K hK => ?_)
  have e0 : maz z 28 = mz (maz z 28) (VZ (maz z 28)) (ouF (AZ (maz z 28)) 0) := (mz_id (maz z 28)).symm
  have go : ∀ m c, c + m = 4 → ∀ l2 : Value, K 229 [.ref 46, .int (nI c), l2] [] (mz (maz z 28) (VZ (maz z 28)) (ouF (AZ (maz z 28)) c)) := by
    generalize VZ (maz z 28) = V at *
    generalize AZ (maz z 28) = A at *
    generalize maz z 28 = y at hM hK
    intro m
    induction m with
    | zero =>
      intro c hc l2
      have : c = 4 := by omega
      subst this
      exact hK 116 _ _ _ ⟨fun c1 => ⟨rfl, rfl⟩, fun c1 => absurd (Int32.le_refl _) c1⟩
    | succ m ih =>
      intro c hc l2
      have ck : (nI c).toNatClampNeg = c := nI_clamp (by omega)
      have v4 : vp_in (nI c) 4 := vp_in_nI (by omega) (by omega)
      refine hK 116 _ _ _ ⟨fun c1 => absurd c1 (nI_ge (a := c) (b := 4) (by omega) (by decide)), fun c1 => ⟨mt_g hM 0 (by decide), ⟨mt_l hM 0 (by decide) v4, ⟨mt_g hM 1 (by decide), ⟨mt_l hM 1 (by decide) v4, ?_⟩⟩⟩⟩⟩
      show K 253 [.ref 46, .int (nI c), .int (nI 0)] [] (sI (sI (mz y V (ouF A c)) 47 (nI c).toNatClampNeg 720) 48 (nI c).toNatClampNeg 113)
      rw [ck, mz_sA (by decide) (by decide), mz_sA (by decide) (by decide)]
      show K 253 [.ref 46, .int (nI c), .int (nI 0)] [] (mz y V (inF (u2 (u2 (ouF A c) 0 c 720) 1 c 113) c 0))
      have fin := ih (c + 1) (by omega) (.int (nI 18))
      rw [nI_succ c] at fin
      have fin : K 229 [.ref 46, .int (nI c + 1), .int (nI 18)] [] (mz y V (inF (u2 (u2 (ouF A c) 0 c 720) 1 c 113) c 18)) := fin
      generalize u2 (u2 (ouF A c) 0 c 720) 1 c 113 = B at *
      refine loop_up (P := fun h => K 253 [.ref 46, .int (nI c), .int (nI h)] [] (mz y V (inF B c h))) 18 (fun h hh ih2 => ?_) 0 (by omega)
      by_cases e : h < 18
      · have ih2 := ih2 e
        rw [nI_succ h] at ih2
        have ix : (18 : Int32) * nI c + nI h = nI (18 * c + h) := ix18 c h
        have cx : ((18 : Int32) * nI c + nI h).toNatClampNeg = 18 * c + h := by rw [ix]; exact nI_clamp (by omega)
        have v72 : vp_in ((18 : Int32) * nI c + nI h) 72 := by rw [ix]; exact vp_in_nI (by omega) (by omega)
        refine hK 131 _ _ _ ⟨fun c1 => absurd c1 (nI_ge (a := h) (b := 18) e (by decide)), fun c1 => ⟨mt_g hM 2 (by decide), ⟨mt_l hM 2 (by decide) v72, ⟨mt_g hM 3 (by decide), ⟨mt_l hM 3 (by decide) v72, ?_⟩⟩⟩⟩⟩
        show K 253 [.ref 46, .int (nI c), .int (nI h + 1)] [] (sI (sI (mz y V (inF B c h)) 49 ((18 : Int32) * nI c + nI h).toNatClampNeg 4) 50 ((18 : Int32) * nI c + nI h).toNatClampNeg (nI h + 1))
        rw [cx, mz_sA (by decide) (by decide), mz_sA (by decide) (by decide), ← nI_succ]
        rw [← nI_succ] at ih2
        exact ih2
      · have : h = 18 := by omega
        subst this
        exact hK 131 _ _ _ ⟨fun c1 => fin, fun c1 => absurd (Int32.le_refl _) c1⟩
  have g := go 4 0 (by omega) .null
  rw [← e0] at g
  refine hK 0 _ _ _ ⟨(show ¬ (46 : Nat) = 0 by decide), ?_⟩
  exact mi_0 (maz z 0) (tj 0 (by omega)).1 (tj 0 (by omega)).2 (mi_1 (maz z 1) (tj 1 (by omega)).1 (tj 1 (by omega)).2 (mi_2 (maz z 2) (tj 2 (by omega)).1 (tj 2 (by omega)).2 (mi_3 (maz z 3) (tj 3 (by omega)).1 (tj 3 (by omega)).2 (mi_4 (maz z 4) (tj 4 (by omega)).1 (tj 4 (by omega)).2 (mi_5 (maz z 5) (tj 5 (by omega)).1 (tj 5 (by omega)).2 (mi_6 (maz z 6) (tj 6 (by omega)).1 (tj 6 (by omega)).2 (mi_7 (maz z 7) (tj 7 (by omega)).1 (tj 7 (by omega)).2 (mi_8 (maz z 8) (tj 8 (by omega)).1 (tj 8 (by omega)).2 (mi_9 (maz z 9) (tj 9 (by omega)).1 (tj 9 (by omega)).2 (mi_10 (maz z 10) (tj 10 (by omega)).1 (tj 10 (by omega)).2 (mi_11 (maz z 11) (tj 11 (by omega)).1 (tj 11 (by omega)).2 (mi_12 (maz z 12) (tj 12 (by omega)).1 (tj 12 (by omega)).2 (mi_13 (maz z 13) (tj 13 (by omega)).1 (tj 13 (by omega)).2 (mi_14 (maz z 14) (tj 14 (by omega)).1 (tj 14 (by omega)).2 (mi_15 (maz z 15) (tj 15 (by omega)).1 (tj 15 (by omega)).2 (mi_16 (maz z 16) (tj 16 (by omega)).1 (tj 16 (by omega)).2 (mi_17 (maz z 17) (tj 17 (by omega)).1 (tj 17 (by omega)).2 (mi_18 (maz z 18) (tj 18 (by omega)).1 (tj 18 (by omega)).2 (mi_19 (maz z 19) (tj 19 (by omega)).1 (tj 19 (by omega)).2 (mi_20 (maz z 20) (tj 20 (by omega)).1 (tj 20 (by omega)).2 (mi_21 (maz z 21) (tj 21 (by omega)).1 (tj 21 (by omega)).2 (mi_22 (maz z 22) (tj 22 (by omega)).1 (tj 22 (by omega)).2 (mi_23 (maz z 23) (tj 23 (by omega)).1 (tj 23 (by omega)).2 (mi_24 (maz z 24) (tj 24 (by omega)).1 (tj 24 (by omega)).2 (mi_25 (maz z 25) (tj 25 (by omega)).1 (tj 25 (by omega)).2 (mi_26 (maz z 26) (tj 26 (by omega)).1 (tj 26 (by omega)).2 (mi_27 (maz z 27) (tj 27 (by omega)).1 (tj 27 (by omega)).2 (mi_end g))))))))))))))))))))))))))))
