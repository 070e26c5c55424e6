/-! Bounds: no MARK, HALF or RAW is the class's NONE. Own work. -/
theorem ti_add {x y : Int32} (h1 : -2147483648 ≤ x.toInt + y.toInt) (h2 : x.toInt + y.toInt ≤ 2147483647) : (x + y).toInt = x.toInt + y.toInt := by
  rw [Int32.toInt_add]; exact Int.bmod_eq_of_le (by omega) (by omega)
theorem ti_sub {x y : Int32} (h1 : -2147483648 ≤ x.toInt - y.toInt) (h2 : x.toInt - y.toInt ≤ 2147483647) : (x - y).toInt = x.toInt - y.toInt := by
  rw [Int32.toInt_sub]; exact Int.bmod_eq_of_le (by omega) (by omega)
theorem ti_mul {x y : Int32} (h1 : -2147483648 ≤ x.toInt * y.toInt) (h2 : x.toInt * y.toInt ≤ 2147483647) : (x * y).toInt = x.toInt * y.toInt := by
  rw [Int32.toInt_mul]; exact Int.bmod_eq_of_le (by omega) (by omega)
theorem xor_sgn {x y : Int32} (hy : 0 < y.toInt) : 0 ≤ x ^^^ y ↔ 0 ≤ x.toInt := by
  have h1 : (x ^^^ y).toBitVec.msb = (x.toBitVec.msb ^^ y.toBitVec.msb) := by rw [Int32.toBitVec_xor, BitVec.msb_xor]
  have h2 : y.toBitVec.msb = false := by
    rw [BitVec.msb_eq_toInt, decide_eq_false_iff_not]
    show ¬ y.toInt < 0
    omega
  rw [h2, Bool.xor_false, BitVec.msb_eq_toInt, BitVec.msb_eq_toInt, decide_eq_decide] at h1
  have h1 : (x ^^^ y).toInt < 0 ↔ x.toInt < 0 := h1
  rw [i32_le, show (0 : Int32).toInt = 0 by decide]
  omega
theorem fdv_spec {x y : Int32} (hy : 0 < y.toInt) : y.toInt * (fdv x y).toInt ≤ x.toInt ∧ x.toInt < y.toInt * (fdv x y).toInt + y.toInt := by
  have xl : -2147483648 ≤ x.toInt := Int32.le_toInt x
  have xu : x.toInt ≤ 2147483647 := by have := Int32.toInt_lt x; omega
  have yu : y.toInt ≤ 2147483647 := by have := Int32.toInt_lt y; omega
  have hd : (x / y).toInt = x.toInt.tdiv y.toInt := by
    rw [Int32.toInt_div]
    have h1 : (x.toInt.tdiv y.toInt).natAbs ≤ x.toInt.natAbs := by rw [Int.natAbs_tdiv]; exact Nat.div_le_self _ _
    by_cases h : 0 ≤ x.toInt
    · have := Int.tdiv_nonneg h (by omega : 0 ≤ y.toInt)
      exact Int.bmod_eq_of_le (by omega) (by omega)
    · have : x.toInt.tdiv y.toInt ≤ 0 := by
        have e : x.toInt = -(-x.toInt) := by omega
        rw [e, Int.neg_tdiv]
        have := Int.tdiv_nonneg (show 0 ≤ -x.toInt by omega) (by omega : 0 ≤ y.toInt)
        omega
      exact Int.bmod_eq_of_le (by omega) (by omega)
  unfold fdv
  by_cases h : 0 ≤ x.toInt
  · rw [if_pos ((xor_sgn hy).mpr h), hd, Int.tdiv_eq_ediv_of_nonneg h]
    have e1 := Int.mul_ediv_self_le (x := x.toInt) (k := y.toInt) (by omega)
    have e2 := Int.lt_mul_ediv_self_add (x := x.toInt) (k := y.toInt) hy
    exact ⟨e1, e2⟩
  · rw [if_neg (fun w => h ((xor_sgn hy).mp w))]
    have en : x.toInt.tdiv y.toInt = -((-x.toInt) / y.toInt) := by
      have e : x.toInt = -(-x.toInt) := by omega
      conv => lhs; rw [e]
      rw [Int.neg_tdiv, Int.tdiv_eq_ediv_of_nonneg (by omega)]
    have e1 := Int.mul_ediv_self_le (x := -x.toInt) (k := y.toInt) (by omega)
    have e2 := Int.lt_mul_ediv_self_add (x := -x.toInt) (k := y.toInt) hy
    have em : y.toInt * (x / y).toInt = -(y.toInt * ((-x.toInt) / y.toInt)) := by rw [hd, en, Int.mul_neg]
    have e0 : 0 ≤ y.toInt * ((-x.toInt) / y.toInt) := Int.mul_nonneg (by omega) (Int.ediv_nonneg (by omega) (by omega))
    have hm : (x / y * y).toInt = y.toInt * (x / y).toInt := by
      rw [Int.mul_comm, ti_mul]
      · rw [Int.mul_comm, em]; omega
      · rw [Int.mul_comm, em]; omega
    by_cases hq : x / y * y = x
    · rw [if_pos hq]
      rw [i32_eq, hm] at hq
      omega
    · rw [if_neg hq]
      rw [i32_eq, hm] at hq
      have q0 : (x / y).toInt = -((-x.toInt) / y.toInt) := by rw [hd, en]
      have qn : 0 ≤ (-x.toInt) / y.toInt := Int.ediv_nonneg (by omega) (by omega)
      have qu : (-x.toInt) / y.toInt ≤ -x.toInt := Int.ediv_le_self _ (by omega)
      have qlt : (-x.toInt) / y.toInt < 2147483648 := by
        rcases Int.lt_or_le ((-x.toInt) / y.toInt) 2147483648 with w | w
        · exact w
        · exfalso
          have : (-x.toInt) / y.toInt = 2147483648 := by omega
          have hx : x.toInt = -2147483648 := by omega
          rw [this] at e1 em
          have : y.toInt = 1 := by omega
          exact hq (by omega)
      have es : (x / y - 1).toInt = (x / y).toInt - 1 := by
        rw [ti_sub]
        · rfl
        · rw [show (1 : Int32).toInt = 1 by decide]; omega
        · rw [show (1 : Int32).toInt = 1 by decide]; omega
      rw [es, Int.mul_sub, Int.mul_one]
      omega
theorem rnd_spec {x y : Int32} (h1 : 1 ≤ y.toInt) (h2 : y.toInt ≤ 2000) (hx : -500000000 ≤ x.toInt) (hx' : x.toInt ≤ 500000000) : 2 * (y.toInt * (rnd x y).toInt) ≤ 2 * x.toInt + y.toInt ∧ 2 * x.toInt + y.toInt < 2 * (y.toInt * (rnd x y).toInt) + 2 * y.toInt := by
  have t2 : (2 : Int32).toInt = 2 := by decide
  have ey : (2 * y).toInt = 2 * y.toInt := by rw [ti_mul] <;> rw [t2] <;> omega
  have ex : (2 * x).toInt = 2 * x.toInt := by rw [ti_mul] <;> rw [t2] <;> omega
  have es : (2 * x + y).toInt = 2 * x.toInt + y.toInt := by rw [ti_add] <;> rw [ex] <;> omega
  have := fdv_spec (x := 2 * x + y) (y := 2 * y) (by rw [ey]; omega)
  unfold rnd
  rw [es, ey, Int.mul_assoc] at this
  omega
/-- all bounds of the data -/
def VD (A : Nat → Nat → Int32) (n R : Nat) : Prop := (∀ c, c < 4 → (500 ≤ (A 0 c).toInt ∧ (A 0 c).toInt ≤ 800) ∧ (55 ≤ (A 1 c).toInt ∧ (A 1 c).toInt ≤ 155) ∧ ∀ h, h < 18 → 3 ≤ (A 2 (18 * c + h)).toInt ∧ (A 2 (18 * c + h)).toInt ≤ 5) ∧ (∀ k, k < n → ∀ h, h < 18 → -1 ≤ (A 15 (18 * k + h)).toInt ∧ (A 15 (18 * k + h)).toInt ≤ 15) ∧ (∀ k, k < n → -200 ≤ (A 13 k).toInt ∧ (A 13 k).toInt ≤ 900) ∧ (∀ c day, -1 ≤ (rgF A c day R).toInt ∧ (rgF A c day R).toInt ≤ 3) ∧ (∀ k, k < n → A 14 k = 0 ∨ A 14 k = 1)
def inB (B : Int) (v : Int32) : Prop := -B ≤ v.toInt ∧ v.toInt ≤ 10000
theorem sw_bd (w : Nat → Int32) (s : List Nat) (B : Int) (h0 : 0 ≤ B) (hB : B ≤ 80000) (hw : ∀ c, inB B (w c)) : ∀ k, k ≤ 8 → -(B * k) ≤ (sw w s k).toInt ∧ (sw w s k).toInt ≤ 10000 * k
  | 0, _ => by
    show -(B * (0 : Nat)) ≤ ((0 : Int32)).toInt ∧ ((0 : Int32)).toInt ≤ 10000 * ((0 : Nat) : Int)
    rw [show (0 : Int32).toInt = 0 by decide]; simp
  | k + 1, hk => by
    have ih := sw_bd w s B h0 hB hw k (by omega)
    have hc := hw (s.getD k 0)
    unfold inB at hc
    have hkB : B * (k : Int) ≤ 80000 * (k : Int) := Int.mul_le_mul_of_nonneg_right hB (by omega)
    have e : (sw w s (k + 1)).toInt = (sw w s k).toInt + (w (s.getD k 0)).toInt := by
      show (sw w s k + w (s.getD k 0)).toInt = _
      rw [ti_add] <;> omega
    rw [e]
    rw [show ((k + 1 : Nat) : Int) = (k : Int) + 1 by omega, Int.mul_add, Int.mul_one]
    omega
theorem rawS_bd (w : Nat → Int32) (m : Nat) (hm : m ≤ 20) (B : Int) (h0 : 0 ≤ B) (hB : B ≤ 80000) (hw : ∀ c, inB B (w c)) (ht : ¬ tkN m = 0) : -(B + 20) ≤ (rawS w m).toInt ∧ (rawS w m).toInt ≤ 540 := by
  have tk := tkN_le m hm
  have hs := sw_bd w (sp w m) B h0 hB hw (tkN m) tk.2
  have tn : (nI (tkN m)).toInt = (tkN m : Int) := nI_toInt (by omega)
  have hkB : B * (tkN m : Int) ≤ 80000 * (tkN m : Int) := Int.mul_le_mul_of_nonneg_right hB (by omega)
  have sp' := rnd_spec (x := sw w (sp w m) (tkN m)) (y := nI (tkN m)) (by rw [tn]; omega) (by rw [tn]; omega) (by omega) (by omega)
  rw [tn] at sp'
  have hl : 0 ≤ (lsF m).toInt ∧ (lsF m).toInt ≤ 20 := by
    unfold lsF
    split
    · decide
    · split <;> decide
  generalize hSS : sw w (sp w m) (tkN m) = S at sp' hs
  have q1 : -B ≤ (rnd S (nI (tkN m))).toInt := by
    rcases Int.lt_or_le (rnd S (nI (tkN m))).toInt (-B) with w' | w'
    · exfalso
      have : (tkN m : Int) * (rnd S (nI (tkN m))).toInt ≤ (tkN m : Int) * (-B - 1) := Int.mul_le_mul_of_nonneg_left (by omega) (by omega)
      rw [Int.mul_sub, Int.mul_neg, Int.mul_one, Int.mul_comm (tkN m : Int) B] at this
      omega
    · exact w'
  have q2 : (rnd S (nI (tkN m))).toInt ≤ 20000 := by
    rcases Int.lt_or_le 20000 (rnd S (nI (tkN m))).toInt with w' | w'
    · exfalso
      have : (tkN m : Int) * 20001 ≤ (tkN m : Int) * (rnd S (nI (tkN m))).toInt := Int.mul_le_mul_of_nonneg_left (by omega) (by omega)
      omega
    · exact w'
  have es : (rnd S (nI (tkN m)) - lsF m).toInt = (rnd S (nI (tkN m))).toInt - (lsF m).toInt := by rw [ti_sub] <;> omega
  unfold rawS
  rw [hSS]
  show -(B + 20) ≤ (if rnd S (nI (tkN m)) - lsF m < 540 then rnd S (nI (tkN m)) - lsF m else 540).toInt ∧ (if rnd S (nI (tkN m)) - lsF m < 540 then rnd S (nI (tkN m)) - lsF m else 540).toInt ≤ 540
  split
  · rename_i h
    rw [i32_lt, show (540 : Int32).toInt = 540 by decide] at h
    omega
  · rw [show (540 : Int32).toInt = 540 by decide]; omega
def inM (B : Int) (b : Bk) : Prop := ∀ x v, b.1 x = some v → inB B v
def inN (B : Int) (v : Int32) : Prop := -(B + 20) ≤ v.toInt ∧ v.toInt ≤ 540
theorem rwL_bd {b : Bk} {B : Int} (h0 : 0 ≤ B) (hB : B ≤ 80000) (hb : inM B b) (l : List Nat) (ht : ¬ tkN (m20 l) = 0) : inN B (rwL b l) := by
  refine rawS_bd (wl b l) (m20 l) (by unfold m20; omega) B h0 hB (fun c => ?_) ht
  unfold wl mv
  cases h : b.1 (l.getD c 0) with
  | none =>
    show -B ≤ ((0 : Int32)).toInt ∧ ((0 : Int32)).toInt ≤ 10000
    rw [show (0 : Int32).toInt = 0 by decide]; omega
  | some v => exact hb _ v h
theorem lwL_bd {b : Bk} {B : Int} (h0 : 0 ≤ B) (hB : B ≤ 80000) (hb : inM B b) (D : Nat → Int32) (day : Int32) : ∀ (l : List Nat) (low : Option Int32) (dm : Int32), (∀ v, low = some v → inN B v) → ∀ v, lwL b D day l low dm = some v → inN B v
  | [], low, dm, h2, v, h => h2 v h
  | k :: t, low, dm, h2, v, h => by
    unfold lwL at h
    split at h
    · exact h2 v h
    · rename_i h20
      split at h
      · exact h2 v h
      · split at h
        · exact lwL_bd h0 hB hb D day t low dm h2 v h
        · refine lwL_bd h0 hB hb D day t _ _ (fun u hu => ?_) v h
          have ns : inN B (rwL b (k :: t)) := rwL_bd h0 hB hb (k :: t) (by unfold m20; rw [tkN_0]; omega)
          cases hu
          rcases (mnO_le low (rwL b (k :: t))).2.2 with q | q
          · rw [q]; exact ns
          · exact h2 _ q
theorem numS_bd {B : Int} (h0 : 0 ≤ B) (hB : B ≤ 80000) (ro lo : Option Int32) (hr : ∀ v, ro = some v → inN B v) (hl : ∀ v, lo = some v → inN B v) : inN B (numS ro lo) := by
  cases ro with
  | none =>
    show -(B + 20) ≤ ((540 : Int32)).toInt ∧ ((540 : Int32)).toInt ≤ 540
    rw [show (540 : Int32).toInt = 540 by decide]; omega
  | some r =>
    have hr := hr r rfl
    cases lo with
    | none => exact hr
    | some l =>
      have hl := hl l rfl
      unfold inN at hr hl ⊢
      show -(B + 20) ≤ (if l + 30 < r then (if l + 50 < l + 30 + (r - l - 30) / 2 then l + 50 else l + 30 + (r - l - 30) / 2) else r).toInt ∧ (if l + 30 < r then (if l + 50 < l + 30 + (r - l - 30) / 2 then l + 50 else l + 30 + (r - l - 30) / 2) else r).toInt ≤ 540
      have t30 : (30 : Int32).toInt = 30 := by decide
      have t50 : (50 : Int32).toInt = 50 := by decide
      have e1 : (l + 30).toInt = l.toInt + 30 := by rw [ti_add] <;> rw [t30] <;> omega
      have e2 : (l + 50).toInt = l.toInt + 50 := by rw [ti_add] <;> rw [t50] <;> omega
      have e3 : (r - l).toInt = r.toInt - l.toInt := by rw [ti_sub] <;> omega
      have e4 : (r - l - 30).toInt = r.toInt - l.toInt - 30 := by rw [ti_sub] <;> rw [e3, t30] <;> omega
      split
      · rename_i h
        rw [i32_lt, e1] at h
        have e5 : ((r - l - 30) / 2).toInt = (r.toInt - l.toInt - 30) / 2 := by
          rw [Int32.toInt_div, e4, show (2 : Int32).toInt = 2 by decide, Int.tdiv_eq_ediv_of_nonneg (by omega)]
          exact Int.bmod_eq_of_le (by omega) (by omega)
        have e6 : (l + 30 + (r - l - 30) / 2).toInt = l.toInt + 30 + (r.toInt - l.toInt - 30) / 2 := by rw [ti_add] <;> rw [e1, e5] <;> omega
        split
        · rename_i h'
          rw [i32_lt, e2, e6] at h'
          rw [e2]; omega
        · rw [e6]; omega
      · exact hr
theorem nuP_bd {b : Bk} {B : Int} (h0 : 0 ≤ B) (hB : B ≤ 80000) (hb : inM B b) (A : Nat → Nat → Int32) (t : List Nat) (day : Int32) : inN B (nuP b A t day) := by
  refine numS_bd h0 hB _ _ (fun v hv => ?_) (fun v hv => lwL_bd h0 hB hb (A 10) day _ none (-1) (fun u hu => by cases hu) v hv)
  unfold rawO at hv
  split at hv
  · cases hv
  · rename_i ht
    cases hv
    exact rwL_bd h0 hB hb _ ht
theorem pars_bd (A : Nat → Nat → Int32) (c : Nat) (h : ∀ h, h < 18 → 3 ≤ (A 2 (18 * c + h)).toInt ∧ (A 2 (18 * c + h)).toInt ≤ 5) : ∀ k : Nat, k ≤ 18 → 3 * (k : Int) ≤ (parsF A c k).toInt ∧ (parsF A c k).toInt ≤ 5 * (k : Int)
  | 0, _ => by
    show 3 * ((0 : Nat) : Int) ≤ ((0 : Int32)).toInt ∧ ((0 : Int32)).toInt ≤ 5 * ((0 : Nat) : Int)
    rw [show (0 : Int32).toInt = 0 by decide]; omega
  | k + 1, hk => by
    have ih := pars_bd A c h k (by omega)
    have := h k (by omega)
    have e : (parsF A c (k + 1)).toInt = (parsF A c k).toInt + (A 2 (18 * c + k)).toInt := by
      show (parsF A c k + A 2 (18 * c + k)).toInt = _
      rw [ti_add] <;> omega
    rw [e]; omega
/-- STROKES GIVEN: g with 2260 g about 2 N s + 226 (rating - 10 pars) -/
theorem gvT_bd {A : Nat → Nat → Int32} {n R c : Nat} (hV : VD A n R) (hc : c < 4) {N : Int32} {B : Int} (h0 : 0 ≤ B) (hB : B ≤ 80000) (hN : inN B N) : ∃ P : Int, 54 ≤ P ∧ P ≤ 90 ∧ 2260 * (gvT N A c).toInt ≤ 2 * ((A 1 c).toInt * N.toInt) + 226 * ((A 0 c).toInt - 10 * P) + 1130 ∧ 2 * ((A 1 c).toInt * N.toInt) + 226 * ((A 0 c).toInt - 10 * P) + 1130 < 2260 * (gvT N A c).toInt + 2260 ∧ -12500000 ≤ (A 1 c).toInt * N.toInt ∧ (A 1 c).toInt * N.toInt ≤ 83700 := by
  obtain ⟨⟨r1, r2⟩, ⟨s1, s2⟩, hp⟩ := hV.1 c hc
  obtain ⟨p1, p2⟩ := pars_bd A c hp 18 (Nat.le_refl _)
  obtain ⟨n1, n2⟩ := hN
  have T1 : (A 1 c).toInt * N.toInt ≤ (A 1 c).toInt * 540 := Int.mul_le_mul_of_nonneg_left n2 (by omega)
  have T2 : (A 1 c).toInt * (-80020) ≤ (A 1 c).toInt * N.toInt := Int.mul_le_mul_of_nonneg_left (by omega) (by omega)
  have t10 : (10 : Int32).toInt = 10 := by decide
  have t113 : (113 : Int32).toInt = 113 := by decide
  have e1 : (N * A 1 c).toInt = (A 1 c).toInt * N.toInt := by rw [ti_mul] <;> rw [Int.mul_comm] <;> omega
  have e2 : (10 * parsF A c 18).toInt = 10 * (parsF A c 18).toInt := by rw [ti_mul] <;> rw [t10] <;> omega
  have e3 : (A 0 c - 10 * parsF A c 18).toInt = (A 0 c).toInt - 10 * (parsF A c 18).toInt := by rw [ti_sub] <;> rw [e2] <;> omega
  have e4 : (113 * (A 0 c - 10 * parsF A c 18)).toInt = 113 * ((A 0 c).toInt - 10 * (parsF A c 18).toInt) := by rw [ti_mul] <;> rw [t113, e3] <;> omega
  have e5 : (N * A 1 c + 113 * (A 0 c - 10 * parsF A c 18)).toInt = (A 1 c).toInt * N.toInt + 113 * ((A 0 c).toInt - 10 * (parsF A c 18).toInt) := by rw [ti_add] <;> rw [e1, e4] <;> omega
  have sp' := rnd_spec (x := N * A 1 c + 113 * (A 0 c - 10 * parsF A c 18)) (y := 1130) (by decide) (by decide) (by rw [e5]; omega) (by rw [e5]; omega)
  rw [e5, show (1130 : Int32).toInt = 1130 by decide] at sp'
  have eg : gvT N A c = rnd (N * A 1 c + 113 * (A 0 c - 10 * parsF A c 18)) 1130 := rfl
  rw [eg]
  exact ⟨(parsF A c 18).toInt, by omega, by omega, by omega, by omega, by omega, by omega⟩
/-- the sum of ADJUSTED by q = g / 18 -/
theorem asF_bd {A : Nat → Nat → Int32} {n R c k : Nat} (hV : VD A n R) (hc : c < 4) (hk : k < n) (g : Int32) (hg : -20000 ≤ g.toInt ∧ g.toInt ≤ 20000) (f : Nat) : ∃ q : Int, 18 * q ≤ g.toInt ∧ g.toInt < 18 * q + 18 ∧ ∀ j, f + j ≤ 18 → ((3 + q) * (j : Int) ≤ (asF A k c g f j).toInt ∨ (j : Int) ≤ (asF A k c g f j).toInt) ∧ (-2 ≤ q → (j : Int) ≤ (asF A k c g f j).toInt) ∧ (q < -2 → (3 + q) * (j : Int) ≤ (asF A k c g f j).toInt) ∧ (asF A k c g f j).toInt ≤ (q + 8) * (j : Int) := by
  have fs := fdv_spec (x := g) (y := 18) (by decide)
  rw [show (18 : Int32).toInt = 18 by decide] at fs
  refine ⟨(fdv g 18).toInt, by omega, by omega, fun j hj => ?_⟩
  have key : (-2 ≤ (fdv g 18).toInt → (j : Int) ≤ (asF A k c g f j).toInt) ∧ ((fdv g 18).toInt < -2 → (3 + (fdv g 18).toInt) * (j : Int) ≤ (asF A k c g f j).toInt) ∧ (asF A k c g f j).toInt ≤ ((fdv g 18).toInt + 8) * (j : Int) := by
    induction j with
    | zero =>
      show (_ → ((0 : Nat) : Int) ≤ ((0 : Int32)).toInt) ∧ (_ → _ * ((0 : Nat) : Int) ≤ ((0 : Int32)).toInt) ∧ ((0 : Int32)).toInt ≤ _ * ((0 : Nat) : Int)
      rw [show (0 : Int32).toInt = 0 by decide]; simp
    | succ j ih =>
      obtain ⟨i1, i2, i3⟩ := ih (by omega)
      obtain ⟨p1, p2⟩ := (hV.1 c hc).2.2 (f + j) (by omega)
      obtain ⟨u1, u2⟩ := hV.2.1 k hk (f + j) (by omega)
      have t2 : (2 : Int32).toInt = 2 := by decide
      have es0 : asF A k c g f (j + 1) = asF A k c g f j + adF (A 15 (18 * k + (f + j))) (A 2 (18 * c + (f + j)) + gvF g (A 3 (18 * c + (f + j)))) := rfl
      generalize hq : (fdv g 18).toInt = q at *
      have gv : q ≤ (gvF g (A 3 (18 * c + (f + j)))).toInt ∧ (gvF g (A 3 (18 * c + (f + j)))).toInt ≤ q + 1 := by
        unfold gvF
        split
        · rw [Int32.add_zero, hq]; omega
        · rw [ti_add] <;> rw [hq, show (1 : Int32).toInt = 1 by decide] <;> omega
      generalize gvF g (A 3 (18 * c + (f + j))) = G at *
      have e1 : (A 2 (18 * c + (f + j)) + G).toInt = (A 2 (18 * c + (f + j))).toInt + G.toInt := by rw [ti_add] <;> omega
      have e2 : (A 2 (18 * c + (f + j)) + G + 2).toInt = (A 2 (18 * c + (f + j))).toInt + G.toInt + 2 := by rw [ti_add] <;> rw [e1, t2] <;> omega
      have ad : (-2 ≤ q → 1 ≤ (adF (A 15 (18 * k + (f + j))) (A 2 (18 * c + (f + j)) + G)).toInt) ∧ (q < -2 → 3 + q ≤ (adF (A 15 (18 * k + (f + j))) (A 2 (18 * c + (f + j)) + G)).toInt) ∧ (adF (A 15 (18 * k + (f + j))) (A 2 (18 * c + (f + j)) + G)).toInt ≤ q + 8 := by
        unfold adF
        split
        · rw [e1]; omega
        · rename_i h0
          split
          · rw [e2]; omega
          · rename_i h1
            rw [i32_eq, show (0 : Int32).toInt = 0 by decide] at h0
            rw [i32_eq, show (-1 : Int32).toInt = -1 by decide] at h1
            split
            · rename_i h2
              rw [i32_le, e2] at h2
              omega
            · rename_i h2
              rw [i32_le, e2] at h2
              rw [e2]; omega
      generalize adF (A 15 (18 * k + (f + j))) (A 2 (18 * c + (f + j)) + G) = a at *
      have hq18 : -1200 ≤ q ∧ q ≤ 1200 := by omega
      have jb : (q + 8) * (j : Int) ≤ 1208 * (j : Int) := Int.mul_le_mul_of_nonneg_right (by omega) (by omega)
      have jl : (-1197) * (j : Int) ≤ (3 + q) * (j : Int) := Int.mul_le_mul_of_nonneg_right (by omega) (by omega)
      have lb : -22000 ≤ (asF A k c g f j).toInt := by
        rcases Int.lt_or_le q (-2) with w | w
        · have := i2 w; omega
        · have := i1 w; omega
      have e : (asF A k c g f j + a).toInt = (asF A k c g f j).toInt + a.toInt := by rw [ti_add] <;> omega
      have es : (asF A k c g f (j + 1)).toInt = (asF A k c g f j).toInt + a.toInt := by
        rw [← e, es0]
      rw [es, show ((j + 1 : Nat) : Int) = (j : Int) + 1 by omega, Int.mul_add, Int.mul_add, Int.mul_one, Int.mul_one]
      refine ⟨fun w => ?_, fun w => ?_, ?_⟩
      · have := i1 w; omega
      · have := i2 w; omega
      · omega
  refine ⟨?_, key⟩
  rcases Int.lt_or_le (fdv g 18).toInt (-2) with w | w
  · exact Or.inl (key.2.1 w)
  · exact Or.inr (key.1 w)
theorem mk_int (s N r P g q a rt M B : Int) (s1 : 55 ≤ s) (s2 : s ≤ 155) (n1 : -(B + 20) ≤ N) (n2 : N ≤ 540) (b1 : 1400 ≤ B) (r1 : 500 ≤ r) (r2 : r ≤ 800) (p1 : 54 ≤ P) (p2 : P ≤ 90) (g1 : 2260 * g ≤ 2 * (s * N) + 226 * (r - 10 * P) + 1130) (g2 : 2 * (s * N) + 226 * (r - 10 * P) + 1130 < 2260 * g + 2260) (tu : s * N ≤ 83700) (q1 : 18 * q ≤ g) (q2 : g < 18 * q + 18) (a1 : -2 ≤ q → 18 ≤ a) (a2 : q < -2 → (3 + q) * 18 ≤ a) (a3 : a ≤ (q + 8) * 18) (t1 : -1 ≤ rt) (t2 : rt ≤ 3) (m1 : 2 * (s * M) ≤ 2 * (113 * (10 * a - r - 10 * rt)) + s) (m2 : 2 * (113 * (10 * a - r - 10 * rt)) + s < 2 * (s * M) + 2 * s) : -(B + 1300) ≤ M ∧ M ≤ 5000 := by
  constructor
  · rcases Int.lt_or_le M (-(B + 1300)) with w | w
    · exfalso
      rcases Int.lt_or_le q (-2) with v | v
      · have a2 := a2 v
        have : s * M ≤ s * (N - 1281) := Int.mul_le_mul_of_nonneg_left (by omega) (by omega)
        rw [Int.mul_sub] at this
        omega
      · have a1 := a1 v
        have : s * M ≤ s * (-2701) := Int.mul_le_mul_of_nonneg_left (by omega) (by omega)
        omega
    · exact w
  · rcases Int.lt_or_le 5000 M with w | w
    · exfalso
      have : s * 5001 ≤ s * M := Int.mul_le_mul_of_nonneg_left (by omega) (by omega)
      omega
    · exact w
theorem hf_int (s N r rh P g q a rt M B : Int) (s1 : 55 ≤ s) (s2 : s ≤ 155) (n1 : -(B + 20) ≤ N) (n2 : N ≤ 540) (b1 : 1400 ≤ B) (r1 : 500 ≤ r) (r2 : r ≤ 800) (h1 : 2 * rh ≤ r) (h2 : r ≤ 2 * rh + 1) (p1 : 54 ≤ P) (p2 : P ≤ 90) (g1 : 2260 * g ≤ 2 * (s * N) + 226 * (r - 10 * P) + 1130) (g2 : 2 * (s * N) + 226 * (r - 10 * P) + 1130 < 2260 * g + 2260) (tu : s * N ≤ 83700) (q1 : 18 * q ≤ g) (q2 : g < 18 * q + 18) (a1 : -2 ≤ q → 9 ≤ a) (a2 : q < -2 → (3 + q) * 9 ≤ a) (a3 : a ≤ (q + 8) * 9) (t1 : -1 ≤ rt) (t2 : rt ≤ 3) (m1 : 2 * (s * M) ≤ 2 * (113 * (10 * a - rh - 5 * rt)) + s) (m2 : 2 * (113 * (10 * a - rh - 5 * rt)) + s < 2 * (s * M) + 2 * s) : -(B + 1300) ≤ 2 * M ∧ M ≤ 5000 := by
  constructor
  · rcases Int.lt_or_le (2 * M) (-(B + 1300)) with w | w
    · exfalso
      rcases Int.lt_or_le q (-2) with v | v
      · have a2 := a2 v
        have : s * (2 * M) ≤ s * (N - 1281) := Int.mul_le_mul_of_nonneg_left (by omega) (by omega)
        rw [Int.mul_sub, ← Int.mul_assoc, Int.mul_comm s 2, Int.mul_assoc] at this
        omega
      · have a1 := a1 v
        have : s * M ≤ s * (-1350) := Int.mul_le_mul_of_nonneg_left (by omega) (by omega)
        omega
    · exact w
  · rcases Int.lt_or_le 5000 M with w | w
    · exfalso
      have : s * 5001 ≤ s * M := Int.mul_le_mul_of_nonneg_left (by omega) (by omega)
      omega
    · exact w
def BdO (B : Int) (b : Bk) : Prop := inM B b ∧ (∀ x v, b.2.1 x = some v → -B ≤ 2 * v.toInt ∧ v.toInt ≤ 5000)
theorem BdO_mono {B B' : Int} (h : B ≤ B') {b : Bk} (hb : BdO B b) : BdO B' b := ⟨fun x v hv => by have := hb.1 x v hv; unfold inB at this ⊢; omega, fun x v hv => by have := hb.2 x v hv; omega⟩
theorem mkP_bd {A : Nat → Nat → Int32} {n R : Nat} (hV : VD A n R) {b : Bk} {B : Int} (hB0 : 1400 ≤ B) (hB : B ≤ 80000) (hb : BdO B b) (t : List Nat) (k : Nat) (hk : k < n) (hc : cN A k < 4) (hC : CK A k) (h0 : A 8 k = 0) : -(B + 1300) ≤ (mkP b A t R k).toInt ∧ (mkP b A t R k).toInt ≤ 5000 := by
  have hN := nuP_bd (by omega : 0 ≤ B) hB hb.1 A t (A 10 k)
  obtain ⟨P, p1, p2, g1, g2, T1, T2⟩ := gvT_bd hV hc (by omega : 0 ≤ B) hB hN
  obtain ⟨⟨r1, r2⟩, ⟨s1, s2⟩, _⟩ := hV.1 _ hc
  obtain ⟨t1, t2⟩ := hV.2.2.2.1 (A 11 k) (A 10 k)
  have gb : -20000 ≤ (gfP b A t k).toInt ∧ (gfP b A t k).toInt ≤ 20000 := by
    unfold gfP
    omega
  have g1 : 2260 * (gfP b A t k).toInt ≤ _ := g1
  have g2 : _ < 2260 * (gfP b A t k).toInt + 2260 := g2
  have h18 : lsN A k - fsN A k = 18 := by
    unfold lsN
    rw [if_neg (by rw [h0]; decide)]; omega
  obtain ⟨q, q1, q2, hq⟩ := asF_bd hV hc hk (gfP b A t k) gb (fsN A k)
  obtain ⟨_, a1, a2, a3⟩ := hq 18 (by have := hC.2.2; omega)
  have ea : asF A k (cN A k) (gfP b A t k) (fsN A k) 18 = asP b A t k := by unfold asP; rw [h18]
  rw [ea] at a1 a2 a3
  have a1 : -2 ≤ q → 18 ≤ (asP b A t k).toInt := a1
  have a2 : q < -2 → (3 + q) * 18 ≤ (asP b A t k).toInt := a2
  have a3 : (asP b A t k).toInt ≤ (q + 8) * 18 := a3
  have ab : -25000 ≤ (asP b A t k).toInt ∧ (asP b A t k).toInt ≤ 25000 := by
    rcases Int.lt_or_le q (-2) with v | v
    · have := a2 v; omega
    · have := a1 v; omega
  have t10 : (10 : Int32).toInt = 10 := by decide
  have t113 : (113 : Int32).toInt = 113 := by decide
  have e1 : (10 * asP b A t k).toInt = 10 * (asP b A t k).toInt := by rw [ti_mul] <;> rw [t10] <;> omega
  have e2 : (10 * asP b A t k - A 0 (cN A k)).toInt = 10 * (asP b A t k).toInt - (A 0 (cN A k)).toInt := by rw [ti_sub] <;> rw [e1] <;> omega
  have e3 : (10 * rgF A (A 11 k) (A 10 k) R).toInt = 10 * (rgF A (A 11 k) (A 10 k) R).toInt := by rw [ti_mul] <;> rw [t10] <;> omega
  have e4 : (10 * asP b A t k - A 0 (cN A k) - 10 * rgF A (A 11 k) (A 10 k) R).toInt = 10 * (asP b A t k).toInt - (A 0 (cN A k)).toInt - 10 * (rgF A (A 11 k) (A 10 k) R).toInt := by rw [ti_sub] <;> rw [e2, e3] <;> omega
  have e5 : (113 * (10 * asP b A t k - A 0 (cN A k) - 10 * rgF A (A 11 k) (A 10 k) R)).toInt = 113 * (10 * (asP b A t k).toInt - (A 0 (cN A k)).toInt - 10 * (rgF A (A 11 k) (A 10 k) R).toInt) := by rw [ti_mul] <;> rw [t113, e4] <;> omega
  have sp' := rnd_spec (x := 113 * (10 * asP b A t k - A 0 (cN A k) - 10 * rgF A (A 11 k) (A 10 k) R)) (y := A 1 (cN A k)) (by omega) (by omega) (by rw [e5]; omega) (by rw [e5]; omega)
  rw [e5] at sp'
  exact mk_int _ _ _ _ _ _ _ _ _ _ s1 s2 hN.1 hN.2 hB0 r1 r2 p1 p2 g1 g2 T2 q1 q2 a1 a2 a3 t1 t2 sp'.1 sp'.2
theorem hfP_bd {A : Nat → Nat → Int32} {n R : Nat} (hV : VD A n R) {b : Bk} {B : Int} (hB0 : 1400 ≤ B) (hB : B ≤ 80000) (hb : BdO B b) (t : List Nat) (k : Nat) (hk : k < n) (hc : cN A k < 4) (hC : CK A k) (h1 : A 8 k = 1) : -(B + 1300) ≤ 2 * (hfP b A t R k).toInt ∧ (hfP b A t R k).toInt ≤ 5000 := by
  have hN := nuP_bd (by omega : 0 ≤ B) hB hb.1 A t (A 10 k)
  obtain ⟨P, p1, p2, g1, g2, T1, T2⟩ := gvT_bd hV hc (by omega : 0 ≤ B) hB hN
  obtain ⟨⟨r1, r2⟩, ⟨s1, s2⟩, _⟩ := hV.1 _ hc
  obtain ⟨t1, t2⟩ := hV.2.2.2.1 (A 11 k) (A 10 k)
  have gb : -20000 ≤ (gfP b A t k).toInt ∧ (gfP b A t k).toInt ≤ 20000 := by
    unfold gfP
    omega
  have g1 : 2260 * (gfP b A t k).toInt ≤ _ := g1
  have g2 : _ < 2260 * (gfP b A t k).toInt + 2260 := g2
  have h9 : lsN A k - fsN A k = 9 := by
    unfold lsN
    rw [if_pos h1]; omega
  obtain ⟨q, q1, q2, hq⟩ := asF_bd hV hc hk (gfP b A t k) gb (fsN A k)
  obtain ⟨_, a1, a2, a3⟩ := hq 9 (by have := hC.2.2; omega)
  have ea : asF A k (cN A k) (gfP b A t k) (fsN A k) 9 = asP b A t k := by unfold asP; rw [h9]
  rw [ea] at a1 a2 a3
  have a1 : -2 ≤ q → 9 ≤ (asP b A t k).toInt := a1
  have a2 : q < -2 → (3 + q) * 9 ≤ (asP b A t k).toInt := a2
  have a3 : (asP b A t k).toInt ≤ (q + 8) * 9 := a3
  have ab : -25000 ≤ (asP b A t k).toInt ∧ (asP b A t k).toInt ≤ 25000 := by
    rcases Int.lt_or_le q (-2) with v | v
    · have := a2 v; omega
    · have := a1 v; omega
  have t10 : (10 : Int32).toInt = 10 := by decide
  have t5 : (5 : Int32).toInt = 5 := by decide
  have t113 : (113 : Int32).toInt = 113 := by decide
  have eh : (A 0 (cN A k) / 2).toInt = (A 0 (cN A k)).toInt / 2 := by
    rw [Int32.toInt_div, show (2 : Int32).toInt = 2 by decide, Int.tdiv_eq_ediv_of_nonneg (by omega)]
    exact Int.bmod_eq_of_le (by omega) (by omega)
  have e1 : (10 * asP b A t k).toInt = 10 * (asP b A t k).toInt := by rw [ti_mul] <;> rw [t10] <;> omega
  have e2 : (10 * asP b A t k - A 0 (cN A k) / 2).toInt = 10 * (asP b A t k).toInt - (A 0 (cN A k)).toInt / 2 := by rw [ti_sub] <;> rw [e1, eh] <;> omega
  have e3 : (5 * rgF A (A 11 k) (A 10 k) R).toInt = 5 * (rgF A (A 11 k) (A 10 k) R).toInt := by rw [ti_mul] <;> rw [t5] <;> omega
  have e4 : (10 * asP b A t k - A 0 (cN A k) / 2 - 5 * rgF A (A 11 k) (A 10 k) R).toInt = 10 * (asP b A t k).toInt - (A 0 (cN A k)).toInt / 2 - 5 * (rgF A (A 11 k) (A 10 k) R).toInt := by rw [ti_sub] <;> rw [e2, e3] <;> omega
  have e5 : (113 * (10 * asP b A t k - A 0 (cN A k) / 2 - 5 * rgF A (A 11 k) (A 10 k) R)).toInt = 113 * (10 * (asP b A t k).toInt - (A 0 (cN A k)).toInt / 2 - 5 * (rgF A (A 11 k) (A 10 k) R).toInt) := by rw [ti_mul] <;> rw [t113, e4] <;> omega
  have sp' := rnd_spec (x := 113 * (10 * asP b A t k - A 0 (cN A k) / 2 - 5 * rgF A (A 11 k) (A 10 k) R)) (y := A 1 (cN A k)) (by omega) (by omega) (by rw [e5]; omega) (by rw [e5]; omega)
  rw [e5] at sp'
  exact hf_int _ _ _ ((A 0 (cN A k)).toInt / 2) _ _ _ _ _ _ _ s1 s2 hN.1 hN.2 hB0 r1 r2 (by omega) (by omega) p1 p2 g1 g2 T2 q1 q2 a1 a2 a3 t1 t2 sp'.1 sp'.2
/-- a card is sound -/
def KD (A : Nat → Nat → Int32) (k : Nat) : Prop := A 8 k = 2 ∨ ((A 8 k = 0 ∨ A 8 k = 1) ∧ CK A k ∧ cN A k < 4)
theorem stP_bd {A : Nat → Nat → Int32} {n R : Nat} (hV : VD A n R) {b : Bk} {B : Int} (hB0 : 1400 ≤ B) (hB : B ≤ 80000) (hb : BdO B b) (t : List Nat) (k : Nat) (hk : k < n) (hK : KD A k) : BdO (B + 1300) (stP A R b t k) := by
  have hm := BdO_mono (by omega : B ≤ B + 1300) hb
  have up : ∀ u : Int32, inB (B + 1300) u → BdO (B + 1300) (va_up b.1 k (some u), b.2) := fun u hu => by
    refine ⟨fun x v hv => ?_, hm.2⟩
    have hv : (if x = k then some u else b.1 x) = some v := hv
    by_cases e : x = k
    · rw [if_pos e] at hv; cases hv; exact hu
    · rw [if_neg e] at hv; exact hm.1 x v hv
  unfold stP
  split
  · exact hm
  · split
    · exact up _ (by have := hV.2.2.1 k hk; unfold inB; omega)
    · rename_i h2
      obtain ⟨h01, hC, hc⟩ := hK.resolve_left h2
      split
      · rename_i h0
        split
        · exact hm
        · exact up _ (by have := mkP_bd hV hB0 hB hb t k hk hc hC h0; unfold inB; omega)
      · rename_i h0
        have h1 := h01.resolve_left h0
        split
        · exact hm
        · have hh := hfP_bd hV hB0 hB hb t k hk hc hC h1
          generalize hfP b A t R k = u at hh
          have h21 : ∀ x v, (va_up b.2.1 k (some u)) x = some v → -(B + 1300) ≤ 2 * v.toInt ∧ v.toInt ≤ 5000 := fun x v hv => by
            have hv : (if x = k then some u else b.2.1 x) = some v := hv
            by_cases e : x = k
            · rw [if_pos e] at hv; cases hv; exact hh
            · rw [if_neg e] at hv; exact hm.2 x v hv
          cases hw : wtP b A t k with
          | none => exact ⟨hm.1, h21⟩
          | some o =>
            refine ⟨fun x v hv => ?_, h21⟩
            have hv : (if x = k then some ((b.2.1 o).getD 0 + u) else b.1 x) = some v := hv
            by_cases e : x = k
            · rw [if_pos e] at hv
              cases hv
              have oq : qV b A k o = true := List.find?_some (by unfold wtP at hw; exact hw)
              obtain ⟨ho, eho⟩ := Option.isSome_iff_exists.mp (of_decide_eq_true oq).1
              have := hb.2 o ho eho
              rw [eho]
              show -(B + 1300) ≤ (ho + u).toInt ∧ (ho + u).toInt ≤ 10000
              rw [ti_add] <;> omega
            · rw [if_neg e] at hv; exact hm.1 x v hv
theorem pb_bd {A : Nat → Nat → Int32} {n R : Nat} (hV : VD A n R) : ∀ t : List Nat, (∀ k, k ∈ t → k < n ∧ KD A k) → t.length ≤ 60 → BdO (1400 + 1300 * (t.length : Int)) (pb A R t)
  | [], _, _ => ⟨fun x v h => (by cases h), fun x v h => (by cases h)⟩
  | k :: t, h, hl => by
    have hl : t.length + 1 ≤ 60 := hl
    have ih := pb_bd hV t (fun k' hk' => h k' (List.mem_cons_of_mem _ hk')) (by omega)
    have := stP_bd hV (by omega) (by omega) ih t k (h k List.mem_cons_self).1 (h k List.mem_cons_self).2
    show BdO (1400 + 1300 * ((t.length + 1 : Nat) : Int)) (stP A R (pb A R t) t k)
    rw [show 1400 + 1300 * ((t.length + 1 : Nat) : Int) = 1400 + 1300 * (t.length : Int) + 1300 by omega]
    exact this
theorem pb_NoS {A : Nat → Nat → Int32} {n R : Nat} (hV : VD A n R) (hK : ∀ k, k < n → KD A k) (t : List Nat) (h : ∀ k, k ∈ t → k < n) (hl : t.length ≤ 60) : NoS (pb A R t) t := by
  obtain ⟨b1, b2⟩ := pb_bd hV t (fun k hk => ⟨h k hk, hK k (h k hk)⟩) hl
  have ne : ∀ v : Int32, -100001 ≤ v.toInt → ¬ v = -100002 := fun v hv e => by
    rw [e, show (-100002 : Int32).toInt = -100002 by decide] at hv; omega
  refine ⟨fun x v hv => ne v ?_, fun x v hv => ne v ?_, fun i hi => ?_⟩
  · have := b1 x v hv
    unfold inB at this
    omega
  · have := b2 x v hv
    omega
  · by_cases ht : tkN (m20 ((mkd (pb A R t) t).drop i)) = 0
    · have h3 := (tkN_0 _).mp ht
      have el : lsF (m20 ((mkd (pb A R t) t).drop i)) = 0 := by
        unfold lsF
        rw [if_neg (by omega), if_neg (by omega)]
      unfold rwL rawS
      rw [ht, el]
      show ¬ (if rnd 0 (nI 0) - 0 < 540 then rnd 0 (nI 0) - 0 else (540 : Int32)) = -100002
      decide
    · have := rwL_bd (by omega) (by omega) b1 ((mkd (pb A R t) t).drop i) ht
      unfold inN at this
      exact ne _ (by omega)
