/-! The book's step, and the model's writeCard. Own work. -/
def AgB (A A' : Nat → Nat → Int32) : Prop := ∀ j, j < 18 → A' j = A j
theorem AgB_r (A : Nat → Nat → Int32) : AgB A A := fun _ _ => rfl
theorem AgB_t {A A' A'' : Nat → Nat → Int32} (h : AgB A A') (h' : AgB A' A'') : AgB A A'' := fun k a => (h' k a).trans (h k a)
theorem AgB_a {A A' : Nat → Nat → Int32} (h : AgA A A') : AgB A A' := fun j hj => h j (by omega) (by omega) (by omega)
theorem gM_b {A A' : Nat → Nat → Int32} (h : AgB A A') (b : Bk) (O : Nat → Nat) (n : Nat) (p day : Int32) : gM b A' O n p day = gM b A O n p day := by
  unfold gM; rw [h 9 (by decide), h 10 (by decide)]
theorem lowF_b {A A' : Nat → Nat → Int32} (h : AgB A A') (b : Bk) (O : Nat → Nat) (n : Nat) (p day : Int32) : ∀ k, lowF b A' O n p day k = lowF b A O n p day k
  | 0 => rfl
  | k + 1 => by
    unfold lowF lwC
    rw [lowF_b h b O n p day k, h 9 (by decide), h 10 (by decide), gM_b h]
theorem numB_b {A A' : Nat → Nat → Int32} (h : AgB A A') (b : Bk) (O : Nat → Nat) (n : Nat) (p day : Int32) : numB b A' O n p day = numB b A O n p day := by
  unfold numB; rw [gM_b h, lowF_b h]
theorem gfB_b {A A' : Nat → Nat → Int32} (h : AgB A A') (b : Bk) (O : Nat → Nat) (n k c : Nat) : gfB b A' O n k c = gfB b A O n k c := by
  unfold gfB gvT; rw [numB_b h, parsF_eq (h 2 (by decide)), h 0 (by decide), h 1 (by decide), h 9 (by decide), h 10 (by decide)]
theorem asF_b {A A' : Nat → Nat → Int32} (h : AgB A A') (k c : Nat) (g : Int32) (f : Nat) : ∀ j, asF A' k c g f j = asF A k c g f j
  | 0 => rfl
  | j + 1 => by unfold asF; rw [asF_b h k c g f j, h 15 (by decide), h 2 (by decide), h 3 (by decide)]
theorem fsN_b {A A' : Nat → Nat → Int32} (h : AgB A A') (k : Nat) : fsN A' k = fsN A k := by unfold fsN; rw [h 12 (by decide)]
theorem lsN_b {A A' : Nat → Nat → Int32} (h : AgB A A') (k : Nat) : lsN A' k = lsN A k := by unfold lsN; rw [fsN_b h, h 8 (by decide)]
theorem CK_b {A A' : Nat → Nat → Int32} (h : AgB A A') {k : Nat} (hC : CK A k) : CK A' k := by
  unfold CK lastF at hC ⊢
  rw [fsN_b h, lsN_b h, h 12 (by decide), h 8 (by decide)]; exact hC
theorem asB_b {A A' : Nat → Nat → Int32} (h : AgB A A') (b : Bk) (O : Nat → Nat) (n k c : Nat) : asB b A' O n k c = asB b A O n k c := by
  unfold asB; rw [gfB_b h, asF_b h, fsN_b h, lsN_b h]
theorem pcn_b {A A' : Nat → Nat → Int32} (h : AgB A A') (k f : Nat) : ∀ j, pcn A' k f j = pcn A k f j
  | 0 => rfl
  | j + 1 => by unfold pcn; rw [pcn_b h k f j, h 15 (by decide)]
theorem plF_b {A A' : Nat → Nat → Int32} (h : AgB A A') (k : Nat) : plF A' k = plF A k := by unfold plF; rw [pcn_b h, fsN_b h, lsN_b h]
theorem rgF_b {A A' : Nat → Nat → Int32} (h : AgB A A') (c day : Int32) : ∀ k, rgF A' c day k = rgF A c day k
  | 0 => rfl
  | k + 1 => by unfold rgF; rw [rgF_b h c day k, h 4 (by decide), h 5 (by decide), h 6 (by decide)]
def qW (b : Bk) (A : Nat → Nat → Int32) (k o : Nat) : Bool := decide ((b.2.1 o).isSome = true ∧ b.2.2 o = none ∧ A 9 o = A 9 k ∧ ¬ 60 < A 10 k - A 10 o)
def cN (A : Nat → Nat → Int32) (k : Nat) : Nat := (A 11 k).toNatClampNeg
def mkV (b : Bk) (A : Nat → Nat → Int32) (O : Nat → Nat) (n R k : Nat) : Int32 := rnd (113 * (10 * asB b A O n k (cN A k) - A 0 (cN A k) - 10 * rgF A (A 11 k) (A 10 k) R)) (A 1 (cN A k))
def hfV (b : Bk) (A : Nat → Nat → Int32) (O : Nat → Nat) (n R k : Nat) : Int32 := rnd (113 * (10 * asB b A O n k (cN A k) - A 0 (cN A k) / 2 - 5 * rgF A (A 11 k) (A 10 k) R)) (A 1 (cN A k))
def jnB (b : Bk) (k : Nat) (h : Int32) : Option Nat → Bk
  | none => (b.1, va_up b.2.1 k (some h), b.2.2)
  | some o => (va_up b.1 k (some ((b.2.1 o).getD 0 + h)), va_up b.2.1 k (some h), va_up (va_up b.2.2 o (some k)) k (some o))
/-- a card is written into the book -/
def bkStep (A : Nat → Nat → Int32) (O : Nat → Nat) (n R : Nat) (b : Bk) (k : Nat) : Bk :=
  if ¬ A 14 k = 0 then b else if A 8 k = 2 then (va_up b.1 k (some (A 13 k)), b.2)
  else if A 8 k = 0 then (if plF A k < 14 then b else (va_up b.1 k (some (mkV b A O n R k)), b.2))
  else if plF A k < 7 then b else jnB b k (hfV b A O n R k) (ff (qW b A k) O n)
theorem bkStep_b {A A' : Nat → Nat → Int32} (h : AgB A A') (O : Nat → Nat) (n R : Nat) (b : Bk) (k : Nat) : bkStep A' O n R b k = bkStep A O n R b k := by
  unfold bkStep mkV hfV cN qW
  rw [asB_b h, plF_b h, rgF_b h, h 14 (by decide), h 8 (by decide), h 13 (by decide), h 0 (by decide), h 1 (by decide), h 11 (by decide), h 9 (by decide), h 10 (by decide)]
def fr (b : Bk) (k : Nat) : Prop := b.1 k = none ∧ b.2.1 k = none ∧ b.2.2 k = none
theorem jnB_fr {b : Bk} {k x : Nat} (h : Int32) (o : Option Nat) (ho : ∀ y, o = some y → (b.2.1 y).isSome = true) (hx : fr b x) (ne : x ≠ k) : fr (jnB b k h o) x := by
  obtain ⟨a1, a2, a3⟩ := hx
  cases o with
  | none =>
    refine ⟨a1, ?_, a3⟩
    show (if x = k then _ else b.2.1 x) = none
    rw [if_neg ne]; exact a2
  | some y =>
    have : x ≠ y := fun e => by
      have := ho y rfl
      rw [← e, a2] at this; exact absurd this (by decide)
    refine ⟨?_, ?_, ?_⟩
    · show (if x = k then _ else b.1 x) = none
      rw [if_neg ne]; exact a1
    · show (if x = k then _ else b.2.1 x) = none
      rw [if_neg ne]; exact a2
    · show (if x = k then _ else if x = y then _ else b.2.2 x) = none
      rw [if_neg ne, if_neg this]; exact a3
theorem qW_s {b : Bk} {A : Nat → Nat → Int32} {k : Nat} {O : Nat → Nat} {n : Nat} : ∀ y, ff (qW b A k) O n = some y → (b.2.1 y).isSome = true := fun y h => (of_decide_eq_true (ff_some _ _ _ _ h).1).1
theorem step_fr {A : Nat → Nat → Int32} {O : Nat → Nat} {n R : Nat} {b : Bk} {k x : Nat} (hx : fr b x) (ne : x ≠ k) : fr (bkStep A O n R b k) x := by
  have up : ∀ v : Option Int32, fr (va_up b.1 k v, b.2) x := fun v => by
    refine ⟨?_, hx.2⟩
    show (if x = k then _ else b.1 x) = none
    rw [if_neg ne]; exact hx.1
  unfold bkStep
  split
  · exact hx
  · split
    · exact up _
    · split
      · split
        · exact hx
        · exact up _
      · split
        · exact hx
        · exact jnB_fr _ _ qW_s hx ne
theorem BR_mark {A : Nat → Nat → Int32} {n : Nat} {O : Nat → Nat} {b : Bk} (hB : BR A n O b) (k : Nat) (v : Int32) : BR (u2 (u2 A 19 k 1) 20 k v) n O (va_up b.1 k (some v), b.2) := by
  obtain ⟨a1, a2, a3, a4, a5, a6, a7, a8⟩ := hB
  refine ⟨a1, fun j hj => ?_, fun j w hj => ?_, a4, a5, a6, a7, a8⟩
  · show (if 19 = 19 ∧ j = k then (1 : Int32) else A 19 j) = 0 ↔ (if j = k then some v else b.1 j) = none
    by_cases e : j = k
    · rw [if_pos ⟨rfl, e⟩, if_pos e]; exact ⟨fun h => absurd h (by decide), fun h => by cases h⟩
    · rw [if_neg (fun w => e w.2), if_neg e]; exact a2 j hj
  · show (if j = k then some v else b.1 j) = some w → (if 20 = 20 ∧ j = k then v else A 20 j) = w
    by_cases e : j = k
    · rw [if_pos e, if_pos ⟨rfl, e⟩]; exact fun h => by cases h; rfl
    · rw [if_neg e, if_neg (fun w => e w.2)]; exact a3 j w hj
theorem BR_unm {A : Nat → Nat → Int32} {n : Nat} {O : Nat → Nat} {b : Bk} (hB : BR A n O b) (k : Nat) (v : Int32) (hn : b.1 k = none) : BR (u2 (u2 A 19 k 0) 20 k v) n O b := by
  obtain ⟨a1, a2, a3, a4, a5, a6, a7, a8⟩ := hB
  refine ⟨a1, fun j hj => ?_, fun j w hj => ?_, a4, a5, a6, a7, a8⟩
  · show (if 19 = 19 ∧ j = k then (0 : Int32) else A 19 j) = 0 ↔ b.1 j = none
    by_cases e : j = k
    · rw [if_pos ⟨rfl, e⟩, e, hn]; exact ⟨fun _ => rfl, fun _ => rfl⟩
    · rw [if_neg (fun w => e w.2)]; exact a2 j hj
  · show b.1 j = some w → (if 20 = 20 ∧ j = k then v else A 20 j) = w
    by_cases e : j = k
    · rw [e, hn]; exact fun h => by cases h
    · rw [if_neg (fun w => e w.2)]; exact a3 j w hj
theorem BR_half {A : Nat → Nat → Int32} {n : Nat} {O : Nat → Nat} {b : Bk} (hB : BR A n O b) (k : Nat) (hk : k < n) (h : Int32) (hf : fr b k) : BR (jnA (u2 (u2 A 21 k 1) 22 k h) k (ff (qJ (u2 (u2 A 21 k 1) 22 k h) k) O n)) n O (jnB b k h (ff (qW b A k) O n)) := by
  obtain ⟨a1, a2, a3, a4, a5, a6, a7, a8⟩ := hB
  have eq : ff (qJ (u2 (u2 A 21 k 1) 22 k h) k) O n = ff (qW b A k) O n := by
    refine ff_cg O n (fun j hj => ?_)
    show decide (¬ A 23 (O j) = 0 ∧ A 9 (O j) = A 9 k ∧ ¬ 60 < A 10 k - A 10 (O j)) = decide _
    rw [a6 _ (a1 j hj).1]
    refine decide_eq_decide.mpr ⟨fun w => ?_, fun w => ?_⟩
    · have := b1_f w.1
      exact ⟨this.1, this.2, w.2⟩
    · refine ⟨?_, w.2.2⟩
      rw [if_pos ⟨w.1, w.2.1⟩]; decide
  rw [eq]
  cases hff : ff (qW b A k) O n with
  | none =>
    refine ⟨a1, a2, a3, fun j hj => ?_, fun j w hj => ?_, fun j hj => ?_, a7, a8⟩
    · show (if 21 = 21 ∧ j = k then (1 : Int32) else A 21 j) = 0 ↔ (if j = k then some h else b.2.1 j) = none
      by_cases e : j = k
      · rw [if_pos ⟨rfl, e⟩, if_pos e]; exact ⟨fun h => absurd h (by decide), fun h => by cases h⟩
      · rw [if_neg (fun w => e w.2), if_neg e]; exact a4 j hj
    · show (if j = k then some h else b.2.1 j) = some w → (if 22 = 22 ∧ j = k then h else A 22 j) = w
      by_cases e : j = k
      · rw [if_pos e, if_pos ⟨rfl, e⟩]; exact fun h => by cases h; rfl
      · rw [if_neg e, if_neg (fun w => e w.2)]; exact a5 j w hj
    · show (if 23 = 23 ∧ j = k then (1 : Int32) else A 23 j) = if ((if j = k then some h else b.2.1 j).isSome = true ∧ b.2.2 j = none) then 1 else 0
      by_cases e : j = k
      · rw [if_pos ⟨rfl, e⟩, if_pos e, if_pos ⟨rfl, by rw [e]; exact hf.2.2⟩]
      · rw [if_neg (fun w => e w.2), if_neg e]; exact a6 j hj
  | some o =>
    have hq := of_decide_eq_true (ff_some _ _ _ _ hff).1
    obtain ⟨jo, hjo, eo, _⟩ := (ff_some _ _ _ _ hff).2
    have hon : o < n := by rw [← eo]; exact (a1 jo hjo).1
    obtain ⟨ho, hv⟩ := Option.isSome_iff_exists.mp hq.1
    have ne : o ≠ k := fun e => by rw [e, hf.2.1] at hv; cases hv
    have eo22 : A 22 o = ho := a5 o ho hon hv
    refine ⟨a1, fun j hj => ?_, fun j w hj => ?_, fun j hj => ?_, fun j w hj => ?_, fun j hj => ?_, fun j hj => ?_, fun j y hj => ?_⟩
    · show (if 19 = 19 ∧ j = k then (1 : Int32) else A 19 j) = 0 ↔ (if j = k then some ((b.2.1 o).getD 0 + h) else b.1 j) = none
      by_cases e : j = k
      · rw [if_pos ⟨rfl, e⟩, if_pos e]; exact ⟨fun h => absurd h (by decide), fun h => by cases h⟩
      · rw [if_neg (fun w => e w.2), if_neg e]; exact a2 j hj
    · show (if j = k then some ((b.2.1 o).getD 0 + h) else b.1 j) = some w → (if 20 = 20 ∧ j = k then (if 22 = 22 ∧ o = k then h else A 22 o) + (if 22 = 22 ∧ k = k then h else A 22 k) else A 20 j) = w
      by_cases e : j = k
      · rw [if_pos e, if_pos ⟨rfl, e⟩, if_neg (fun w => ne w.2), if_pos ⟨rfl, rfl⟩, hv, eo22]; exact fun h => by cases h; rfl
      · rw [if_neg e, if_neg (fun w => e w.2)]; exact a3 j w hj
    · show (if 21 = 21 ∧ j = k then (1 : Int32) else A 21 j) = 0 ↔ (if j = k then some h else b.2.1 j) = none
      by_cases e : j = k
      · rw [if_pos ⟨rfl, e⟩, if_pos e]; exact ⟨fun h => absurd h (by decide), fun h => by cases h⟩
      · rw [if_neg (fun w => e w.2), if_neg e]; exact a4 j hj
    · show (if j = k then some h else b.2.1 j) = some w → (if 22 = 22 ∧ j = k then h else A 22 j) = w
      by_cases e : j = k
      · rw [if_pos e, if_pos ⟨rfl, e⟩]; exact fun h => by cases h; rfl
      · rw [if_neg e, if_neg (fun w => e w.2)]; exact a5 j w hj
    · show (if 23 = 23 ∧ j = o then (0 : Int32) else A 23 j) = if ((if j = k then some h else b.2.1 j).isSome = true ∧ (if j = k then some o else if j = o then some k else b.2.2 j) = none) then 1 else 0
      by_cases e : j = k
      · rw [if_neg (fun w => ne (w.2.symm.trans e)), if_pos e, if_pos e, if_neg (fun w => by cases w.2), a6 j hj]
        rw [e, hf.2.1]; rfl
      · rw [if_neg e, if_neg e]
        by_cases eo' : j = o
        · rw [if_pos ⟨rfl, eo'⟩, if_pos eo', if_neg (fun w => by cases w.2)]
        · rw [if_neg (fun w => eo' w.2), if_neg eo']; exact a6 j hj
    · show (if 24 = 24 ∧ j = k then nI o else if 24 = 24 ∧ j = o then nI k else A 24 j) = obI (if j = k then some o else if j = o then some k else b.2.2 j)
      by_cases e : j = k
      · rw [if_pos ⟨rfl, e⟩, if_pos e]; rfl
      · rw [if_neg (fun w => e w.2), if_neg e]
        by_cases eo' : j = o
        · rw [if_pos ⟨rfl, eo'⟩, if_pos eo']; rfl
        · rw [if_neg (fun w => eo' w.2), if_neg eo']; exact a7 j hj
    · show (if j = k then some o else if j = o then some k else b.2.2 j) = some y → y < n
      by_cases e : j = k
      · rw [if_pos e]; exact fun h => by cases h; exact hon
      · rw [if_neg e]
        by_cases eo' : j = o
        · rw [if_pos eo']; exact fun h => by cases h; exact hk
        · rw [if_neg eo']; exact a8 j y hj
/-- card k's data are sound -/
def WK (A : Nat → Nat → Int32) (k : Nat) : Prop := A 8 k = 2 ∨ ((A 8 k = 0 ∨ A 8 k = 1) ∧ CK A k ∧ ∃ c, c < 4 ∧ A 11 k = nI c)
def SL (A : Nat → Nat → Int32) : Prop := ∀ c, c < 4 → ¬ 2 * A 1 c = 0
theorem u2_B {A A' : Nat → Nat → Int32} (h : AgB A A') {a k : Nat} {x : Int32} (ha : 18 ≤ a) : AgB A (u2 A' a k x) := fun j hj => by
  rw [← h j hj]; funext i
  show (if j = a ∧ i = k then x else A' j i) = _
  rw [if_neg (by omega)]
theorem u2_AgA {A : Nat → Nat → Int32} {a k : Nat} {x : Int32} (ha : 18 ≤ a) : AgB A (u2 A a k x) := u2_B (AgB_r A) ha
section MCard
variable (d : Nat) (z0 : ZS) (V : Nat → Int32) (A : Nat → Nat → Int32)
theorem M_writeCard (hM : MT z0) (n : Nat) (hn : V 10 = nI n) (h60 : n ≤ 60) (R : Nat) (hR : V 4 = nI R) (h30 : R ≤ 30) (O : Nat → Nat) (b : Bk) (hB : BR A n O b) (k : Nat) (hk : k < n) (hW : WK A k) (hS : SL A) (hv : A 14 k = 0) (hf : fr b k) : ∃ (V' : Nat → Int32) (A' : Nat → Nat → Int32), Rn (d + 9) i_M_writeCard [.ref 46, .int (nI k)] (mz z0 V A) none (mz z0 V' A') ∧ Ag V V' ∧ AgB A A' ∧ BR A' n O (bkStep A O n R b k) := by
  have vk : vp_in (nI k) 60 := vp_in_nI (by omega) (by decide)
  have ck : (nI k).toNatClampNeg = k := nI_clamp (by omega)
  by_cases h2 : A 8 k = 2
  · have e : bkStep A O n R b k = (va_up b.1 k (some (A 13 k)), b.2) := by
      unfold bkStep; rw [if_neg (fun w => w hv), if_pos h2]
    rw [e]
    refine ⟨V, u2 (u2 A 19 k 1) 20 k (A 13 k), rn_i (full := cd_136) hM.1 (ok_n rfl) rfl (fun K hK => hK 0 _ _ _ ⟨mt_g hM 8 (by decide), ⟨mt_l hM 8 (by decide) vk, ⟨fun c2 => ⟨mt_g hM 19 (by decide), ⟨mt_b hM 19 (by decide) vk (Or.inr rfl), ⟨mt_g hM 20 (by decide), ⟨mt_g hM 13 (by decide), ⟨mt_l hM 13 (by decide) vk, ⟨mt_l hM 20 (by decide) vk, ⟨rfl, ?_⟩⟩⟩⟩⟩⟩⟩, fun c2 => ?_⟩⟩⟩), Ag_r V, u2_B (u2_AgA (by decide)) (by decide), BR_mark hB k _⟩
    · rw [mz_sA (by decide) (by decide), mz_sA (by decide) (by decide)]
      show mz z0 V (u2 (u2 A 19 (nI k).toNatClampNeg 1) 20 (nI k).toNatClampNeg (A 13 (nI k).toNatClampNeg)) = _
      rw [ck]
    · have c2 : ¬ A 8 (nI k).toNatClampNeg = 2 := c2
      rw [ck] at c2; exact absurd h2 c2
  obtain ⟨h01, hC, c, hc, hck⟩ := hW.resolve_left h2
  have ecN : cN A k = c := by unfold cN; rw [hck]; exact nI_clamp (by omega)
  obtain ⟨V1, A1, r1, a1, aa1⟩ := M_adjustedSum d z0 V A hM n hn h60 O b hB k c (by omega) hc hck hC
  have ab := AgB_a aa1
  have hB1 := BR_ag aa1 hB
  have hC1 := CK_ag aa1 hC
  have e11 : A 11 (nI k).toNatClampNeg = nI c := by rw [ck]; exact hck
  have e10 : A 10 (nI k).toNatClampNeg = A 10 k := by rw [ck]
  have rg := M_rightOf (d + 7) z0 V A hM R hR h30 (A 11 (nI k).toNatClampNeg) (A 10 (nI k).toNatClampNeg)
  rw [e11, e10, ← hck] at rg
  have rg' : Rn (d + 8) i_M_rightOf [.ref 46, .int (A 11 (nI k).toNatClampNeg), .int (A 10 (nI k).toNatClampNeg)] (mz z0 V A) (some (.int (rgF A (A 11 k) (A 10 k) R))) (mz z0 V A) := by rw [ck]; exact rg
  have vc : vp_in (A 11 (nI k).toNatClampNeg) 4 := by rw [e11]; exact vp_in_nI hc (by decide)
  have cc : (A 11 (nI k).toNatClampNeg).toNatClampNeg = c := by rw [e11]; exact nI_clamp (by omega)
  have pl := M_playedOf (d + 6) z0 V1 A1 hM k (by omega) hC1
  rw [plF_b ab] at pl
  have hsl : ¬ 2 * A1 1 (A 11 (nI k).toNatClampNeg).toNatClampNeg = 0 := by rw [cc, ab 1 (by decide)]; exact hS c hc
  have e8 : A1 8 (nI k).toNatClampNeg = A 8 k := by rw [ck, ab 8 (by decide)]
  rcases h01 with h0 | h1
  · have em : rnd (113 * (10 * asB b A O n k c - A1 0 (A 11 (nI k).toNatClampNeg).toNatClampNeg - 10 * rgF A (A 11 k) (A 10 k) R)) (A1 1 (A 11 (nI k).toNatClampNeg).toNatClampNeg) = mkV b A O n R k := by
      unfold mkV; rw [cc, ecN, ab 0 (by decide), ab 1 (by decide)]
    have ro := M_rounded (d + 6) (mz z0 V1 (u2 A1 19 k 0)) (113 * (10 * asB b A O n k c - A1 0 (A 11 (nI k).toNatClampNeg).toNatClampNeg - 10 * rgF A (A 11 k) (A 10 k) R)) (A1 1 (A 11 (nI k).toNatClampNeg).toNatClampNeg) hsl
    have ro' := M_rounded (d + 6) (mz z0 V1 (u2 A1 19 k 1)) (113 * (10 * asB b A O n k c - A1 0 (A 11 (nI k).toNatClampNeg).toNatClampNeg - 10 * rgF A (A 11 k) (A 10 k) R)) (A1 1 (A 11 (nI k).toNatClampNeg).toNatClampNeg) hsl
    rw [em] at ro ro'
    have s0 : sI (mz z0 V1 A1) 66 (nI k).toNatClampNeg 0 = mz z0 V1 (u2 A1 19 k 0) := by rw [mz_sA (by decide) (by decide), ck]
    have s1 : sI (mz z0 V1 A1) 66 (nI k).toNatClampNeg 1 = mz z0 V1 (u2 A1 19 k 1) := by rw [mz_sA (by decide) (by decide), ck]
    rw [← s0] at ro
    rw [← s1] at ro'
    by_cases hp : plF A k < 14
    · have e : bkStep A O n R b k = b := by
        unfold bkStep; rw [if_neg (fun w => w hv), if_neg h2, if_pos h0, if_pos hp]
      rw [e]
      refine ⟨V1, u2 (u2 A1 19 k 0) 20 k (mkV b A O n R k), rn_i (full := cd_136) hM.1 (ok_n rfl) rfl (fun K hK => hK 0 _ _ _ ⟨mt_g hM 8 (by decide), ⟨mt_l hM 8 (by decide) vk, ⟨fun c2 => ?_,
        fun c2 => ⟨mt_g hM 11 (by decide), ⟨mt_l hM 11 (by decide) vk, ⟨mt_g hM 10 (by decide), ⟨mt_l hM 10 (by decide) vk, ⟨_, _, rg', ⟨_, _, r1, ⟨mt_g hM 8 (by decide), ⟨mt_l hM 8 (by decide) vk, ⟨fun c13 => ⟨mt_g hM 19 (by decide), ⟨_, _, pl, ⟨fun c15 => ⟨mt_b hM 19 (by decide) vk (Or.inl rfl), ⟨mt_g hM 20 (by decide), ⟨mt_g hM 0 (by decide), ⟨mt_l hM 0 (by decide) vc, ⟨mt_g hM 1 (by decide), ⟨mt_l hM 1 (by decide) vc, ⟨_, _, ro, ⟨mt_l hM 20 (by decide) vk, ⟨rfl, ?_⟩⟩⟩⟩⟩⟩⟩⟩⟩,
            fun c15 => absurd hp c15⟩⟩⟩,
          fun c13 => absurd (e8.trans h0) c13⟩⟩⟩⟩⟩⟩⟩⟩⟩⟩⟩⟩), a1, u2_B (u2_B ab (by decide)) (by decide), BR_unm hB1 k _ hf.1⟩
      · have c2 : A 8 (nI k).toNatClampNeg = 2 := c2
        rw [ck] at c2; exact absurd c2 h2
      · show sI (sI (mz z0 V1 A1) 66 (nI k).toNatClampNeg 0) 67 (nI k).toNatClampNeg (mkV b A O n R k) = _
        rw [s0, mz_sA (by decide) (by decide), ck]
    · have e : bkStep A O n R b k = (va_up b.1 k (some (mkV b A O n R k)), b.2) := by
        unfold bkStep; rw [if_neg (fun w => w hv), if_neg h2, if_pos h0, if_neg hp]
      rw [e]
      refine ⟨V1, u2 (u2 A1 19 k 1) 20 k (mkV b A O n R k), rn_i (full := cd_136) hM.1 (ok_n rfl) rfl (fun K hK => hK 0 _ _ _ ⟨mt_g hM 8 (by decide), ⟨mt_l hM 8 (by decide) vk, ⟨fun c2 => ?_,
        fun c2 => ⟨mt_g hM 11 (by decide), ⟨mt_l hM 11 (by decide) vk, ⟨mt_g hM 10 (by decide), ⟨mt_l hM 10 (by decide) vk, ⟨_, _, rg', ⟨_, _, r1, ⟨mt_g hM 8 (by decide), ⟨mt_l hM 8 (by decide) vk, ⟨fun c13 => ⟨mt_g hM 19 (by decide), ⟨_, _, pl, ⟨fun c15 => absurd c15 hp,
            fun c15 => ⟨mt_b hM 19 (by decide) vk (Or.inr rfl), ⟨mt_g hM 20 (by decide), ⟨mt_g hM 0 (by decide), ⟨mt_l hM 0 (by decide) vc, ⟨mt_g hM 1 (by decide), ⟨mt_l hM 1 (by decide) vc, ⟨_, _, ro', ⟨mt_l hM 20 (by decide) vk, ⟨rfl, ?_⟩⟩⟩⟩⟩⟩⟩⟩⟩⟩⟩⟩,
          fun c13 => absurd (e8.trans h0) c13⟩⟩⟩⟩⟩⟩⟩⟩⟩⟩⟩⟩), a1, u2_B (u2_B ab (by decide)) (by decide), BR_mark hB1 k _⟩
      · have c2 : A 8 (nI k).toNatClampNeg = 2 := c2
        rw [ck] at c2; exact absurd c2 h2
      · show sI (sI (mz z0 V1 A1) 66 (nI k).toNatClampNeg 1) 67 (nI k).toNatClampNeg (mkV b A O n R k) = _
        rw [s1, mz_sA (by decide) (by decide), ck]
  · have n0 : ¬ A 8 k = 0 := by rw [h1]; decide
    by_cases hp : plF A k < 7
    · have e : bkStep A O n R b k = b := by
        unfold bkStep; rw [if_neg (fun w => w hv), if_neg h2, if_neg n0, if_pos hp]
      rw [e]
      refine ⟨V1, A1, rn_i (full := cd_136) hM.1 (ok_n rfl) rfl (fun K hK => hK 0 _ _ _ ⟨mt_g hM 8 (by decide), ⟨mt_l hM 8 (by decide) vk, ⟨fun c2 => ?_,
        fun c2 => ⟨mt_g hM 11 (by decide), ⟨mt_l hM 11 (by decide) vk, ⟨mt_g hM 10 (by decide), ⟨mt_l hM 10 (by decide) vk, ⟨_, _, rg', ⟨_, _, r1, ⟨mt_g hM 8 (by decide), ⟨mt_l hM 8 (by decide) vk, ⟨fun c13 => absurd (e8.symm.trans c13) n0,
          fun c13 => ⟨_, _, pl, ⟨fun c31 => absurd c31 (Int32.not_le.mpr hp), fun c31 => ⟨rfl, rfl⟩⟩⟩⟩⟩⟩⟩⟩⟩⟩⟩⟩⟩⟩⟩), a1, ab, hB1⟩
      · have c2 : A 8 (nI k).toNatClampNeg = 2 := c2
        rw [ck] at c2; exact absurd c2 h2
    · have e : bkStep A O n R b k = jnB b k (hfV b A O n R k) (ff (qW b A k) O n) := by
        unfold bkStep; rw [if_neg (fun w => w hv), if_neg h2, if_neg n0, if_neg hp]
      rw [e]
      have em : rnd (113 * (10 * asB b A O n k c - A1 0 (A 11 (nI k).toNatClampNeg).toNatClampNeg / 2 - 5 * rgF A (A 11 k) (A 10 k) R)) (A1 1 (A 11 (nI k).toNatClampNeg).toNatClampNeg) = hfV b A O n R k := by
        unfold hfV; rw [cc, ecN, ab 0 (by decide), ab 1 (by decide)]
      have ro := M_rounded (d + 6) (mz z0 V1 (u2 A1 21 k 1)) (113 * (10 * asB b A O n k c - A1 0 (A 11 (nI k).toNatClampNeg).toNatClampNeg / 2 - 5 * rgF A (A 11 k) (A 10 k) R)) (A1 1 (A 11 (nI k).toNatClampNeg).toNatClampNeg) hsl
      rw [em] at ro
      have s1 : sI (mz z0 V1 A1) 68 (nI k).toNatClampNeg 1 = mz z0 V1 (u2 A1 21 k 1) := by rw [mz_sA (by decide) (by decide), ck]
      rw [← s1] at ro
      have s2 : sI (sI (mz z0 V1 A1) 68 (nI k).toNatClampNeg 1) 69 (nI k).toNatClampNeg (hfV b A O n R k) = mz z0 V1 (u2 (u2 A1 21 k 1) 22 k (hfV b A O n R k)) := by rw [s1, mz_sA (by decide) (by decide), ck]
      have jo := M_join (d + 7) z0 V1 (u2 (u2 A1 21 k 1) 22 k (hfV b A O n R k)) hM n ((a1 10 (by decide) (by decide) (by decide)).trans hn) h60 O hB1.1 k (by omega)
      have bh := BR_half hB1 k hk (hfV b A O n R k) hf
      rw [show ff (qW b A1 k) O n = ff (qW b A k) O n by unfold qW; rw [ab 9 (by decide), ab 10 (by decide)]] at bh
      have aj : AgB A (jnA (u2 (u2 A1 21 k 1) 22 k (hfV b A O n R k)) k (ff (qJ (u2 (u2 A1 21 k 1) 22 k (hfV b A O n R k)) k) O n)) := by
        have h2' : AgB A (u2 (u2 A1 21 k 1) 22 k (hfV b A O n R k)) := u2_B (u2_B ab (by decide)) (by decide)
        cases ff (qJ (u2 (u2 A1 21 k 1) 22 k (hfV b A O n R k)) k) O n with
        | none => exact u2_B h2' (by decide)
        | some o => exact u2_B (u2_B (u2_B (u2_B (u2_B h2' (by decide)) (by decide)) (by decide)) (by decide)) (by decide)
      rw [← s2] at jo
      refine ⟨V1, _, rn_i (full := cd_136) hM.1 (ok_n rfl) rfl (fun K hK => hK 0 _ _ _ ⟨mt_g hM 8 (by decide), ⟨mt_l hM 8 (by decide) vk, ⟨fun c2 => ?_,
        fun c2 => ⟨mt_g hM 11 (by decide), ⟨mt_l hM 11 (by decide) vk, ⟨mt_g hM 10 (by decide), ⟨mt_l hM 10 (by decide) vk, ⟨_, _, rg', ⟨_, _, r1, ⟨mt_g hM 8 (by decide), ⟨mt_l hM 8 (by decide) vk, ⟨fun c13 => absurd (e8.symm.trans c13) n0,
          fun c13 => ⟨_, _, pl, ⟨fun c31 => ⟨mt_g hM 21 (by decide), ⟨mt_b hM 21 (by decide) vk (Or.inr rfl), ⟨mt_g hM 22 (by decide), ⟨mt_g hM 0 (by decide), ⟨mt_l hM 0 (by decide) vc, ⟨by decide, ⟨mt_g hM 1 (by decide), ⟨mt_l hM 1 (by decide) vc, ⟨_, _, ro, ⟨mt_l hM 22 (by decide) vk, ⟨_, _, jo, ⟨rfl, rfl⟩⟩⟩⟩⟩⟩⟩⟩⟩⟩⟩⟩,
            fun c31 => absurd (Int32.not_lt.mp hp) c31⟩⟩⟩⟩⟩⟩⟩⟩⟩⟩⟩⟩⟩⟩), a1, aj, bh⟩
      · have c2 : A 8 (nI k).toNatClampNeg = 2 := c2
        rw [ck] at c2; exact absurd c2 h2
end MCard
