/-! Small methods: the JDK's, and the model's that have no book. Own work. -/
theorem loop_up {P : Nat → Prop} (n : Nat) (h : ∀ k, k ≤ n → (k < n → P (k + 1)) → P k) : ∀ k, k ≤ n → P k := by
  have key : ∀ m k, k + m = n → P k := by
    intro m
    induction m with
    | zero => intro k hk; exact h k (by omega) (fun q => absurd q (by omega))
    | succ m ih => intro k hk; exact h k (by omega) (fun _ => ih (k + 1) (by omega))
  exact fun k hk => key (n - k) k (by omega)
theorem nI_leN {a b : Nat} (ha : a < 2 ^ 31) (hb : b < 2 ^ 31) (h : ¬ nI a ≤ nI b) : b < a := Nat.not_le.mp (fun q => h ((nI_leI ha hb).mpr q))
theorem ix18 (c h : Nat) : (18 : Int32) * nI c + nI h = nI (18 * c + h) := by
  rw [show (18 : Int32) = nI 18 from rfl, pk_mul, nI_add]
def fdv (x y : Int32) : Int32 := if 0 ≤ x ^^^ y then x / y else if x / y * y = x then x / y else x / y - 1
def fmd (x y : Int32) : Int32 := if 0 ≤ x ^^^ y then x - x / y * y else if x - x / y * y = 0 then x - x / y * y else x - x / y * y + y
def rnd (a b : Int32) : Int32 := fdv (2 * a + b) (2 * b)
theorem J_floorDiv (d : Nat) (z : ZS) (x y : Int32) (hy : ¬ y = 0) : Rn (d + 1) i_J_floorDiv [.int x, .int y] z (some (.int (fdv x y))) z :=
  rn_i (full := cd_2) trivial trivial rfl (fun K hK => hK 0 _ _ _ ⟨hy, ⟨fun c2 => ⟨by unfold fdv; rw [if_pos c2], rfl⟩, fun c2 => ⟨fun c4 => ⟨by unfold fdv; rw [if_neg c2, if_pos c4], rfl⟩, fun c4 => ⟨by unfold fdv; rw [if_neg c2, if_neg c4], rfl⟩⟩⟩⟩)
theorem J_floorMod (d : Nat) (z : ZS) (x y : Int32) (hy : ¬ y = 0) : Rn (d + 1) i_J_floorMod [.int x, .int y] z (some (.int (fmd x y))) z :=
  rn_i (full := cd_3) trivial trivial rfl (fun K hK => hK 0 _ _ _ ⟨hy, ⟨fun c2 => ⟨by unfold fmd; rw [if_pos c2], rfl⟩, fun c2 => ⟨fun c4 => ⟨by unfold fmd; rw [if_neg c2, if_pos c4], rfl⟩, fun c4 => ⟨by unfold fmd; rw [if_neg c2, if_neg c4], rfl⟩⟩⟩⟩)
theorem J_max (d : Nat) (z : ZS) (x y : Int32) : Rn (d + 1) i_J_max [.int x, .int y] z (some (.int (if x < y then y else x))) z :=
  rn_i (full := cd_4) trivial trivial rfl (fun K hK => hK 0 _ _ _ ⟨fun c1 => ⟨by rw [if_pos c1], rfl⟩, fun c1 => ⟨by rw [if_neg c1], rfl⟩⟩)
theorem J_min (d : Nat) (z : ZS) (x y : Int32) : Rn (d + 1) i_J_min [.int x, .int y] z (some (.int (if y < x then y else x))) z :=
  rn_i (full := cd_5) trivial trivial rfl (fun K hK => hK 0 _ _ _ ⟨fun c1 => ⟨by rw [if_pos c1], rfl⟩, fun c1 => ⟨by rw [if_neg c1], rfl⟩⟩)
theorem J_abs (d : Nat) (z : ZS) (x : Int32) : Rn (d + 1) i_J_abs [.int x] z (some (.int (if 0 ≤ x then x else -x))) z :=
  rn_i (full := cd_1) trivial trivial rfl (fun K hK => hK 0 _ _ _ ⟨fun c1 => ⟨by rw [if_pos c1], rfl⟩, fun c1 => ⟨by rw [if_neg c1], rfl⟩⟩)
theorem N_compare (d : Nat) (z : ZS) (x y : Int32) : Rn (d + 1) i_N_compare [.int x, .int y] z (some (.int (if y ≤ x then (if x = y then 0 else 1) else -1))) z :=
  rn_i (full := cd_0) trivial trivial rfl (fun K hK => hK 0 _ _ _ ⟨fun c1 => ⟨fun c2 => ⟨by rw [if_pos c1, if_pos c2], rfl⟩, fun c2 => ⟨by rw [if_pos c1, if_neg c2], rfl⟩⟩, fun c1 => ⟨by rw [if_neg c1], rfl⟩⟩)
theorem M_rounded (d : Nat) (z : ZS) (x y : Int32) (hy : ¬ 2 * y = 0) : Rn (d + 2) i_M_rounded [.int x, .int y] z (some (.int (rnd x y))) z :=
  rn_i (full := cd_108) trivial trivial rfl (fun K hK => hK 0 _ _ _ ⟨_, _, J_floorDiv d z _ _ hy, rfl, rfl⟩)
theorem b1_t {P : Prop} [Decidable P] (h : (if P then (1 : Int32) else 0) = 0) : ¬ P := fun q => by rw [if_pos q] at h; exact absurd h (by decide)
theorem b1_f {P : Prop} [Decidable P] (h : ¬ (if P then (1 : Int32) else 0) = 0) : P := Classical.byContradiction (fun q => h (if_neg q))
theorem M_isAsked (d : Nat) (z : ZS) (p day : Int32) : Rn (d + 3) i_M_isAsked [.int p, .int day] z (some (.int (if (0 ≤ p ∧ p ≤ 11) ∧ 0 ≤ day ∧ day ≤ 9999 then 1 else 0))) z := by
  refine rn_i (full := cd_155) trivial ok_b rfl (fun K hK => hK 0 _ _ _ ⟨_, _, M_isPlayer d z p, ⟨fun c2 => ⟨?_, rfl⟩, fun c2 => ⟨_, _, M_isDay d z day, ⟨fun c5 => ⟨?_, rfl⟩, fun c5 => ⟨?_, rfl⟩⟩⟩⟩⟩)
  · rw [if_neg (fun w => b1_t c2 w.1)]
  · rw [if_neg (fun w => b1_t c5 w.2)]
  · rw [if_pos ⟨b1_f c2, b1_f c5⟩]
section MLeaf
variable (d : Nat) (z0 : ZS) (V : Nat → Int32) (A : Nat → Nat → Int32)
def parsF (A : Nat → Nat → Int32) (c : Nat) : Nat → Int32
  | 0 => 0
  | h + 1 => parsF A c h + A 2 (18 * c + h)
theorem M_pars (hM : MT z0) (c n : Nat) (hc : c < 4) (hn : n ≤ 18) : Rn (d + 1) i_M_pars [.ref 46, .int (nI c), .int (nI n)] (mz z0 V A) (some (.int (parsF A c n))) (mz z0 V A) := by
  refine rn_i (full := cd_118) hM.1 trivial rfl (fun K hK => ?_)
  refine hK 0 _ _ _ (loop_up (P := fun k => K 5 [.ref 46, .int (nI c), .int (nI n), .int (parsF A c k), .int (nI k)] [] (mz z0 V A)) n (fun k hk ih => ?_) 0 (by omega))
  refine hK 4 _ _ _ ⟨fun c1 => ?_, fun c1 => ⟨mt_g hM 2 (by decide), ⟨mt_l hM 2 (by decide) ?_, ?_⟩⟩⟩
  · have c1 : n ≤ k := (nI_leI (by omega) (by omega)).mp c1
    have : k = n := by omega
    subst this
    exact ⟨rfl, rfl⟩
  · have c1 := nI_leN (by omega) (by omega) c1
    rw [ix18]; exact vp_in_nI (by show _ < 72; omega) (by decide)
  · have c1 := nI_leN (by omega) (by omega) c1
    have ih := ih c1
    rw [nI_succ] at ih
    show K 5 [.ref 46, .int (nI c), .int (nI n), .int (parsF A c k + A 2 ((18 : Int32) * nI c + nI k).toNatClampNeg), .int (nI k + 1)] [] (mz z0 V A)
    rw [ix18, nI_clamp (by omega)]
    exact ih
def lastF (A : Nat → Nat → Int32) (k : Nat) : Int32 := A 12 k + (if A 8 k = 1 then 9 else 18)
theorem M_lastOf (hM : MT z0) (k : Nat) (hk : k < 60) : Rn (d + 1) i_M_lastOf [.ref 46, .int (nI k)] (mz z0 V A) (some (.int (lastF A k))) (mz z0 V A) := by
  have hi : vp_in (nI k) 60 := vp_in_nI hk (by decide)
  have hcl : (nI k).toNatClampNeg = k := nI_clamp (by omega)
  refine rn_i (full := cd_128) hM.1 trivial rfl (fun K hK => hK 0 _ _ _ ⟨mt_g hM 12 (by decide), ⟨mt_l hM 12 (by decide) hi, ⟨mt_g hM 8 (by decide), ⟨mt_l hM 8 (by decide) hi, ⟨fun c3 => ⟨?_, rfl⟩, fun c3 => ⟨?_, rfl⟩⟩⟩⟩⟩⟩)
  · have c3 : A 8 (nI k).toNatClampNeg = 1 := c3
    show some (Value.int (A 12 (nI k).toNatClampNeg + 9)) = _
    rw [hcl] at c3 ⊢
    unfold lastF; rw [if_pos c3]
  · have c3 : ¬ A 8 (nI k).toNatClampNeg = 1 := c3
    show some (Value.int (A 12 (nI k).toNatClampNeg + 18)) = _
    rw [hcl] at c3 ⊢
    unfold lastF; rw [if_neg c3]
/-- a card's first hole, and the one behind its last -/
def fsN (A : Nat → Nat → Int32) (k : Nat) : Nat := if A 12 k = 9 then 9 else 0
def lsN (A : Nat → Nat → Int32) (k : Nat) : Nat := fsN A k + (if A 8 k = 1 then 9 else 18)
def CK (A : Nat → Nat → Int32) (k : Nat) : Prop := A 12 k = nI (fsN A k) ∧ lastF A k = nI (lsN A k) ∧ lsN A k ≤ 18
def pcn (A : Nat → Nat → Int32) (k f : Nat) : Nat → Int32
  | 0 => 0
  | j + 1 => pcn A k f j + (if A 15 (18 * k + (f + j)) = 0 then 0 else 1)
def plF (A : Nat → Nat → Int32) (k : Nat) : Int32 := pcn A k (fsN A k) (lsN A k - fsN A k)
theorem M_playedOf (hM : MT z0) (k : Nat) (hk : k < 60) (hC : CK A k) : Rn (d + 2) i_M_playedOf [.ref 46, .int (nI k)] (mz z0 V A) (some (.int (plF A k))) (mz z0 V A) := by
  obtain ⟨h1, h2, h3⟩ := hC
  have hi : vp_in (nI k) 60 := vp_in_nI hk (by decide)
  have hcl : (nI k).toNatClampNeg = k := nI_clamp (by omega)
  have hfl : fsN A k ≤ lsN A k := by unfold lsN; omega
  refine rn_i (full := cd_129) hM.1 trivial rfl (fun K hK => hK 0 _ _ _ ⟨mt_g hM 12 (by decide), ⟨mt_l hM 12 (by decide) hi, ?_⟩⟩)
  show K 9 [.ref 46, .int (nI k), .int 0, .int (A 12 (nI k).toNatClampNeg)] [] (mz z0 V A)
  rw [hcl, h1]
  refine loop_up (P := fun j => K 9 [.ref 46, .int (nI k), .int (pcn A k (fsN A k) j), .int (nI (fsN A k + j))] [] (mz z0 V A)) (lsN A k - fsN A k) (fun j hj ih => ?_) 0 (by omega)
  refine hK 7 _ _ _ ⟨_, _, M_lastOf d z0 V A hM k hk, ⟨fun c2 => ?_, fun c2 => ⟨mt_g hM 15 (by decide), ⟨mt_l hM 15 (by decide) ?_, ⟨fun c5 => ?_, fun c5 => ?_⟩⟩⟩⟩⟩
  · rw [h2] at c2
    have c2 : lsN A k ≤ fsN A k + j := (nI_leI (by omega) (by omega)).mp c2
    have : j = lsN A k - fsN A k := by omega
    subst this
    exact ⟨rfl, rfl⟩
  · rw [ix18]; rw [h2] at c2; have c2 := nI_leN (by omega) (by omega) c2; exact vp_in_nI (by show _ < 1080; omega) (by decide)
  · rw [h2] at c2; have c2 := nI_leN (by omega) (by omega) c2
    have c5 : A 15 ((18 : Int32) * nI k + nI (fsN A k + j)).toNatClampNeg = 0 := c5
    rw [ix18, nI_clamp (by omega)] at c5
    have ih := ih (by omega)
    simp only [pcn, c5, if_true] at ih
    rw [← Nat.add_assoc, nI_succ] at ih
    exact ih
  · rw [h2] at c2; have c2 := nI_leN (by omega) (by omega) c2
    have c5 : ¬ A 15 ((18 : Int32) * nI k + nI (fsN A k + j)).toNatClampNeg = 0 := c5
    rw [ix18, nI_clamp (by omega)] at c5
    have ih := ih (by omega)
    simp only [pcn, c5, if_false] at ih
    rw [← Nat.add_assoc, nI_succ] at ih
    exact ih
theorem M_hasHole (hM : MT z0) (k : Nat) (hk : k < 60) (h : Int32) : Rn (d + 2) i_M_hasHole [.ref 46, .int (nI k), .int h] (mz z0 V A) (some (.int (if A 12 k ≤ h ∧ h < lastF A k then 1 else 0))) (mz z0 V A) := by
  have hi : vp_in (nI k) 60 := vp_in_nI hk (by decide)
  have hcl : (nI k).toNatClampNeg = k := nI_clamp (by omega)
  refine rn_i (full := cd_132) hM.1 ok_b rfl (fun K hK => hK 0 _ _ _ ⟨mt_g hM 12 (by decide), ⟨mt_l hM 12 (by decide) hi, ⟨fun c2 => ⟨?_, rfl⟩, fun c2 => ⟨_, _, M_lastOf d z0 V A hM k hk, ⟨fun c5 => ⟨?_, rfl⟩, fun c5 => ⟨?_, rfl⟩⟩⟩⟩⟩⟩)
  · have c2 : h < A 12 (nI k).toNatClampNeg := c2
    rw [hcl] at c2
    rw [if_neg (fun w => Int32.not_le.mpr c2 w.1)]
  · rw [if_neg (fun w => Int32.not_lt.mpr c5 w.2)]
  · have c2 : ¬ h < A 12 (nI k).toNatClampNeg := c2
    rw [hcl] at c2
    rw [if_pos ⟨Int32.not_lt.mp c2, Int32.not_le.mp c5⟩]
/-- what of g is given at a hole of rank r -/
def gvF (g r : Int32) : Int32 := fdv g 18 + (if fmd g 18 < r then 0 else 1)
theorem M_givenAt (hM : MT z0) (g : Int32) (c h : Nat) (hc : c < 4) (hh : h < 18) : Rn (d + 2) i_M_givenAt [.ref 46, .int g, .int (nI c), .int (nI h)] (mz z0 V A) (some (.int (gvF g (A 3 (18 * c + h))))) (mz z0 V A) := by
  have hi : vp_in ((18 : Int32) * nI c + nI h) 72 := by rw [ix18]; exact vp_in_nI (by omega) (by decide)
  have hcl : ((18 : Int32) * nI c + nI h).toNatClampNeg = 18 * c + h := by rw [ix18]; exact nI_clamp (by omega)
  refine rn_i (full := cd_138) hM.1 trivial rfl (fun K hK => hK 0 _ _ _ ⟨_, _, J_floorDiv d _ g 18 (by decide), ⟨mt_g hM 3 (by decide), ⟨mt_l hM 3 (by decide) hi, ⟨_, _, J_floorMod d _ g 18 (by decide), ⟨fun c4 => ⟨?_, rfl⟩, fun c4 => ⟨?_, rfl⟩⟩⟩⟩⟩⟩)
  · have c4 : fmd g 18 < A 3 ((18 : Int32) * nI c + nI h).toNatClampNeg := c4
    rw [hcl] at c4
    unfold gvF; rw [if_pos c4]
  · have c4 : ¬ fmd g 18 < A 3 ((18 : Int32) * nI c + nI h).toNatClampNeg := c4
    rw [hcl] at c4
    unfold gvF; rw [if_neg c4]
/-- how many of m make RAW, and what is taken off -/
def tkN (m : Nat) : Nat := if m < 3 then 0 else if m < 6 then 1 else if m < 9 then 2 else if m < 12 then 3 else if m < 15 then 4 else if m < 17 then 5 else if m < 19 then 6 else m - 12
def lsF (m : Nat) : Int32 := if m = 3 then 20 else if m = 4 ∨ m = 6 then 10 else 0
theorem M_taken (z : ZS) (m : Nat) (hm : m < 100) : Rn (d + 1) i_M_taken [.int (nI m)] z (some (.int (nI (tkN m)))) z := by
  have le : ∀ j : Nat, j < 100 → (nI j ≤ nI m ↔ j ≤ m) := fun j hj => nI_leI (by omega) (by omega)
  refine rn_i (full := cd_144) trivial trivial rfl (fun K hK => hK 0 _ _ _ ⟨fun c1 => ⟨fun c2 => ⟨fun c3 => ⟨fun c4 => ⟨fun c5 => ⟨fun c6 => ⟨fun c7 => ⟨?_, rfl⟩, fun c7 => ⟨?_, rfl⟩⟩, fun c6 => ⟨?_, rfl⟩⟩, fun c5 => ⟨?_, rfl⟩⟩, fun c4 => ⟨?_, rfl⟩⟩, fun c3 => ⟨?_, rfl⟩⟩, fun c2 => ⟨?_, rfl⟩⟩, fun c1 => ⟨?_, rfl⟩⟩)
  · have c7 : 19 ≤ m := (le 19 (by decide)).mp c7
    unfold tkN
    rw [if_neg (by omega), if_neg (by omega), if_neg (by omega), if_neg (by omega), if_neg (by omega), if_neg (by omega), if_neg (by omega)]
    rw [show (12 : Int32) = nI 12 from rfl, pk_sub (by omega)]
  · have c6 : 17 ≤ m := (le 17 (by decide)).mp c6
    have c7 : ¬ 19 ≤ m := fun q => c7 ((le 19 (by decide)).mpr q)
    unfold tkN
    rw [if_neg (by omega), if_neg (by omega), if_neg (by omega), if_neg (by omega), if_neg (by omega), if_neg (by omega), if_pos (by omega)]; rfl
  · have c5 : 15 ≤ m := (le 15 (by decide)).mp c5
    have c6 : ¬ 17 ≤ m := fun q => c6 ((le 17 (by decide)).mpr q)
    unfold tkN
    rw [if_neg (by omega), if_neg (by omega), if_neg (by omega), if_neg (by omega), if_neg (by omega), if_pos (by omega)]; rfl
  · have c4 : 12 ≤ m := (le 12 (by decide)).mp c4
    have c5 : ¬ 15 ≤ m := fun q => c5 ((le 15 (by decide)).mpr q)
    unfold tkN
    rw [if_neg (by omega), if_neg (by omega), if_neg (by omega), if_neg (by omega), if_pos (by omega)]; rfl
  · have c3 : 9 ≤ m := (le 9 (by decide)).mp c3
    have c4 : ¬ 12 ≤ m := fun q => c4 ((le 12 (by decide)).mpr q)
    unfold tkN
    rw [if_neg (by omega), if_neg (by omega), if_neg (by omega), if_pos (by omega)]; rfl
  · have c2 : 6 ≤ m := (le 6 (by decide)).mp c2
    have c3 : ¬ 9 ≤ m := fun q => c3 ((le 9 (by decide)).mpr q)
    unfold tkN
    rw [if_neg (by omega), if_neg (by omega), if_pos (by omega)]; rfl
  · have c1 : 3 ≤ m := (le 3 (by decide)).mp c1
    have c2 : ¬ 6 ≤ m := fun q => c2 ((le 6 (by decide)).mpr q)
    unfold tkN
    rw [if_neg (by omega), if_pos (by omega)]; rfl
  · have c1 : ¬ 3 ≤ m := fun q => c1 ((le 3 (by decide)).mpr q)
    unfold tkN
    rw [if_pos (by omega)]; rfl
theorem M_less (z : ZS) (m : Nat) (hm : m < 100) : Rn (d + 1) i_M_less [.int (nI m)] z (some (.int (lsF m))) z := by
  have eq : ∀ j : Nat, j < 100 → (nI m = nI j ↔ m = j) := fun j hj => nI_eq (by omega) (by omega)
  refine rn_i (full := cd_145) trivial trivial rfl (fun K hK => hK 0 _ _ _ ⟨fun c1 => ⟨?_, rfl⟩, fun c1 => ⟨fun c3 => ⟨?_, rfl⟩, fun c3 => ⟨fun c5 => ⟨?_, rfl⟩, fun c5 => ⟨?_, rfl⟩⟩⟩⟩)
  · unfold lsF; rw [if_pos ((eq 3 (by decide)).mp c1)]
  · unfold lsF; rw [if_neg (fun q => c1 ((eq 3 (by decide)).mpr q)), if_pos (Or.inl ((eq 4 (by decide)).mp c3))]
  · unfold lsF; rw [if_neg (fun q => c1 ((eq 3 (by decide)).mpr q)), if_pos (Or.inr ((eq 6 (by decide)).mp c5))]
  · unfold lsF; rw [if_neg (fun q => c1 ((eq 3 (by decide)).mpr q)), if_neg (fun q => q.elim (fun q => c3 ((eq 4 (by decide)).mpr q)) (fun q => c5 ((eq 6 (by decide)).mpr q)))]
end MLeaf
