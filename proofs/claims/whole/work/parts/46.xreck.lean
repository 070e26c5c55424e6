/-! The class's reckonCard, join, share. Own work. -/
/-- the heap with a card's mark, half, partner, the other's partner, and an array -/
def rkz (z : ZS) (x : Nat) (mk hf : Int32) (pt o y : Nat) (F : Nat → Int32) : ZS := (z.1, z.2.1, z.2.2.1, z.2.2.2.1, fun a j => if a = x ∧ j = 12 then mk else if a = x ∧ j = 13 then hf else if a = y then F j else z.2.2.2.2.1 a j, fun a j => if a = x ∧ j = 14 then pt else if a = o ∧ j = 14 then x else z.2.2.2.2.2 a j)
theorem zs_ext {z z' : ZS} (h1 : z.1 = z'.1) (h2 : z.2.1 = z'.2.1) (h3 : z.2.2.1 = z'.2.2.1) (h4 : z.2.2.2.1 = z'.2.2.2.1) (hI : ∀ a j, zI z a j = zI z' a j) (hP : ∀ a j, zP z a j = zP z' a j) : z = z' := by
  obtain ⟨a, b, c, d, e, f⟩ := z
  obtain ⟨a', b', c', d', e', f'⟩ := z'
  have h1 : a = a' := h1
  have h2 : b = b' := h2
  have h3 : c = c' := h3
  have h4 : d = d' := h4
  have h5 : e = e' := funext (fun x => funext (fun j => hI x j))
  have h6 : f = f' := funext (fun x => funext (fun j => hP x j))
  rw [h1, h2, h3, h4, h5, h6]
theorem rkz_id (z : ZS) (x : Nat) : rkz z x (zI z x 12) (zI z x 13) (zP z x 14) x x (zI z x) = z := by
  obtain ⟨a, b, c, d, e, f⟩ := z
  unfold rkz
  congr 5
  congr 1
  · funext u j
    show (if u = x ∧ j = 12 then e x 12 else if u = x ∧ j = 13 then e x 13 else if u = x then e x j else e u j) = e u j
    by_cases h : u = x
    · subst h
      by_cases h1 : j = 12
      · rw [if_pos ⟨rfl, h1⟩, h1]
      · rw [if_neg (fun w => h1 w.2)]
        by_cases h2 : j = 13
        · rw [if_pos ⟨rfl, h2⟩, h2]
        · rw [if_neg (fun w => h2 w.2), if_pos rfl]
    · rw [if_neg (fun w => h w.1), if_neg (fun w => h w.1), if_neg h]
  · funext u j
    show (if u = x ∧ j = 14 then f x 14 else if u = x ∧ j = 14 then x else f u j) = f u j
    by_cases h : u = x ∧ j = 14
    · rw [if_pos h, h.1, h.2]
    · rw [if_neg h, if_neg h]
section Rkz
variable (z : ZS) (x : Nat) (mk hf : Int32) (pt o y : Nat) (F : Nat → Int32)
theorem rkz_m (v : Int32) : sI (rkz z x mk hf pt o y F) x 12 v = rkz z x v hf pt o y F := by
  refine zs_ext rfl rfl rfl rfl (fun a j => ?_) (fun _ _ => rfl)
  show (if a = x ∧ j = 12 then v else if a = x ∧ j = 12 then mk else if a = x ∧ j = 13 then hf else if a = y then F j else z.2.2.2.2.1 a j) = if a = x ∧ j = 12 then v else if a = x ∧ j = 13 then hf else if a = y then F j else z.2.2.2.2.1 a j
  by_cases h : a = x ∧ j = 12
  · rw [if_pos h, if_pos h]
  · rw [if_neg h, if_neg h, if_neg h]
theorem rkz_h (v : Int32) : sI (rkz z x mk hf pt o y F) x 13 v = rkz z x mk v pt o y F := by
  refine zs_ext rfl rfl rfl rfl (fun a j => ?_) (fun _ _ => rfl)
  show (if a = x ∧ j = 13 then v else if a = x ∧ j = 12 then mk else if a = x ∧ j = 13 then hf else if a = y then F j else z.2.2.2.2.1 a j) = if a = x ∧ j = 12 then mk else if a = x ∧ j = 13 then v else if a = y then F j else z.2.2.2.2.1 a j
  by_cases h : a = x ∧ j = 13
  · rw [if_pos h, if_neg (by omega), if_pos h]
  · rw [if_neg h, if_neg h, if_neg h]
theorem rkz_p (v : Nat) : sP (rkz z x mk hf pt o y F) x 14 v = rkz z x mk hf v o y F := by
  refine zs_ext rfl rfl rfl rfl (fun _ _ => rfl) (fun a j => ?_)
  show (if a = x ∧ j = 14 then v else if a = x ∧ j = 14 then pt else if a = o ∧ j = 14 then x else z.2.2.2.2.2 a j) = if a = x ∧ j = 14 then v else if a = o ∧ j = 14 then x else z.2.2.2.2.2 a j
  by_cases h : a = x ∧ j = 14
  · rw [if_pos h, if_pos h]
  · rw [if_neg h, if_neg h, if_neg h]
theorem rkz_o (o' : Nat) (ho : o' ≠ x) : sP (rkz z x mk hf pt x y F) o' 14 x = rkz z x mk hf pt o' y F := by
  refine zs_ext rfl rfl rfl rfl (fun _ _ => rfl) (fun a j => ?_)
  show (if a = o' ∧ j = 14 then x else if a = x ∧ j = 14 then pt else if a = x ∧ j = 14 then x else z.2.2.2.2.2 a j) = if a = x ∧ j = 14 then pt else if a = o' ∧ j = 14 then x else z.2.2.2.2.2 a j
  by_cases h : a = x ∧ j = 14
  · rw [if_neg (fun w => ho (w.1.symm.trans h.1)), if_pos h, if_pos h]
  · rw [if_neg h, if_neg h, if_neg h]
theorem rkz_y (hy : y ≠ x) (i : Nat) (v : Int32) : sI (rkz z x mk hf pt o y F) y i v = rkz z x mk hf pt o y (upd F i v) := by
  refine zs_ext rfl rfl rfl rfl (fun a j => ?_) (fun _ _ => rfl)
  show (if a = y ∧ j = i then v else if a = x ∧ j = 12 then mk else if a = x ∧ j = 13 then hf else if a = y then F j else z.2.2.2.2.1 a j) = if a = x ∧ j = 12 then mk else if a = x ∧ j = 13 then hf else if a = y then (if j = i then v else F j) else z.2.2.2.2.1 a j
  by_cases h : a = y
  · have n : ¬ a = x := fun e => hy (h.symm.trans e)
    rw [if_neg (fun w => n w.1 : ¬ (a = x ∧ j = 12)), if_neg (fun w => n w.1 : ¬ (a = x ∧ j = 13)), if_neg (fun w => n w.1 : ¬ (a = x ∧ j = 12)), if_neg (fun w => n w.1 : ¬ (a = x ∧ j = 13)), if_pos h, if_pos h]
    by_cases hk : j = i
    · rw [if_pos ⟨h, hk⟩, if_pos hk]
    · rw [if_neg (fun w => hk w.2), if_neg hk]
  · rw [if_neg (fun w => h w.1 : ¬ (a = y ∧ j = i)), if_neg h, if_neg h]
theorem rkz_sw (hy : y ≠ x) : rkz z x mk hf pt o x (zI z x) = rkz z x mk hf pt o y (zI z y) := by
  refine zs_ext rfl rfl rfl rfl (fun a j => ?_) (fun _ _ => rfl)
  show (if a = x ∧ j = 12 then mk else if a = x ∧ j = 13 then hf else if a = x then zI z x j else zI z a j) = if a = x ∧ j = 12 then mk else if a = x ∧ j = 13 then hf else if a = y then zI z y j else zI z a j
  by_cases h1 : a = x ∧ j = 12
  · rw [if_pos h1, if_pos h1]
  · rw [if_neg h1, if_neg h1]
    by_cases h2 : a = x ∧ j = 13
    · rw [if_pos h2, if_pos h2]
    · rw [if_neg h2, if_neg h2]
      by_cases h3 : a = x
      · rw [if_pos h3, if_neg (fun e => hy (e.symm.trans h3)), h3]
      · rw [if_neg h3]
        by_cases h4 : a = y
        · rw [if_pos h4, h4]
        · rw [if_neg h4]
theorem rk_c {a : Nat} (h1 : a ≠ x) (h2 : a ≠ y) (j : Nat) : zI (rkz z x mk hf pt o y F) a j = zI z a j := by
  show (if a = x ∧ j = 12 then mk else if a = x ∧ j = 13 then hf else if a = y then F j else zI z a j) = _
  rw [if_neg (fun w => h1 w.1), if_neg (fun w => h1 w.1), if_neg h2]
theorem rk_x (hy : x ≠ y) {j : Nat} (h1 : j ≠ 12) (h2 : j ≠ 13) : zI (rkz z x mk hf pt o y F) x j = zI z x j := by
  show (if x = x ∧ j = 12 then mk else if x = x ∧ j = 13 then hf else if x = y then F j else zI z x j) = _
  rw [if_neg (fun w => h1 w.2), if_neg (fun w => h2 w.2), if_neg hy]
theorem rk_x' {j : Nat} (h1 : j ≠ 12) (h2 : j ≠ 13) : zI (rkz z x mk hf pt o x (zI z x)) x j = zI z x j := by
  show (if x = x ∧ j = 12 then mk else if x = x ∧ j = 13 then hf else if x = x then zI z x j else zI z x j) = _
  rw [if_neg (fun w => h1 w.2), if_neg (fun w => h2 w.2), if_pos rfl]
theorem rk_P (a : Nat) {j : Nat} (h : j ≠ 14) : zP (rkz z x mk hf pt o y F) a j = zP z a j := by
  show (if a = x ∧ j = 14 then pt else if a = o ∧ j = 14 then x else zP z a j) = _
  rw [if_neg (fun w => h w.2), if_neg (fun w => h w.2)]
theorem rk_12 : zI (rkz z x mk hf pt o y F) x 12 = mk := by
  show (if x = x ∧ 12 = 12 then mk else _) = mk
  rw [if_pos ⟨rfl, rfl⟩]
theorem rk_13 : zI (rkz z x mk hf pt o y F) x 13 = hf := by
  show (if x = x ∧ 13 = 12 then mk else if x = x ∧ 13 = 13 then hf else _) = hf
  rw [if_neg (fun w => absurd w.2 (by decide)), if_pos ⟨rfl, rfl⟩]
theorem rk_14 : zP (rkz z x mk hf pt o y F) x 14 = pt := by
  show (if x = x ∧ 14 = 14 then pt else _) = pt
  rw [if_pos ⟨rfl, rfl⟩]
theorem rk_y (hy : y ≠ x) (j : Nat) : zI (rkz z x mk hf pt o y F) y j = F j := by
  show (if y = x ∧ j = 12 then mk else if y = x ∧ j = 13 then hf else if y = y then F j else _) = F j
  rw [if_neg (fun w => hy w.1), if_neg (fun w => hy w.1), if_pos rfl]
end Rkz
/-- the shares of the first i holes -/
def shF (Q : Nat → Int32) (f : Nat) (g : Int32) (F : Nat → Int32) (i j : Nat) : Int32 := if j < i then gvF g (Q (f + j)) else F j
theorem shF_s (Q : Nat → Int32) (f : Nat) (g : Int32) (F : Nat → Int32) (i : Nat) : upd (shF Q f g F i) i (gvF g (Q (f + i))) = shF Q f g F (i + 1) := by
  funext j
  unfold upd shF
  by_cases h : j = i
  · rw [if_pos h, if_pos (by omega), h]
  · rw [if_neg h]
    by_cases h2 : j < i
    · rw [if_pos h2, if_pos (by omega)]
    · rw [if_neg h2, if_neg (by omega)]
/-- a card with holes, its course, its arrays, and where they lie -/
def HC (z : ZS) (x y c f len : Nat) (S : Nat → Int32) (r s : Int32) (P Q : Nat → Int32) : Prop :=
  tg z x = 11 ∧ zI z x 6 = nI f ∧ (tg z (zP z x 7) = 1 ∧ ln z (zP z x 7) = len) ∧ zP z x 8 = y ∧ (tg z y = 1 ∧ ln z y = len) ∧ (∀ j, j < len → zI z (zP z x 7) j = S j) ∧ f + len ≤ 18 ∧ zP z x 5 = c ∧ ¬ c = 0 ∧ CO z c r s P Q ∧ (y ≠ x ∧ zP z x 7 ≠ x ∧ zP z x 7 ≠ y ∧ c ≠ x ∧ c ≠ y ∧ zP z c 3 ≠ x ∧ zP z c 3 ≠ y ∧ zP z c 4 ≠ x ∧ zP z c 4 ≠ y)
section XRk
variable (d : Nat) (z : ZS) (x y c f len : Nat) (S : Nat → Int32) (r s : Int32) (P Q : Nat → Int32)
theorem HC_CO (h : HC z x y c f len S r s P Q) (mk hf : Int32) (pt o : Nat) (F : Nat → Int32) : CO (rkz z x mk hf pt o y F) c r s P Q := by
  obtain ⟨h1, h2, h3, h4, h5, h6, h7, h8, h9, ⟨c1, c2, c3, c4, c5, c6, c7⟩, n1, n2, n3, n4, n5, n6, n7, n8, n9⟩ := h
  have e3 : zP (rkz z x mk hf pt o y F) c 3 = zP z c 3 := rk_P z x mk hf pt o y F c (by decide)
  have e4 : zP (rkz z x mk hf pt o y F) c 4 = zP z c 4 := rk_P z x mk hf pt o y F c (by decide)
  refine ⟨c1, by rw [rk_c z x mk hf pt o y F n4 n5]; exact c2, by rw [rk_c z x mk hf pt o y F n4 n5]; exact c3, by rw [e3]; exact c4, by rw [e4]; exact c5, fun h hh => ?_, fun h hh => ?_⟩
  · rw [e3, rk_c z x mk hf pt o y F n6 n7]; exact c6 h hh
  · rw [e4, rk_c z x mk hf pt o y F n8 n9]; exact c7 h hh
theorem HC_DO (h : HC z x y c f len S r s P Q) (mk hf : Int32) (pt o : Nat) (F : Nat → Int32) : DO (rkz z x mk hf pt o y F) x f len S F := by
  obtain ⟨h1, h2, h3, h4, h5, h6, h7, h8, h9, hC, n1, n2, n3, n4, n5, n6, n7, n8, n9⟩ := h
  have e7 : zP (rkz z x mk hf pt o y F) x 7 = zP z x 7 := rk_P z x mk hf pt o y F x (by decide)
  have e8 : zP (rkz z x mk hf pt o y F) x 8 = y := (rk_P z x mk hf pt o y F x (by decide)).trans h4
  refine ⟨h1, by rw [rk_x z x mk hf pt o y F (Ne.symm n1) (by decide) (by decide)]; exact h2, by rw [e7]; exact h3, by rw [e8]; exact h5, fun j hj => ?_, fun j hj => ?_, h7⟩
  · rw [e7, rk_c z x mk hf pt o y F n2 n3]; exact h6 j hj
  · rw [e8, rk_y z x mk hf pt o y F n1]
theorem D_share (h : HC z x y c f len S r s P Q) (mk hf : Int32) (pt o : Nat) (F : Nat → Int32) (g : Int32) : Rn (d + 3) i_D_share [.ref x, .int g] (rkz z x mk hf pt o y F) none (rkz z x mk hf pt o y (shF Q f g F len)) := by
  have h' := h
  obtain ⟨h1, h2, h3, h4, h5, h6, h7, h8, h9, hC, n1, n2, n3, n4, n5, n6, n7, n8, n9⟩ := h
  refine rn_i (full := cd_28) h1 (ok_n rfl) rfl (fun K hK => hK 0 _ _ _ ?_)
  have e8 : ∀ F, zP (rkz z x mk hf pt o y F) x 8 = y := fun F => (rk_P z x mk hf pt o y F x (by decide)).trans h4
  have e5 : ∀ F, zP (rkz z x mk hf pt o y F) x 5 = c := fun F => (rk_P z x mk hf pt o y F x (by decide)).trans h8
  have e6 : ∀ F, zI (rkz z x mk hf pt o y F) x 6 = nI f := fun F => (rk_x z x mk hf pt o y F (Ne.symm n1) (by decide) (by decide)).trans h2
  have ty : ∀ F, tg (rkz z x mk hf pt o y F) (zP (rkz z x mk hf pt o y F) x 8) = 1 := fun F => by rw [e8]; exact h5.1
  have ly : ∀ F, ln (rkz z x mk hf pt o y F) (zP (rkz z x mk hf pt o y F) x 8) = len := fun F => by rw [e8]; exact h5.2
  have st : shF Q f g F 0 = F := by funext j; unfold shF; rw [if_neg (by omega)]
  refine loop_up (P := fun i => K 2 [.ref x, .int g, .int (nI i)] [] (rkz z x mk hf pt o y (shF Q f g F i))) len (fun i hi ih => ?_) 0 (by omega) |> (fun w => by rw [st] at w; exact w)
  by_cases hil : i < len
  · have ih := ih hil
    rw [nI_succ] at ih
    have ci : (nI i).toNatClampNeg = i := nI_clamp (by omega)
    have e : zI (rkz z x mk hf pt o y (shF Q f g F i)) x 6 + nI i = nI (f + i) := by rw [e6, nI_add]
    have rs : Rn (d + 2) i_C_shareAt [.ref (zP (rkz z x mk hf pt o y (shF Q f g F i)) x 5), .int (zI (rkz z x mk hf pt o y (shF Q f g F i)) x 6 + nI i), .int g] (rkz z x mk hf pt o y (shF Q f g F i)) (some (.int (gvF g (Q (f + i))))) (rkz z x mk hf pt o y (shF Q f g F i)) := by
      rw [e, e5]; exact C_shareAt d _ c r s P Q (HC_CO z x y c f len S r s P Q h' mk hf pt o _) (f + i) (by omega) g
    refine hK 2 _ _ _ ⟨h1, ⟨isA1 (ty _), ⟨fun c3 => absurd ?_ (nI_ge (b := len) hil (by omega)), fun c3 => ⟨h1, ⟨h1, ⟨fun c7 => absurd ?_ h9, fun c7 => ⟨h1, ⟨h1, ⟨_, _, rs, ⟨⟨ty _, ?_⟩, ?_⟩⟩⟩⟩⟩⟩⟩⟩⟩⟩
    · have c3 : nI (ln (rkz z x mk hf pt o y (shF Q f g F i)) (zP (rkz z x mk hf pt o y (shF Q f g F i)) x 8)) ≤ nI i := c3
      rw [ly] at c3; exact c3
    · have c7 : zP (rkz z x mk hf pt o y (shF Q f g F i)) x 5 = 0 := c7
      rw [e5] at c7; exact c7
    · show vp_in (nI i) (ln (rkz z x mk hf pt o y (shF Q f g F i)) (zP (rkz z x mk hf pt o y (shF Q f g F i)) x 8))
      rw [ly]; exact vp_in_nI hil (by omega)
    · show K 2 [.ref x, .int g, .int (nI i + 1)] [] (sI (rkz z x mk hf pt o y (shF Q f g F i)) (zP (rkz z x mk hf pt o y (shF Q f g F i)) x 8) (nI i).toNatClampNeg (gvF g (Q (f + i))))
      rw [e8, rkz_y z x mk hf pt o y _ n1, ci, shF_s]; exact ih
  · have : i = len := by omega
    subst this
    refine hK 2 _ _ _ ⟨h1, ⟨isA1 (ty _), ⟨fun c3 => ⟨rfl, rfl⟩, fun c3 => absurd ?_ c3⟩⟩⟩
    show nI (ln (rkz z x mk hf pt o y (shF Q f g F i)) (zP (rkz z x mk hf pt o y (shF Q f g F i)) x 8)) ≤ nI i
    rw [ly]; exact Int32.le_refl _
end XRk
theorem D_waits (d : Nat) (z : ZS) (x : Nat) (hx : tg z x = 11) : Rn (d + 1) i_D_waits [.ref x] z (some (.int (if ¬ zI z x 13 = -100002 ∧ zP z x 14 = 0 then 1 else 0))) z := by
  refine rn_i (full := cd_16) hx ok_b rfl (fun K hK => hK 0 _ _ _ ⟨hx, ⟨fun c2 => ⟨?_, rfl⟩, fun c2 => ⟨hx, ⟨fun c5 => ⟨?_, rfl⟩, fun c5 => ⟨?_, rfl⟩⟩⟩⟩⟩)
  · rw [if_neg (fun w => w.1 c2)]
  · rw [if_pos ⟨c2, c5⟩]
  · rw [if_neg (fun w => c5 w.2)]
/-- the owner's cards lead from one to the next -/
def LK (z : ZS) (cid : Nat → Nat) : List Nat → Nat → Prop
  | [], q => q = 0
  | k :: t, q => q = cid k ∧ LK z cid t (zP z (cid k) 11)
def idO (cid : Nat → Nat) : Option Nat → Nat
  | none => 0
  | some o => cid o
theorem P_longestWaiting (d : Nat) (z : ZS) (cid : Nat → Nat) (pl x k : Nat) (hp : tg z pl = 13) (hx : tg z x = 11) (hk : cid k = x) (h6 : 6 ≤ x) (W : Nat → Bool) (s rest : List Nat) (hl : LK z cid (s ++ k :: rest) (zP z pl 0)) (hs : ∀ o, o ∈ s → tg z (cid o) = 11 ∧ 6 ≤ cid o ∧ cid o ≠ x ∧ (W o = true ↔ (¬ zI z (cid o) 13 = -100002 ∧ zP z (cid o) 14 = 0) ∧ ¬ zI z (cid o) 4 < zI z x 4 - 60)) : Rn (d + 2) i_P_longestWaiting [.ref pl, .ref x] z (some (.ref (idO cid (s.find? W)))) z := by
  refine rn_i (full := cd_43) hp (ok_n rfl) rfl (fun K hK => hK 0 _ _ _ ⟨hp, ?_⟩)
  generalize hX : idO cid (s.find? W) = X at hK
  show K 5 [.ref pl, .ref x, .ref (zP z pl 0)] [] z
  generalize zP z pl 0 = q at hl
  induction s generalizing q with
  | nil =>
    obtain ⟨e, _⟩ := hl
    rw [e, hk]
    have hX : 0 = X := hX
    subst hX
    exact hK 3 _ _ _ ⟨fun c1 => absurd c1 (by show ¬ x = 0; omega), fun c1 => ⟨fun c3 => ⟨rfl, rfl⟩, fun c3 => absurd rfl c3⟩⟩
  | cons o s ih =>
    obtain ⟨e, hl⟩ := hl
    obtain ⟨o1, o2, o3, o4⟩ := hs o List.mem_cons_self
    have hs' := fun o' ho' => hs o' (List.mem_cons_of_mem _ ho')
    rw [List.find?_cons] at hX
    rw [e]
    have go : ¬ W o = true → K 5 [.ref pl, .ref x, .ref (zP z (cid o) 11)] [] z := fun w => by
      have w : W o = false := by simpa using w
      rw [w] at hX
      exact ih hs' hX _ hl
    refine hK 3 _ _ _ ⟨fun c1 => absurd c1 (by show ¬ cid o = 0; omega), fun c1 => ⟨fun c3 => absurd c3 o3, fun c3 => ⟨fun q => absurd ⟨Or.inr o2, Or.inr h6⟩ q, fun _ => ⟨_, _, D_waits d z (cid o) o1, ⟨fun c6 => ⟨o1, go (fun w => b1_t c6 (o4.mp w).1)⟩, fun c6 => ⟨o1, ⟨hx, ⟨fun c11 => ⟨o1, go (fun w => (o4.mp w).2 c11)⟩, fun c11 => ?_⟩⟩⟩⟩⟩⟩⟩⟩
    have w : W o = true := o4.mpr ⟨b1_f c6, c11⟩
    rw [w] at hX
    subst hX
    exact ⟨rfl, rfl⟩
