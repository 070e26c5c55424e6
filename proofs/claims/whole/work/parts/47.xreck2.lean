/-! The class's join and reckonCard. Own work. -/
theorem LK_rk (z : ZS) (cid : Nat → Nat) (x : Nat) (mk hf : Int32) (pt o y : Nat) (F : Nat → Int32) : ∀ (l : List Nat) (q : Nat), LK z cid l q → LK (rkz z x mk hf pt o y F) cid l q
  | [], _, h => h
  | k :: t, q, h => by
    refine ⟨h.1, ?_⟩
    rw [rk_P z x mk hf pt o y F (cid k) (by decide)]
    exact LK_rk z cid x mk hf pt o y F t _ h.2
theorem rk_e0 (z : ZS) (x : Nat) : sP (sI (sI z x 12 (-100002)) x 13 (-100002)) x 14 0 = rkz z x (-100002) (-100002) 0 x x (zI z x) := by
  conv => lhs; rw [← rkz_id z x]
  rw [rkz_m, rkz_h, rkz_p]
def jz (z : ZS) (cid : Nat → Nat) (x : Nat) (mk h : Int32) (y : Nat) (F : Nat → Int32) : Option Nat → ZS
  | none => rkz z x mk h 0 x y F
  | some o => rkz z x (zI z (cid o) 13 + h) h (cid o) (cid o) y F
/-- what the class looks at of the cards ahead -/
def SO (z : ZS) (cid : Nat → Nat) (x y : Nat) (W : Nat → Bool) (s : List Nat) : Prop := ∀ o, o ∈ s → tg z (cid o) = 11 ∧ 6 ≤ cid o ∧ cid o ≠ x ∧ cid o ≠ y ∧ (W o = true ↔ (¬ zI z (cid o) 13 = -100002 ∧ zP z (cid o) 14 = 0) ∧ ¬ zI z (cid o) 4 < zI z x 4 - 60)
theorem P_join (d : Nat) (z : ZS) (cid : Nat → Nat) (pl x y k : Nat) (hp : tg z pl = 13) (hx : tg z x = 11) (hk : cid k = x) (h6 : 6 ≤ x) (hy : y ≠ x) (W : Nat → Bool) (s rest : List Nat) (hl : LK z cid (s ++ k :: rest) (zP z pl 0)) (hs : SO z cid x y W s) (mk h : Int32) (F : Nat → Int32) : Rn (d + 3) i_P_join [.ref pl, .ref x] (rkz z x mk h 0 x y F) none (jz z cid x mk h y F (s.find? W)) := by
  have r := P_longestWaiting d (rkz z x mk h 0 x y F) cid pl x k hp hx hk h6 W s rest (by rw [rk_P z x mk h 0 x y F pl (by decide)]; exact LK_rk z cid x mk h 0 x y F _ _ hl) (fun o ho => by
    obtain ⟨a1, a2, a3, a4, a5⟩ := hs o ho
    refine ⟨a1, a2, a3, ?_⟩
    rw [rk_c z x mk h 0 x y F a3 a4, rk_c z x mk h 0 x y F a3 a4, rk_x z x mk h 0 x y F (Ne.symm hy) (by decide) (by decide)]
    have e14 : zP (rkz z x mk h 0 x y F) (cid o) 14 = zP z (cid o) 14 := by
      show (if cid o = x ∧ 14 = 14 then 0 else if cid o = x ∧ 14 = 14 then x else zP z (cid o) 14) = _
      rw [if_neg (fun w => a3 w.1), if_neg (fun w => a3 w.1)]
    rw [e14]; exact a5)
  cases hf : s.find? W with
  | none =>
    rw [hf] at r
    exact rn_i (full := cd_42) hp (ok_n rfl) rfl (fun K hK => hK 0 _ _ _ ⟨_, _, r, ⟨fun c2 => ⟨rfl, rfl⟩, fun c2 => absurd rfl c2⟩⟩)
  | some o =>
    have ho := List.mem_of_find?_eq_some hf
    obtain ⟨a1, a2, a3, a4, a5⟩ := hs o ho
    rw [hf] at r
    refine rn_i (full := cd_42) hp (ok_n rfl) rfl (fun K hK => hK 0 _ _ _ ⟨_, _, r, ⟨fun c2 => absurd c2 (by show ¬ cid o = 0; omega), fun c2 => ⟨a1, ⟨hx, ⟨a1, ⟨hx, ⟨hx, ⟨rfl, ?_⟩⟩⟩⟩⟩⟩⟩⟩)
    show sI (sP (sP (rkz z x mk h 0 x y F) (cid o) 14 x) x 14 (cid o)) x 12 (zI (sP (sP (rkz z x mk h 0 x y F) (cid o) 14 x) x 14 (cid o)) (cid o) 13 + zI (sP (sP (rkz z x mk h 0 x y F) (cid o) 14 x) x 14 (cid o)) x 13) = _
    rw [rkz_o z x mk h 0 y F (cid o) a3, rkz_p, rkz_m, rk_c z x mk h (cid o) (cid o) y F a3 a4, rk_13]; rfl
section XRc
variable (d : Nat) (z : ZS) (pl x : Nat)
theorem P_reck_away (hp : tg z pl = 13) (hx : tg z x = 11) (h5 : zP z x 5 = 0) (num : Int32) (rg : Nat) : Rn (d + 5) i_P_reckonCard [.ref pl, .ref x, .int num, .ref rg] z none (rkz z x (if zI z x 10 = 0 then zI z x 9 else -100002) (-100002) 0 x x (zI z x)) := by
  refine rn_i (full := cd_41) hp (ok_n rfl) rfl (fun K hK => hK 0 _ _ _ ⟨hx, ⟨hx, ⟨hx, ?_⟩⟩⟩)
  show wq _ _ _ _ _ (_, _, _, sP (sI (sI z x 12 (-100002)) x 13 (-100002)) x 14 0)
  rw [rk_e0]
  have e5 : zP (rkz z x (-100002) (-100002) 0 x x (zI z x)) x 5 = 0 := (rk_P z x _ _ _ _ _ _ x (by decide)).trans h5
  have e10 : zI (rkz z x (-100002) (-100002) 0 x x (zI z x)) x 10 = zI z x 10 := rk_x' z x _ _ _ _ (by decide) (by decide)
  have e9 : zI (rkz z x (-100002) (-100002) 0 x x (zI z x)) x 9 = zI z x 9 := rk_x' z x _ _ _ _ (by decide) (by decide)
  refine ⟨hx, ⟨fun c5 => ⟨hx, ⟨fun c7 => ⟨hx, ⟨hx, ⟨rfl, ?_⟩⟩⟩, fun c7 => ⟨hx, ⟨rfl, ?_⟩⟩⟩⟩, fun c5 => absurd e5 c5⟩⟩
  · have c7 : zI (rkz z x (-100002) (-100002) 0 x x (zI z x)) x 10 = 0 := c7
    rw [e10] at c7
    show sI (rkz z x (-100002) (-100002) 0 x x (zI z x)) x 12 (zI (rkz z x (-100002) (-100002) 0 x x (zI z x)) x 9) = _
    rw [rkz_m, e9, if_pos c7]
  · have c7 : ¬ zI (rkz z x (-100002) (-100002) 0 x x (zI z x)) x 10 = 0 := c7
    rw [e10] at c7
    show sI (rkz z x (-100002) (-100002) 0 x x (zI z x)) x 12 (-100002) = _
    rw [rkz_m, if_neg c7]
variable (y c f len : Nat) (S : Nat → Int32) (r s : Int32) (P Q : Nat → Int32)
theorem P_reck_void (hp : tg z pl = 13) (h : HC z x y c f len S r s P Q) (hv : ¬ zI z x 10 = 0) (num : Int32) (rg : Nat) : Rn (d + 5) i_P_reckonCard [.ref pl, .ref x, .int num, .ref rg] z none (rkz z x (-100002) (-100002) 0 x y (shF Q f (gvS num r s P) (zI z y) len)) := by
  have h' := h
  obtain ⟨hx, h2, h3, h4, h5, h6, h7, h8, h9, hC, n1, n2, n3, n4, n5, n6, n7, n8, n9⟩ := h
  refine rn_i (full := cd_41) hp (ok_n rfl) rfl (fun K hK => hK 0 _ _ _ ⟨hx, ⟨hx, ⟨hx, ?_⟩⟩⟩)
  show wq _ _ _ _ _ (_, _, _, sP (sI (sI z x 12 (-100002)) x 13 (-100002)) x 14 0)
  rw [rk_e0, rkz_sw z x (-100002) (-100002) 0 x y n1]
  have e5 : zP (rkz z x (-100002) (-100002) 0 x y (zI z y)) x 5 = c := (rk_P z x _ _ _ _ _ _ x (by decide)).trans h8
  have rg1 : Rn (d + 4) i_C_givenFor [.ref (zP (rkz z x (-100002) (-100002) 0 x y (zI z y)) x 5), .int num] (rkz z x (-100002) (-100002) 0 x y (zI z y)) (some (.int (gvS num r s P))) (rkz z x (-100002) (-100002) 0 x y (zI z y)) := by rw [e5]; exact C_givenFor (d + 1) _ c r s P Q (HC_CO z x y c f len S r s P Q h' _ _ _ _ _) num
  refine ⟨hx, ⟨fun c5 => absurd (e5.symm.trans c5) h9, fun c5 => ⟨_, _, rg1, ⟨_, _, D_share (d + 1) z x y c f len S r s P Q h' (-100002) (-100002) 0 x (zI z y) (gvS num r s P), ⟨hx, ⟨fun c16 => absurd ?_ hv, fun c16 => ⟨rfl, rfl⟩⟩⟩⟩⟩⟩⟩
  have c16 : zI (rkz z x (-100002) (-100002) 0 x y (shF Q f (gvS num r s P) (zI z y) len)) x 10 = 0 := c16
  rw [rk_x z x _ _ _ _ y _ (Ne.symm n1) (by decide) (by decide)] at c16; exact c16
/-- Rights lie elsewhere -/
def NR (x y : Nat) : Prop := ∀ a, 10 ≤ a → a ≤ 13 → a ≠ x ∧ a ≠ y
theorem RT_rk {z : ZS} {m : Nat} {C D V : Nat → Int32} (h : RT z m C D V) {x y : Nat} (hn : NR x y) (mk hf : Int32) (pt o : Nat) (F : Nat → Int32) : RT (rkz z x mk hf pt o y F) m C D V := by
  obtain ⟨h1, h2, h3, h4, h5, h6, h7, h8, h9, e1, e2, e3⟩ := h
  have c : ∀ a, 10 ≤ a → a ≤ 13 → zI (rkz z x mk hf pt o y F) a = zI z a := fun a a1 a2 => funext (fun j => rk_c z x mk hf pt o y F (hn a a1 a2).1 (hn a a1 a2).2 j)
  refine ⟨h1, (rk_P z x mk hf pt o y F 10 (by decide)).trans h2, (rk_P z x mk hf pt o y F 10 (by decide)).trans h3, (rk_P z x mk hf pt o y F 10 (by decide)).trans h4, h5, h6, h7, ?_, h9, ?_, ?_, ?_⟩
  · rw [c 10 (by decide) (by decide)]; exact h8
  · rw [c 11 (by decide) (by decide)]; exact e1
  · rw [c 12 (by decide) (by decide)]; exact e2
  · rw [c 13 (by decide) (by decide)]; exact e3
theorem P_reck_card (hp : tg z pl = 13) (h : HC z x y c f len S r s P Q) (hv : zI z x 10 = 0) (hk : zI z x 1 = 0) (h1s : 1 ≤ s) (hs2 : ¬ 2 * s = 0) (m : Nat) (C D V : Nat → Int32) (hR : RT z m C D V) (hn : NR x y) (num : Int32) : Rn (d + 5) i_P_reckonCard [.ref pl, .ref x, .int num, .ref 10] z none (rkz z x (if hpF S len < 14 then -100002 else rnd (113 * (10 * awF S (shF Q f (gvS num r s P) (zI z y) len) P f len - (r + 10 * vlR C D V m (zI z c 0) (zI z x 4)))) s) (-100002) 0 x y (shF Q f (gvS num r s P) (zI z y) len)) := by
  have h' := h
  obtain ⟨hx, h2, h3, h4, h5, h6, h7, h8, h9, hC, n1, n2, n3, n4, n5, n6, n7, n8, n9⟩ := h
  refine rn_i (full := cd_41) hp (ok_n rfl) rfl (fun K hK => hK 0 _ _ _ ⟨hx, ⟨hx, ⟨hx, ?_⟩⟩⟩)
  show wq _ _ _ _ _ (_, _, _, sP (sI (sI z x 12 (-100002)) x 13 (-100002)) x 14 0)
  rw [rk_e0, rkz_sw z x (-100002) (-100002) 0 x y n1]
  have e5 : ∀ F, zP (rkz z x (-100002) (-100002) 0 x y F) x 5 = c := fun F => (rk_P z x _ _ _ _ _ _ x (by decide)).trans h8
  have rg1 : Rn (d + 4) i_C_givenFor [.ref (zP (rkz z x (-100002) (-100002) 0 x y (zI z y)) x 5), .int num] (rkz z x (-100002) (-100002) 0 x y (zI z y)) (some (.int (gvS num r s P))) (rkz z x (-100002) (-100002) 0 x y (zI z y)) := by rw [e5]; exact C_givenFor (d + 1) _ c r s P Q (HC_CO z x y c f len S r s P Q h' _ _ _ _ _) num
  generalize gvS num r s P = g at rg1 hK ⊢
  have sh := D_share (d + 1) z x y c f len S r s P Q h' (-100002) (-100002) 0 x (zI z y) g
  generalize shF Q f g (zI z y) len = F at sh hK ⊢
  have xr : ∀ j, j ≠ 12 → j ≠ 13 → zI (rkz z x (-100002) (-100002) 0 x y F) x j = zI z x j := fun j a b => rk_x z x _ _ _ _ y _ (Ne.symm n1) a b
  have cr : ∀ j, zI (rkz z x (-100002) (-100002) 0 x y F) c j = zI z c j := fun j => rk_c z x _ _ _ _ y _ n4 n5 j
  have e0 : zI (rkz z x (-100002) (-100002) 0 x y F) (zP (rkz z x (-100002) (-100002) 0 x y (zI z y)) x 5) 0 = zI z c 0 := by rw [e5]; exact cr 0
  have tc : tg z (zP (rkz z x (-100002) (-100002) 0 x y (zI z y)) x 5) = 12 := by rw [e5]; exact hC.1
  have vf : Rn (d + 4) i_G_valueFor [.ref 10, .int (zI (rkz z x (-100002) (-100002) 0 x y F) (zP (rkz z x (-100002) (-100002) 0 x y (zI z y)) x 5) 0), .int (zI (rkz z x (-100002) (-100002) 0 x y F) x 4)] (rkz z x (-100002) (-100002) 0 x y F) (some (.int (vlR C D V m (zI z c 0) (zI z x 4)))) (rkz z x (-100002) (-100002) 0 x y F) := by
    rw [e0, xr 4 (by decide) (by decide)]; exact G_valueFor (d + 2) _ m C D V (RT_rk hR hn _ _ _ _ _) _ _
  have hD := HC_DO z x y c f len S r s P Q h' (-100002) (-100002) 0 x F
  have pl' := D_holesPlayed (d + 3) _ x f len S F hD
  have wl' : Rn (d + 4) i_D_worthLess [.ref x, .int (zI (rkz z x (-100002) (-100002) 0 x y F) (zP (rkz z x (-100002) (-100002) 0 x y (zI z y)) x 5) 1 + 10 * vlR C D V m (zI z c 0) (zI z x 4))] (rkz z x (-100002) (-100002) 0 x y F) (some (.int (rnd (113 * (10 * awF S F P f len - (r + 10 * vlR C D V m (zI z c 0) (zI z x 4)))) s))) (rkz z x (-100002) (-100002) 0 x y F) := by
    rw [e5, cr 1, hC.2.1]
    exact D_worthLess d _ x f len S F r s P Q hD c (e5 F) (HC_CO z x y c f len S r s P Q h' _ _ _ _ _) h9 h1s hs2 _
  have k0 : zI (rkz z x (-100002) (-100002) 0 x y F) x 1 = 0 := (xr 1 (by decide) (by decide)).trans hk
  refine ⟨hx, ⟨fun c5 => absurd ((e5 _).symm.trans c5) h9, fun c5 => ⟨_, _, rg1, ⟨_, _, sh, ⟨hx, ⟨fun c16 => ⟨tc, ⟨hx, ⟨_, _, vf, ⟨_, _, pl', ⟨hx, ⟨fun c22 => ⟨fun c23 => ⟨hx, ⟨fun c25 => absurd (k0.symm.trans c25) (by decide), fun c25 => ⟨rfl, ?_⟩⟩⟩, fun c23 => ⟨tc, ⟨_, _, wl', ⟨hx, ⟨rfl, ?_⟩⟩⟩⟩⟩, fun c22 => absurd k0 c22⟩⟩⟩⟩⟩⟩, fun c16 => absurd ?_ c16⟩⟩⟩⟩⟩⟩
  · rw [if_pos c23]
  · show sI (rkz z x (-100002) (-100002) 0 x y F) x 12 _ = _
    rw [rkz_m, if_neg c23]
  · show zI (rkz z x (-100002) (-100002) 0 x y F) x 10 = 0
    rw [xr 10 (by decide) (by decide)]; exact hv
theorem P_reck_nine (hp : tg z pl = 13) (h : HC z x y c f len S r s P Q) (hv : zI z x 10 = 0) (hk : zI z x 1 = 1) (h1s : 1 ≤ s) (hs2 : ¬ 2 * s = 0) (m : Nat) (C D V : Nat → Int32) (hR : RT z m C D V) (hn : NR x y) (num : Int32) (cid : Nat → Nat) (k : Nat) (hcid : cid k = x) (h6 : 6 ≤ x) (W : Nat → Bool) (sl rest : List Nat) (hl : LK z cid (sl ++ k :: rest) (zP z pl 0)) (hso : SO z cid x y W sl) : Rn (d + 5) i_P_reckonCard [.ref pl, .ref x, .int num, .ref 10] z none (if hpF S len < 7 then rkz z x (-100002) (-100002) 0 x y (shF Q f (gvS num r s P) (zI z y) len) else jz z cid x (-100002) (rnd (113 * (10 * awF S (shF Q f (gvS num r s P) (zI z y) len) P f len - (r / 2 + 5 * vlR C D V m (zI z c 0) (zI z x 4)))) s) y (shF Q f (gvS num r s P) (zI z y) len) (sl.find? W)) := by
  have h' := h
  obtain ⟨hx, h2, h3, h4, h5, h6', h7, h8, h9, hC, n1, n2, n3, n4, n5, n6, n7, n8, n9⟩ := h
  refine rn_i (full := cd_41) hp (ok_n rfl) rfl (fun K hK => hK 0 _ _ _ ⟨hx, ⟨hx, ⟨hx, ?_⟩⟩⟩)
  show wq _ _ _ _ _ (_, _, _, sP (sI (sI z x 12 (-100002)) x 13 (-100002)) x 14 0)
  rw [rk_e0, rkz_sw z x (-100002) (-100002) 0 x y n1]
  have e5 : ∀ F, zP (rkz z x (-100002) (-100002) 0 x y F) x 5 = c := fun F => (rk_P z x _ _ _ _ _ _ x (by decide)).trans h8
  have rg1 : Rn (d + 4) i_C_givenFor [.ref (zP (rkz z x (-100002) (-100002) 0 x y (zI z y)) x 5), .int num] (rkz z x (-100002) (-100002) 0 x y (zI z y)) (some (.int (gvS num r s P))) (rkz z x (-100002) (-100002) 0 x y (zI z y)) := by rw [e5]; exact C_givenFor (d + 1) _ c r s P Q (HC_CO z x y c f len S r s P Q h' _ _ _ _ _) num
  generalize gvS num r s P = g at rg1 hK ⊢
  have sh := D_share (d + 1) z x y c f len S r s P Q h' (-100002) (-100002) 0 x (zI z y) g
  generalize shF Q f g (zI z y) len = F at sh hK ⊢
  have xr : ∀ j, j ≠ 12 → j ≠ 13 → zI (rkz z x (-100002) (-100002) 0 x y F) x j = zI z x j := fun j a b => rk_x z x _ _ _ _ y _ (Ne.symm n1) a b
  have cr : ∀ j, zI (rkz z x (-100002) (-100002) 0 x y F) c j = zI z c j := fun j => rk_c z x _ _ _ _ y _ n4 n5 j
  have e0 : zI (rkz z x (-100002) (-100002) 0 x y F) (zP (rkz z x (-100002) (-100002) 0 x y (zI z y)) x 5) 0 = zI z c 0 := by rw [e5]; exact cr 0
  have tc : tg z (zP (rkz z x (-100002) (-100002) 0 x y (zI z y)) x 5) = 12 := by rw [e5]; exact hC.1
  have vf : Rn (d + 4) i_G_valueFor [.ref 10, .int (zI (rkz z x (-100002) (-100002) 0 x y F) (zP (rkz z x (-100002) (-100002) 0 x y (zI z y)) x 5) 0), .int (zI (rkz z x (-100002) (-100002) 0 x y F) x 4)] (rkz z x (-100002) (-100002) 0 x y F) (some (.int (vlR C D V m (zI z c 0) (zI z x 4)))) (rkz z x (-100002) (-100002) 0 x y F) := by
    rw [e0, xr 4 (by decide) (by decide)]; exact G_valueFor (d + 2) _ m C D V (RT_rk hR hn _ _ _ _ _) _ _
  have hD := HC_DO z x y c f len S r s P Q h' (-100002) (-100002) 0 x F
  have pl' := D_holesPlayed (d + 3) _ x f len S F hD
  have wl' : Rn (d + 4) i_D_worthLess [.ref x, .int (zI (rkz z x (-100002) (-100002) 0 x y F) (zP (rkz z x (-100002) (-100002) 0 x y (zI z y)) x 5) 1 / 2 + 5 * vlR C D V m (zI z c 0) (zI z x 4))] (rkz z x (-100002) (-100002) 0 x y F) (some (.int (rnd (113 * (10 * awF S F P f len - (r / 2 + 5 * vlR C D V m (zI z c 0) (zI z x 4)))) s))) (rkz z x (-100002) (-100002) 0 x y F) := by
    rw [e5, cr 1, hC.2.1]
    exact D_worthLess d _ x f len S F r s P Q hD c (e5 F) (HC_CO z x y c f len S r s P Q h' _ _ _ _ _) h9 h1s hs2 _
  have k1 : zI (rkz z x (-100002) (-100002) 0 x y F) x 1 = 1 := (xr 1 (by decide) (by decide)).trans hk
  generalize rnd (113 * (10 * awF S F P f len - (r / 2 + 5 * vlR C D V m (zI z c 0) (zI z x 4)))) s = hv' at wl' hK
  have jo := P_join (d + 1) z cid pl x y k hp hx hcid h6 n1 W sl rest hl hso (-100002) hv' F
  have s13 : sI (rkz z x (-100002) (-100002) 0 x y F) x 13 hv' = rkz z x (-100002) hv' 0 x y F := rkz_h z x _ _ _ _ _ _ _
  rw [← s13] at jo
  refine ⟨hx, ⟨fun c5 => absurd ((e5 _).symm.trans c5) h9, fun c5 => ⟨_, _, rg1, ⟨_, _, sh, ⟨hx, ⟨fun c16 => ⟨tc, ⟨hx, ⟨_, _, vf, ⟨_, _, pl', ⟨hx, ⟨fun c22 => absurd (k1.symm.trans c22) (by decide), fun c22 => ⟨hx, ⟨fun c40 => ⟨fun c41 => ⟨rfl, ?_⟩, fun c41 => ⟨tc, ⟨by decide, ⟨_, _, wl', ⟨hx, ⟨_, _, jo, ⟨rfl, ?_⟩⟩⟩⟩⟩⟩⟩, fun c40 => absurd k1 c40⟩⟩⟩⟩⟩⟩⟩⟩, fun c16 => absurd ?_ c16⟩⟩⟩⟩⟩⟩
  · rw [if_pos c41]
  · rw [if_neg c41]
  · show zI (rkz z x (-100002) (-100002) 0 x y F) x 10 = 0
    rw [xr 10 (by decide) (by decide)]; exact hv
end XRc
