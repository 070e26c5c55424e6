/-! Settling within the whole relation; the model's book by the players' books. Own work. -/
/-- the model's part, the ids and the sizes stay -/
def Kp (z z' : ZS) : Prop := z'.1 = z.1 ∧ z'.2.1 = z.2.1 ∧ z'.2.2.1 = z.2.2.1 ∧ z'.2.2.2.1 = z.2.2.2.1 ∧ (∀ a j, 46 ≤ a → a < 75 → zI z' a j = zI z a j ∧ zP z' a j = zP z a j)
theorem Kp_r (z : ZS) : Kp z z := ⟨rfl, rfl, rfl, rfl, fun _ _ _ _ => ⟨rfl, rfl⟩⟩
theorem Kp_t {z z' z'' : ZS} (h : Kp z z') (h' : Kp z' z'') : Kp z z'' := ⟨h'.1.trans h.1, h'.2.1.trans h.2.1, h'.2.2.1.trans h.2.2.1, h'.2.2.2.1.trans h.2.2.2.1, fun a j a1 a2 => ⟨(h'.2.2.2.2 a j a1 a2).1.trans (h.2.2.2.2 a j a1 a2).1, (h'.2.2.2.2 a j a1 a2).2.trans (h.2.2.2.2 a j a1 a2).2⟩⟩
theorem Kp_Fr {z z' : ZS} {U W : Nat → Nat → Prop} (h1 : z'.1 = z.1) (h3 : z'.2.2.1 = z.2.2.1) (h4 : z'.2.2.2.1 = z.2.2.2.1) (h5 : ∀ a j, ¬ U a j → zI z' a j = zI z a j) (h6 : ∀ a j, ¬ W a j → zP z' a j = zP z a j) : Fr U W z z' := ⟨by show z.1 ≤ z'.1; rw [h1]; exact Nat.le_refl _, fun a _ => ⟨by rw [show tg z' = tg z from h3], by rw [show ln z' = ln z from h4]⟩, fun a j _ w => h5 a j w, fun a j _ w => h6 a j w⟩
theorem Cls_settle (d : Nat) {z : ZS} {A : Nat → Nat → Int32} {F V : Nat → Int32} {n R : Nat} (h : Cls z A F V n R) (p : Nat) (hp : p < 12) : ∃ z', Rn (d + 6) i_P_settle [.ref (34 + p), .ref 10, .ref 14] z none z' ∧ Cls z' A F V n R ∧ zI z' (34 + p) 2 = 0 ∧ Kp z z' ∧ zP z' 9 = zP z 9 ∧ (∀ p', p' < 12 → zI z (34 + p') 2 = 0 → zI z' (34 + p') 2 = 0) := by
  by_cases h0 : zI z (34 + p) 2 = 0
  · exact ⟨z, P_settle0 d z (h.1.2.2.2.1.2.2 p hp).2 h0, h, h0, Kp_r z, rfl, fun _ _ w => w⟩
  · obtain ⟨z', rn, hF, hIV⟩ := P_settle1 d (Cls_SC h p hp) h0
    obtain ⟨c1, c2, c3, c4, c5, c6, c7, c8, c9, c10⟩ := h
    have hS := CB_S c7
    have hl : ∀ k, k ∈ lpF A n p → k < n := fun k hk => ((lpF_mem A n p k).mp hk).1
    obtain ⟨f1, f2, f3, f4, f5, f6⟩ := hF
    have u5 : ∀ a j, ¬ (WI p (zP z 9) (lpF A n p) A a j ∨ (a = 34 + p ∧ j = 2)) → zI z' a j = zI z a j := fun a j w => (f5 a j (fun q => w (Or.inl q))).trans (sI_n (fun q => w (Or.inr q)))
    have u6 : ∀ a j, ¬ WP p (zP z 9) (lpF A n p) a j → zP z' a j = zP z a j := f6
    have hFr : Fr (fun a j => WI p (zP z 9) (lpF A n p) A a j ∨ (a = 34 + p ∧ j = 2)) (WP p (zP z 9) (lpF A n p)) z z' := Kp_Fr f1 f3 f4 u5 u6
    have lo : ∀ a j, a < 75 → (WI p (zP z 9) (lpF A n p) A a j ∨ (a = 34 + p ∧ j = 2)) → (a = 14 ∧ j = 2) ∨ a = 15 ∨ a = 16 ∨ (a = 34 + p ∧ j = 2) := fun a j ha w => by
      rcases w with (w | w | w | ⟨k, hk, e, _⟩ | ⟨k, hk, _, e⟩) | w
      · exact Or.inl w
      · exact Or.inr (Or.inl w)
      · exact Or.inr (Or.inr (Or.inl w))
      · have := hS.1 k (hl k hk); omega
      · have := hS.1 k (hl k hk); omega
      · exact Or.inr (Or.inr (Or.inr w))
    have loW : ∀ a j, a < 75 → WP p (zP z 9) (lpF A n p) a j → a = 34 + p ∧ j = 1 := fun a j ha w => by
      rcases w with w | ⟨k, hk, e, _⟩
      · exact w
      · have := hS.1 k (hl k hk); omega
    have e9 : zP z' 9 = zP z 9 := funext (fun j => u6 9 j (fun w => by have := loW 9 j (by omega) w; omega))
    have h75 := c1.1
    have st : zI z' (34 + p) 2 = 0 := (f5 _ _ (fun w => by
      rcases w with w | w | w | ⟨k, hk, e, _⟩ | ⟨k, hk, _, e⟩
      · omega
      · omega
      · omega
      · have := hS.1 k (hl k hk); omega
      · have := hS.1 k (hl k hk); omega)).trans sI_e
    refine ⟨z', rn, ?_, st, ⟨f1, f2, f3, f4, fun a j a1 a2 => ⟨u5 a j (fun w => by have := lo a j a2 w; omega), u6 a j (fun w => by have := loW a j a2 w; omega)⟩⟩, e9, fun p' hp' w => ?_⟩
    · have kc : KC (fun a j => WI p (zP z 9) (lpF A n p) A a j ∨ (a = 34 + p ∧ j = 2)) (WP p (zP z 9) (lpF A n p)) (zP z 9) A n := fun k hk => by
        have := hS.1 k hk
        refine ⟨fun j a b c d w => w.elim (w_card hS hl hp hk (Or.inl ⟨a, b, c, d⟩)) (fun q => by omega), fun ha j w => w.elim (w_shots hS hl hp hk ha) (fun q => by omega), fun j a b c w => v_card hS hl hp hk (Or.inl ⟨b, c⟩) w⟩
      refine ⟨L_CT hFr (fun a j w q => by have := lo a j (by omega) w; omega) (fun a j w => ?_) c1, L_CS hFr h75 (fun a j w q => by have := lo a j (by omega) w; omega) (fun a j w q => by have := loW a j (by omega) w; omega) c2, L_RG hFr h75 (fun a j w q => by have := lo a j (by omega) w; omega) (fun a j w q => by have := loW a j (by omega) w; omega) c3, L_RW hFr h75 (fun a j w q => by have := lo a j (by omega) w; omega) c4, L_AN hFr h75 (fun a j w q => by have := lo a j (by omega) w; omega) c5, ⟨c6.1, c6.2.1, ?_⟩, ?_, c8, c9, ?_⟩
      · have : ∀ q, q < 20 → a ≠ q := fun q hq e => by have := loW a j (by omega) w; omega
        exact ⟨this 6 (by omega), this 7 (by omega), this 8 (by omega), this 14 (by omega), this 17 (by omega), this 19 (by omega)⟩
      · rw [u5 6 3 (fun w => by have := lo 6 3 (by omega) w; omega)]; exact c6.2.2
      · rw [e9]; exact L_CB hFr kc c7
      · intro p' hp'
        rw [e9]
        obtain ⟨a1, a2, a3⟩ := c10 p' hp'
        have lk : LK z' (zP z 9) (lpF A n p') (zP z' (34 + p') 0) := by
          rw [u6 (34 + p') 0 (fun w => by have := loW (34 + p') 0 (by omega) w; omega)]
          exact LK_F _ _ (fun k hk => u6 _ _ (v_card hS hl hp ((lpF_mem A n p' k).mp hk).1 (Or.inl ⟨by decide, by decide⟩))) a1
        by_cases e : p' = p
        · subst e
          exact ⟨lk, Or.inl st, fun _ => hIV⟩
        · have es : zI z' (34 + p') 2 = zI z (34 + p') 2 := u5 _ _ (fun w => by have := lo (34 + p') 2 (by omega) w; omega)
          refine ⟨lk, by rw [es]; exact a2, fun w => ?_⟩
          rw [es] at w
          refine L_IV hFr h75 hp' c7 (fun k hk => ((lpF_mem A n p' k).mp (List.mem_reverse.mp hk)).1) (fun k hk => ?_) (fun w => by have := loW (34 + p') 1 (by omega) w; omega) (a3 w)
          have hk := List.mem_reverse.mp hk
          have kn := ((lpF_mem A n p' k).mp hk).1
          have nk := lpF_oth hp hp' e hk
          have := hS.1 k kn
          exact ⟨fun j w => w.elim (w_card hS hl hp kn (Or.inr nk)) (fun q => by omega), fun ha j w => w.elim (w_share hS hl hp kn ha nk) (fun q => by omega), v_card hS hl hp kn (Or.inr nk), v_card hS hl hp kn (Or.inr nk)⟩
    · by_cases e : p' = p
      · rw [e]; exact st
      · rw [u5 _ _ (fun w => by have := lo (34 + p') 2 (by omega) w; omega)]; exact w
/-- the player's cards, the latest first -/
def tpF (A : Nat → Nat → Int32) (n p : Nat) : List Nat := (lpF A n p).reverse
theorem gl_take (q : Nat → Bool) (l : List Nat) : ∀ i, i ≤ l.length → gl q (fun i => l.getD i 0) i = ((l.take i).filter q).reverse
  | 0, _ => rfl
  | i + 1, h => by
    have ih := gl_take q l i (by omega)
    unfold gl
    have e : l.take (i + 1) = l.take i ++ [l.getD i 0] := by
      rw [gd_el l i (by omega)]
      exact (List.take_append_getElem (by omega)).symm
    rw [e, List.filter_append, List.reverse_append, ih]
    by_cases hq : q (l.getD i 0) = true
    · rw [if_pos hq, List.filter_cons, if_pos hq]; rfl
    · rw [if_neg hq, List.filter_cons, if_neg hq]; rfl
theorem gl_lp (A : Nat → Nat → Int32) (n p : Nat) : gl (qp A (nI p)) (oF (A 10) n) n = tpF A n p := by
  have := gl_take (qp A (nI p)) (odl (A 10) n) n (by rw [odl_len]; exact Nat.le_refl _)
  rw [List.take_of_length_le (by rw [odl_len]; exact Nat.le_refl _)] at this
  exact this
theorem ord_ok {A : Nat → Nat → Int32} {n : Nat} (h : DAY A n) : OrdOK A (oF (A 10) n) n := ⟨oF_lt (A 10) n, oF_sur (A 10) n, fun a b h1 h2 => (oF_r (A 10) n a b h1 h2).1, oF_inj (A 10) n, h⟩
section Conv
variable {A : Nat → Nat → Int32} {n : Nat}
theorem c_bk (R : Nat) (hD : DAY A n) (p : Nat) : Ep A (nI p) (fB A n R) (pb A R (tpF A n p)) := by
  have := glob A (oF (A 10) n) n R (ord_ok hD) (nI p) n (Nat.le_refl _)
  rw [gl_lp] at this
  exact this
theorem c_gM (R : Nat) (hD : DAY A n) (p : Nat) (day : Int32) : gM (fB A n R) A (oF (A 10) n) n (nI p) day = gP (pb A R (tpF A n p)) A (tpF A n p) day := by
  have := gM_gP A (oF (A 10) n) n (ord_ok hD) (nI p) (fB A n R) (pb A R (tpF A n p)) n (Nat.le_refl _) (fun k hk => (c_bk R hD p k hk).1) day (fun j h1 h2 => by omega)
  rw [gl_lp] at this
  exact this
theorem c_num (R : Nat) (hD : DAY A n) (p : Nat) (day : Int32) : numB (fB A n R) A (oF (A 10) n) n (nI p) day = nuP (pb A R (tpF A n p)) A (tpF A n p) day := by
  have := num_eq A (oF (A 10) n) n (ord_ok hD) (nI p) (fB A n R) (pb A R (tpF A n p)) n (Nat.le_refl _) (fun k hk => (c_bk R hD p k hk).1) day (fun j h1 h2 => by omega)
  rw [gl_lp] at this
  exact this
theorem c_own (R : Nat) (hD : DAY A n) (p : Nat) : ∀ x, x ∈ tpF A n p → (fB A n R).1 x = (pb A R (tpF A n p)).1 x := fun x hx => (c_bk R hD p x ((lpF_mem A n p x).mp (List.mem_reverse.mp hx)).2).1
theorem c_raw (R : Nat) (hD : DAY A n) (p : Nat) (day : Int32) : rawO (fB A n R) (gM (fB A n R) A (oF (A 10) n) n (nI p) day) = rawO (pb A R (tpF A n p)) (gP (pb A R (tpF A n p)) A (tpF A n p) day) := by
  rw [c_gM R hD p]
  exact rawO_cg (fun x hx => c_own R hD p x (gP_mem hx))
theorem c_low (R : Nat) (hD : DAY A n) (p : Nat) (day : Int32) : lowF (fB A n R) A (oF (A 10) n) n (nI p) day n = lwL (pb A R (tpF A n p)) (A 10) day (gP (pb A R (tpF A n p)) A (tpF A n p) day) none (-1) := by
  have hO := ord_ok hD
  rw [low_eq (fB A n R) A (oF (A 10) n) n (nI p) day hO.1 hO.2.1 hO.2.2.1 hO.2.2.2.2, c_gM R hD p]
  exact lwL_cg (A 10) day _ _ _ (fun x hx => c_own R hD p x (gP_mem hx))
theorem c_gf (R : Nat) (hD : DAY A n) (p : Nat) (k : Nat) (hk : A 9 k = nI p) : gfB (fB A n R) A (oF (A 10) n) n k (cN A k) = gfP (pb A R (tpF A n p)) A (tpF A n p) k := by
  unfold gfB gfP
  rw [hk, c_num R hD p]
theorem c_mkN (R : Nat) (hD : DAY A n) (p : Nat) (day : Int32) : mkN (fB A n R) A (oF (A 10) n) n (nI p) day = tkN (m20 (gP (pb A R (tpF A n p)) A (tpF A n p) day)) := by
  unfold mkN; rw [c_gM R hD p]
theorem c_mkI (R : Nat) (hD : DAY A n) (p : Nat) (day : Int32) (i : Nat) (hi : i < tkN (m20 (gP (pb A R (tpF A n p)) A (tpF A n p) day))) : mkI (fB A n R) A (oF (A 10) n) n (nI p) day i = (gP (pb A R (tpF A n p)) A (tpF A n p) day).getD ((sp (wl (pb A R (tpF A n p)) (gP (pb A R (tpF A n p)) A (tpF A n p) day)) (m20 (gP (pb A R (tpF A n p)) A (tpF A n p) day))).getD i 0) 0 := by
  unfold mkI
  rw [c_gM R hD p]
  rw [sp_cg (w := wl (fB A n R) (gP (pb A R (tpF A n p)) A (tpF A n p) day)) (w' := wl (pb A R (tpF A n p)) (gP (pb A R (tpF A n p)) A (tpF A n p) day)) _ (fun c hc => ?_)]
  unfold wl mv
  rw [c_own R hD p _ (gP_mem (gd_mem _ c (by unfold m20 at hc; omega)))]
end Conv
