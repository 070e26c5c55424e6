/-! The class's whole relation to the model's data, and its frames. Own work. -/
def CT (z : ZS) : Prop := 75 ≤ zn z ∧ (tg z 6 = 16 ∧ zP z 6 0 = 7 ∧ zP z 6 1 = 8 ∧ zP z 6 2 = 9 ∧ zP z 6 4 = 10 ∧ zP z 6 5 = 14 ∧ zP z 6 6 = 17 ∧ zP z 6 7 = 19 ∧ zP z 6 8 = 21) ∧ (tg z 7 = 4 ∧ ln z 7 = 4 ∧ ∀ c, c < 4 → zP z 7 c = 22 + 3 * c) ∧ (tg z 8 = 5 ∧ ln z 8 = 12 ∧ ∀ p, p < 12 → zP z 8 p = 34 + p ∧ tg z (34 + p) = 13) ∧ (tg z 9 = 6 ∧ ln z 9 = 60) ∧ (tg z 17 = 15 ∧ zP z 17 0 = 18 ∧ tg z 18 = 1 ∧ ln z 18 = 18) ∧ (tg z 19 = 15 ∧ zP z 19 0 = 20 ∧ tg z 20 = 1 ∧ ln z 20 = 20) ∧ (tg z 21 = 1 ∧ ln z 21 = 6) ∧ (tg z 1 = 3 ∧ ln z 1 = 0) ∧ (tg z 4 = 3 ∧ ln z 4 = 5 ∧ ∀ j, j < 5 → zI z 4 j = pfA j) ∧ BT z ∧ ST z
/-- rows with keys of their own and values that aren't 0 -/
def RD (C D V : Nat → Int32) (m : Nat) : Prop := (∀ i, i < m → ¬ V i = 0) ∧ (∀ i j, i < m → j < m → C i = C j → D i = D j → i = j)
def RG (z : ZS) (A : Nat → Nat → Int32) (V : Nat → Int32) (R : Nat) : Prop := V 4 = nI R ∧ RT z R (zI z 11) (zI z 12) (zI z 13) ∧ (∀ c day, vlR (zI z 11) (zI z 12) (zI z 13) R c day = rgF A c day R) ∧ RD (zI z 11) (zI z 12) (zI z 13) R ∧ RD (A 4) (A 5) (A 6) R
def RW (z : ZS) (F V : Nat → Int32) : Prop := (∃ w, w ≤ 18 ∧ V 8 = nI w ∧ zI z 17 1 = nI w ∧ ∀ j, j < w → zI z 18 j = F (3 * j + 1) ∧ -1 ≤ (F (3 * j + 1)).toInt ∧ (F (3 * j + 1)).toInt ≤ 15) ∧ (∃ t, t ≤ 20 ∧ V 19 = nI t ∧ zI z 19 1 = nI t ∧ ∀ j, j < t → zI z 20 j = F (3 * j + 2))
def AN (z : ZS) (F : Nat → Int32) : Prop := ∀ j, j < 6 → zI z 21 j = F (3 * (j + 1))
/-- a player's cards in ORDER -/
def lpF (A : Nat → Nat → Int32) (n p : Nat) : List Nat := (odl (A 10) n).filter (qp A (nI p))
def PL (z : ZS) (cid : Nat → Nat) (A : Nat → Nat → Int32) (n R p : Nat) : Prop := LK z cid (lpF A n p) (zP z (34 + p) 0) ∧ (zI z (34 + p) 2 = 0 ∨ zI z (34 + p) 2 = 1) ∧ (zI z (34 + p) 2 = 0 → IV z cid A R p (lpF A n p).reverse)
def DAY (A : Nat → Nat → Int32) (n : Nat) : Prop := ∀ k, k < n → 0 ≤ A 10 k ∧ A 10 k ≤ 9999
def Cls (z : ZS) (A : Nat → Nat → Int32) (F V : Nat → Int32) (n R : Nat) : Prop := CT z ∧ CS z A ∧ RG z A V R ∧ RW z F V ∧ AN z F ∧ (n ≤ 60 ∧ V 10 = nI n ∧ zI z 6 3 = nI n) ∧ CB z (zP z 9) A n ∧ VD A n R ∧ DAY A n ∧ ∀ p, p < 12 → PL z (zP z 9) A n R p
def Fr (U W : Nat → Nat → Prop) (z z' : ZS) : Prop := zn z ≤ zn z' ∧ (∀ a, a < zn z → tg z' a = tg z a ∧ ln z' a = ln z a) ∧ (∀ a j, a < zn z → ¬ U a j → zI z' a j = zI z a j) ∧ (∀ a j, a < zn z → ¬ W a j → zP z' a j = zP z a j)
theorem Fr_F {p : Nat} {cid : Nat → Nat} {lp : List Nat} {A : Nat → Nat → Int32} {z z' : ZS} (h : Fz p cid lp A z z') : Fr (WI p cid lp A) (WP p cid lp) z z' := ⟨by show z.1 ≤ z'.1; rw [h.1]; exact Nat.le_refl _, fun a _ => ⟨by rw [show tg z' = tg z from h.2.2.1], by rw [show ln z' = ln z from h.2.2.2.1]⟩, fun a j _ w => h.2.2.2.2.1 a j w, fun a j _ w => h.2.2.2.2.2 a j w⟩
theorem Fr_t {U W U' W' : Nat → Nat → Prop} {z z' z'' : ZS} (h : Fr U W z z') (h' : Fr U' W' z' z'') : Fr (fun a j => U a j ∨ U' a j) (fun a j => W a j ∨ W' a j) z z'' := by
  refine ⟨Nat.le_trans h.1 h'.1, fun a ha => ?_, fun a j ha w => ?_, fun a j ha w => ?_⟩
  · have a2 : a < zn z' := Nat.lt_of_lt_of_le ha h.1
    exact ⟨(h'.2.1 a a2).1.trans (h.2.1 a ha).1, (h'.2.1 a a2).2.trans (h.2.1 a ha).2⟩
  · exact (h'.2.2.1 a j (Nat.lt_of_lt_of_le ha h.1) (fun q => w (Or.inr q))).trans (h.2.2.1 a j ha (fun q => w (Or.inl q)))
  · exact (h'.2.2.2 a j (Nat.lt_of_lt_of_le ha h.1) (fun q => w (Or.inr q))).trans (h.2.2.2 a j ha (fun q => w (Or.inl q)))
theorem Fr_w {U W U' W' : Nat → Nat → Prop} {z z' : ZS} (h : Fr U W z z') (hU : ∀ a j, U a j → U' a j) (hW : ∀ a j, W a j → W' a j) : Fr U' W' z z' := ⟨h.1, h.2.1, fun a j ha w => h.2.2.1 a j ha (fun q => w (hU a j q)), fun a j ha w => h.2.2.2 a j ha (fun q => w (hW a j q))⟩
section FrL
variable {U W : Nat → Nat → Prop} {z z' : ZS} {A : Nat → Nat → Int32} {V : Nat → Int32} {n R : Nat}
theorem L_CT (h : Fr U W z z') (h1 : ∀ a j, U a j → ¬ (a < 5)) (h2 : ∀ a j, W a j → a ≠ 6 ∧ a ≠ 7 ∧ a ≠ 8 ∧ a ≠ 14 ∧ a ≠ 17 ∧ a ≠ 19) (hC : CT z) : CT z' := by
  obtain ⟨f1, f2, f3, f4⟩ := h
  have h75 := hC.1
  have tt : ∀ a, a < 75 → tg z' a = tg z a := fun a ha => (f2 a (by omega)).1
  have tl : ∀ a, a < 75 → ln z' a = ln z a := fun a ha => (f2 a (by omega)).2
  have ti : ∀ a j, a < 5 → zI z' a j = zI z a j := fun a j ha => f3 a j (by omega) (fun w => h1 a j w ha)
  have tp : ∀ a j, a = 6 ∨ a = 7 ∨ a = 8 ∨ a = 14 ∨ a = 17 ∨ a = 19 → zP z' a j = zP z a j := fun a j ha => f4 a j (by omega) (fun w => by have := h2 a j w; omega)
  obtain ⟨c1, c2, c3, c4, c5, c6, c7, c8, c9, c10, c11, c12⟩ := hC
  have p6 : zP z' 6 = zP z 6 := funext (fun j => tp 6 j (by omega))
  have p14 : zP z' 14 = zP z 14 := funext (fun j => tp 14 j (by omega))
  have i4 : zI z' 4 = zI z 4 := funext (fun j => ti 4 j (by omega))
  have i2 : zI z' 2 = zI z 2 := funext (fun j => ti 2 j (by omega))
  have i3 : zI z' 3 = zI z 3 := funext (fun j => ti 3 j (by omega))
  refine ⟨by omega, ?_, ?_, ?_, ?_, ?_, ?_, ?_, ?_, ?_, ?_, ?_⟩
  · rw [tt 6 (by omega), p6]; exact c2
  · rw [tt 7 (by omega), tl 7 (by omega)]; exact ⟨c3.1, c3.2.1, fun c hc => by rw [tp 7 c (by omega)]; exact c3.2.2 c hc⟩
  · rw [tt 8 (by omega), tl 8 (by omega)]; exact ⟨c4.1, c4.2.1, fun c hc => by rw [tp 8 c (by omega), tt (34 + c) (by omega)]; exact c4.2.2 c hc⟩
  · rw [tt 9 (by omega), tl 9 (by omega)]; exact c5
  · rw [tt 17 (by omega), tp 17 0 (by omega), tt 18 (by omega), tl 18 (by omega)]; exact c6
  · rw [tt 19 (by omega), tp 19 0 (by omega), tt 20 (by omega), tl 20 (by omega)]; exact c7
  · rw [tt 21 (by omega), tl 21 (by omega)]; exact c8
  · rw [tt 1 (by omega), tl 1 (by omega)]; exact c9
  · rw [tt 4 (by omega), tl 4 (by omega), i4]; exact c10
  · unfold BT at c11 ⊢
    rw [tt 14 (by omega), tt 15 (by omega), tt 16 (by omega), tl 15 (by omega), tl 16 (by omega), p14]; exact c11
  · unfold ST at c12 ⊢
    rw [tt 2 (by omega), tt 3 (by omega), tl 2 (by omega), tl 3 (by omega), i2, i3]; exact c12
theorem L_CS (h : Fr U W z z') (h75 : 75 ≤ zn z) (h1 : ∀ a j, U a j → ¬ (22 ≤ a ∧ a < 34)) (h2 : ∀ a j, W a j → ¬ (22 ≤ a ∧ a < 34)) (hC : CS z A) : CS z' A := by
  obtain ⟨f1, f2, f3, f4⟩ := h
  intro c hc
  have ti : ∀ a j, 22 ≤ a → a < 34 → zI z' a j = zI z a j := fun a j a1 a2 => f3 a j (by omega) (fun w => h1 a j w ⟨a1, a2⟩)
  have tp : ∀ a j, 22 ≤ a → a < 34 → zP z' a j = zP z a j := fun a j a1 a2 => f4 a j (by omega) (fun w => h2 a j w ⟨a1, a2⟩)
  obtain ⟨q1, q2, q3, q4, q5, q6, q7, q8, q9, q10⟩ := hC c hc
  rw [(f2 (22 + 3 * c) (by omega)).1, (f2 (23 + 3 * c) (by omega)).1, (f2 (24 + 3 * c) (by omega)).1, (f2 (23 + 3 * c) (by omega)).2, (f2 (24 + 3 * c) (by omega)).2, tp _ _ (by omega) (by omega), tp _ _ (by omega) (by omega), ti _ 0 (by omega) (by omega), ti _ 1 (by omega) (by omega), ti _ 2 (by omega) (by omega)]
  exact ⟨q1, q2, q3, q4, q5, q6, q7, q8, fun h hh => by rw [ti _ _ (by omega) (by omega)]; exact q9 h hh, fun h hh => by rw [ti _ _ (by omega) (by omega)]; exact q10 h hh⟩
theorem L_RG (h : Fr U W z z') (h75 : 75 ≤ zn z) (h1 : ∀ a j, U a j → ¬ (10 ≤ a ∧ a < 14)) (h2 : ∀ a j, W a j → a ≠ 10) (hC : RG z A V R) : RG z' A V R := by
  obtain ⟨f1, f2, f3, f4⟩ := h
  have ti : ∀ a, 10 ≤ a → a < 14 → zI z' a = zI z a := fun a a1 a2 => funext (fun j => f3 a j (by omega) (fun w => h1 a j w ⟨a1, a2⟩))
  have tp : zP z' 10 = zP z 10 := funext (fun j => f4 10 j (by omega) (fun w => h2 10 j w rfl))
  unfold RG RT at hC ⊢
  rw [(f2 10 (by omega)).1, (f2 11 (by omega)).1, (f2 12 (by omega)).1, (f2 13 (by omega)).1, (f2 11 (by omega)).2, (f2 12 (by omega)).2, (f2 13 (by omega)).2, tp, ti 10 (by omega) (by omega), ti 11 (by omega) (by omega), ti 12 (by omega) (by omega), ti 13 (by omega) (by omega)]
  exact hC
theorem L_RW {F : Nat → Int32} (h : Fr U W z z') (h75 : 75 ≤ zn z) (h1 : ∀ a j, U a j → ¬ (17 ≤ a ∧ a < 21)) (hC : RW z F V) : RW z' F V := by
  have ti : ∀ a, 17 ≤ a → a < 21 → zI z' a = zI z a := fun a a1 a2 => funext (fun j => h.2.2.1 a j (by omega) (fun w => h1 a j w ⟨a1, a2⟩))
  unfold RW at hC ⊢
  rw [ti 17 (by omega) (by omega), ti 18 (by omega) (by omega), ti 19 (by omega) (by omega), ti 20 (by omega) (by omega)]
  exact hC
theorem L_AN {F : Nat → Int32} (h : Fr U W z z') (h75 : 75 ≤ zn z) (h1 : ∀ a j, U a j → a ≠ 21) (hC : AN z F) : AN z' F := fun j hj => by
  rw [h.2.2.1 21 j (by omega) (fun w => h1 21 j w rfl)]; exact hC j hj
/-- frames that keep the cards' own data -/
def KC (U W : Nat → Nat → Prop) (cid : Nat → Nat) (A : Nat → Nat → Int32) (n : Nat) : Prop := ∀ k, k < n → (∀ j, j ≠ 12 → j ≠ 13 → j ≠ 16 → j ≠ 17 → ¬ U (cid k) j) ∧ (¬ A 8 k = 2 → ∀ j, ¬ U (cid k + 1) j) ∧ (∀ j, j ≠ 11 → j ≠ 14 → j ≠ 15 → ¬ W (cid k) j)
theorem L_CB {cid : Nat → Nat} (h : Fr U W z z') (hK : KC U W cid A n) (hC : CB z cid A n) : CB z' cid A n := by
  obtain ⟨f1, f2, f3, f4⟩ := h
  refine ⟨fun k hk => ?_, hC.2⟩
  obtain ⟨b1, b2, b3, b4, b5, b6, b7, b8, b9, b10, b11, b12⟩ := hC.1 k hk
  obtain ⟨k1, k2, k3⟩ := hK k hk
  have hx : cid k + 1 < zn z := by
    by_cases e : A 8 k = 2
    · rw [if_pos e] at b2; omega
    · rw [if_neg e] at b2; omega
  have ti : ∀ j, j ≠ 12 → j ≠ 13 → j ≠ 16 → j ≠ 17 → zI z' (cid k) j = zI z (cid k) j := fun j a b c d => f3 _ _ (by omega) (k1 j a b c d)
  have tp : ∀ j, j ≠ 11 → j ≠ 14 → j ≠ 15 → zP z' (cid k) j = zP z (cid k) j := fun j a b c => f4 _ _ (by omega) (k3 j a b c)
  refine ⟨b1, Nat.le_trans b2 f1, by rw [(f2 _ (by omega)).1]; exact b3, by rw [ti 0 (by decide) (by decide) (by decide) (by decide)]; exact b4, by rw [ti 1 (by decide) (by decide) (by decide) (by decide)]; exact b5, by rw [ti 3 (by decide) (by decide) (by decide) (by decide)]; exact b6, by rw [ti 4 (by decide) (by decide) (by decide) (by decide)]; exact b7, by rw [ti 6 (by decide) (by decide) (by decide) (by decide)]; exact b8, by rw [ti 9 (by decide) (by decide) (by decide) (by decide)]; exact b9, by rw [ti 10 (by decide) (by decide) (by decide) (by decide)]; exact b10, by rw [tp 2 (by decide) (by decide) (by decide)]; exact b11, ?_⟩
  rw [tp 5 (by decide) (by decide) (by decide), tp 7 (by decide) (by decide) (by decide), tp 8 (by decide) (by decide) (by decide)]
  rcases b12 with w | ⟨c1, c2, c3, c4, c5, c6, c7, c8, c9, c10⟩
  · exact Or.inl w
  · have ha : ¬ A 8 k = 2 := fun e => by rcases c1 with q | q <;> (rw [q] at e; exact absurd e (by decide))
    rw [if_neg ha] at b2
    refine Or.inr ⟨c1, c2, c3, c4, c5, c6, c7, ⟨by rw [(f2 _ (by omega)).1]; exact c8.1, by rw [(f2 _ (by omega)).2]; exact c8.2⟩, ⟨by rw [(f2 _ (by omega)).1]; exact c9.1, by rw [(f2 _ (by omega)).2]; exact c9.2⟩, fun j hj => ?_⟩
    rw [f3 _ _ (by omega) (k2 ha j)]
    exact c10 j hj
/-- frames that keep a player's settled data -/
theorem L_IV {cid : Nat → Nat} {p : Nat} {t : List Nat} (h : Fr U W z z') (h75 : 75 ≤ zn z) (hp : p < 12) (hB : CB z cid A n) (ht : ∀ k, k ∈ t → k < n) (h1 : ∀ k, k ∈ t → (∀ j, ¬ U (cid k) j) ∧ (¬ A 8 k = 2 → ∀ j, ¬ U (cid k + 2) j) ∧ ¬ W (cid k) 14 ∧ ¬ W (cid k) 15) (h2 : ¬ W (34 + p) 1) (hI : IV z cid A R p t) : IV z' cid A R p t := by
  obtain ⟨f1, f2, f3, f4⟩ := h
  have lt : ∀ k, k ∈ t → cid k < zn z ∧ (¬ A 8 k = 2 → cid k + 2 < zn z) := fun k hk => by
    have b2 := (hB.1 k (ht k hk)).2.1
    by_cases e : A 8 k = 2
    · rw [if_pos e] at b2; exact ⟨by omega, fun w => absurd e w⟩
    · rw [if_neg e] at b2; exact ⟨by omega, fun _ => by omega⟩
  refine ⟨fun k hk => ?_, ?_, fun i hi => ?_⟩
  · obtain ⟨a1, a2, a3, a4⟩ := hI.1 k hk
    obtain ⟨q1, q2, q3, q4⟩ := h1 k hk
    refine ⟨by rw [f3 _ _ (lt k hk).1 (q1 _)]; exact a1, by rw [f3 _ _ (lt k hk).1 (q1 _)]; exact a2, by rw [f4 _ _ (lt k hk).1 q3]; exact a3, fun w h hh => ?_⟩
    rw [f3 _ _ ((lt k hk).2 w) (q2 w _)]; exact a4 w h hh
  · rw [f4 _ _ (by omega) h2]; exact hI.2.1
  · have m := (mkd_mem.mp (gd_mem (mkd (pb A R t) t) i hi)).1
    obtain ⟨a1, a2, a3⟩ := hI.2.2 i hi
    obtain ⟨q1, q2, q3, q4⟩ := h1 _ m
    rw [f4 _ _ (lt _ m).1 q4, f3 _ _ (lt _ m).1 (q1 _), f3 _ _ (lt _ m).1 (q1 _)]
    exact ⟨a1, a2, a3⟩
end FrL
/-- a player's cards are cards, in ORDER, each once -/
theorem lpF_mem (A : Nat → Nat → Int32) (n p k : Nat) : k ∈ lpF A n p ↔ k < n ∧ A 9 k = nI p := by
  unfold lpF
  rw [List.mem_filter, odl_mem]
  exact ⟨fun w => ⟨w.1, of_decide_eq_true w.2⟩, fun w => ⟨w.1, decide_eq_true w.2⟩⟩
theorem lpF_nd (A : Nat → Nat → Int32) (n p : Nat) : (lpF A n p).Nodup := by
  have h : (odl (A 10) n).Nodup := List.Pairwise.imp (fun w => w.2) (odl_pw (A 10) n)
  exact List.Pairwise.sublist List.filter_sublist h
theorem lpF_dn (A : Nat → Nat → Int32) (n p : Nat) : dn (A 10) (lpF A n p).reverse := by
  have h : (lpF A n p).Pairwise (fun x y => A 10 x ≤ A 10 y) := List.Pairwise.sublist List.filter_sublist (List.Pairwise.imp (fun w => w.1) (odl_pw (A 10) n))
  exact List.pairwise_reverse.mpr h
theorem lpF_len (A : Nat → Nat → Int32) (n p : Nat) : (lpF A n p).length ≤ n := by
  have := List.length_filter_le (qp A (nI p)) (odl (A 10) n)
  rw [odl_len] at this
  exact this
theorem lpF_oth {A : Nat → Nat → Int32} {n p p' k : Nat} (hp : p < 12) (hp' : p' < 12) (ne : p' ≠ p) (h : k ∈ lpF A n p') : ¬ k ∈ lpF A n p := fun w => by
  have a := ((lpF_mem A n p' k).mp h).2
  have b := ((lpF_mem A n p k).mp w).2
  rw [a] at b
  exact ne ((nI_eq (by omega) (by omega)).mp b)
theorem Cls_KD {z : ZS} {A : Nat → Nat → Int32} {n : Nat} {cid : Nat → Nat} (h : CB z cid A n) : ∀ k, k < n → KD A k := fun k hk => by
  obtain ⟨b1, b2, b3, b4, b5, b6, b7, b8, b9, b10, b11, b12⟩ := h.1 k hk
  exact b12.imp (fun w => w.1) (fun w => ⟨w.1, w.2.1, w.2.2.1⟩)
theorem Cls_sl {A : Nat → Nat → Int32} {n R : Nat} (h : VD A n R) : ∀ c, c < 4 → 1 ≤ A 1 c ∧ ¬ 2 * A 1 c = 0 := fun c hc => by
  obtain ⟨s1, s2⟩ := (h.1 c hc).2.1
  refine ⟨by rw [i32_le, show (1 : Int32).toInt = 1 by decide]; omega, fun w => ?_⟩
  have e : (2 * A 1 c).toInt = 2 * (A 1 c).toInt := by rw [ti_mul] <;> rw [show (2 : Int32).toInt = 2 by decide] <;> omega
  rw [w, show (0 : Int32).toInt = 0 by decide] at e
  omega
theorem Cls_SC {z : ZS} {A : Nat → Nat → Int32} {F V : Nat → Int32} {n R : Nat} (h : Cls z A F V n R) (p : Nat) (hp : p < 12) : SC z (zP z 9) A n R p (lpF A n p) (zI z 11) (zI z 12) (zI z 13) := by
  obtain ⟨c1, c2, c3, c4, c5, c6, c7, c8, c9, c10⟩ := h
  have hl := lpF_len A n p
  exact ⟨hp, c7, c2, c3.2.1, c3.2.2.1, c1.2.2.2.2.2.2.2.2.2.2.1, c1.2.2.2.2.2.2.2.2.2.2.2, (c1.2.2.2.1.2.2 p hp).2, Cls_sl c8, fun k hk => ((lpF_mem A n p k).mp hk).1, lpF_nd A n p, lpF_dn A n p, c9, (c10 p hp).1, fun t ht hl => pb_NoS c8 (Cls_KD c7) t ht hl, by omega⟩
