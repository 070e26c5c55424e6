/-! A player's book and relation, when only others' cards change. Own work. -/
/-- the same courses and rights, and the same of card k -/
def A1k (A A' : Nat → Nat → Int32) (k : Nat) : Prop := (∀ q, 8 ≤ q → q < 15 → A' q k = A q k) ∧ ∀ j, j < 18 → A' 15 (18 * k + j) = A 15 (18 * k + j)
def AC (A A' : Nat → Nat → Int32) (t : List Nat) : Prop := (∀ q, q < 7 → A' q = A q) ∧ ∀ k, k ∈ t → A1k A A' k
theorem fs_1 {A A' : Nat → Nat → Int32} {k : Nat} (h : A1k A A' k) : fsN A' k = fsN A k := by unfold fsN; rw [h.1 12 (by omega) (by omega)]
theorem ls_1 {A A' : Nat → Nat → Int32} {k : Nat} (h : A1k A A' k) : lsN A' k = lsN A k := by unfold lsN; rw [fs_1 h, h.1 8 (by omega) (by omega)]
theorem cN_1 {A A' : Nat → Nat → Int32} {k : Nat} (h : A1k A A' k) : cN A' k = cN A k := by unfold cN; rw [h.1 11 (by omega) (by omega)]
theorem CK_1 {A A' : Nat → Nat → Int32} {k : Nat} (h : A1k A A' k) (hC : CK A k) : CK A' k := by
  unfold CK lastF at hC ⊢
  rw [fs_1 h, ls_1 h, h.1 12 (by omega) (by omega), h.1 8 (by omega) (by omega)]
  exact hC
theorem KD_1 {A A' : Nat → Nat → Int32} {k : Nat} (h : A1k A A' k) (hC : KD A k) : KD A' k := by
  unfold KD at hC ⊢
  rw [cN_1 h, h.1 8 (by omega) (by omega)]
  exact hC.imp id (fun w => ⟨w.1, CK_1 h w.2.1, w.2.2⟩)
theorem pcn_1 {A A' : Nat → Nat → Int32} {k : Nat} (h : A1k A A' k) (f : Nat) : ∀ j, f + j ≤ 18 → pcn A' k f j = pcn A k f j
  | 0, _ => by unfold pcn; rfl
  | j + 1, hj => by unfold pcn; rw [pcn_1 h f j (by omega), h.2 (f + j) (by omega)]
theorem asF_1 {A A' : Nat → Nat → Int32} {k : Nat} (h : A1k A A' k) (h2 : A' 2 = A 2) (h3 : A' 3 = A 3) (c : Nat) (g : Int32) (f : Nat) : ∀ j, f + j ≤ 18 → asF A' k c g f j = asF A k c g f j
  | 0, _ => by unfold asF; rfl
  | j + 1, hj => by unfold asF; rw [asF_1 h h2 h3 c g f j (by omega), h.2 (f + j) (by omega), h2, h3]
theorem lwL_D {D D' : Nat → Int32} (b : Bk) (day : Int32) : ∀ (l : List Nat) (low : Option Int32) (dm : Int32), (∀ x, x ∈ l → D' x = D x) → lwL b D' day l low dm = lwL b D day l low dm
  | [], _, _, _ => by unfold lwL; rfl
  | k :: t, low, dm, h => by
    have ht : ∀ x, x ∈ t → D' x = D x := fun x hx => h x (List.mem_cons_of_mem _ hx)
    unfold lwL
    rw [h k List.mem_cons_self, lwL_D b day t low dm ht, lwL_D b day t _ _ ht]
theorem find_cg {q q' : Nat → Bool} : ∀ l : List Nat, (∀ x, x ∈ l → q' x = q x) → l.find? q' = l.find? q
  | [], _ => rfl
  | x :: t, h => by
    rw [List.find?_cons, List.find?_cons, h x List.mem_cons_self, find_cg t (fun y hy => h y (List.mem_cons_of_mem _ hy))]
section Cong
variable {A A' : Nat → Nat → Int32} {t : List Nat}
theorem gP_1 (b : Bk) (day : Int32) (h10 : ∀ x, x ∈ t → A' 10 x = A 10 x) : gP b A' t day = gP b A t day := by
  unfold gP
  refine List.filter_congr (fun x hx => ?_)
  rw [h10 x (List.mem_filter.mp hx).1]
theorem nuP_1 (b : Bk) (day : Int32) (h10 : ∀ x, x ∈ t → A' 10 x = A 10 x) : nuP b A' t day = nuP b A t day := by
  unfold nuP
  rw [gP_1 b day h10, lwL_D b day (gP b A t day) none (-1) (fun x hx => h10 x (List.mem_filter.mp (List.mem_filter.mp hx).1).1)]
theorem gfP_1 (b : Bk) (h7 : ∀ q, q < 7 → A' q = A q) (h10 : ∀ x, x ∈ t → A' 10 x = A 10 x) {k : Nat} (hk : A1k A A' k) : gfP b A' t k = gfP b A t k := by
  unfold gfP gvT
  rw [hk.1 10 (by omega) (by omega), nuP_1 b _ h10, cN_1 hk, h7 1 (by omega), h7 0 (by omega), parsF_eq (h7 2 (by omega))]
theorem stP_1 (R : Nat) (b : Bk) (h7 : ∀ q, q < 7 → A' q = A q) (h10 : ∀ x, x ∈ t → A' 10 x = A 10 x) {k : Nat} (hk : A1k A A' k) (hD : KD A k) : stP A' R b t k = stP A R b t k := by
  have e8 := hk.1 8 (by omega) (by omega)
  have e10 := hk.1 10 (by omega) (by omega)
  unfold stP
  rw [hk.1 14 (by omega) (by omega), e8, hk.1 13 (by omega) (by omega)]
  by_cases c2 : A 8 k = 2
  · rw [if_pos c2, if_pos c2]
  · rw [if_neg c2, if_neg c2]
    rcases hD with w | ⟨_, ⟨k1, k2, k3⟩, _⟩
    · exact absurd w c2
    · have hfl : fsN A k ≤ lsN A k := by unfold lsN; omega
      have ea : asP b A' t k = asP b A t k := by
        unfold asP
        rw [gfP_1 b h7 h10 hk, cN_1 hk, fs_1 hk, ls_1 hk, asF_1 hk (h7 2 (by omega)) (h7 3 (by omega)) _ _ _ _ (by omega)]
      have ep : plF A' k = plF A k := by
        unfold plF
        rw [fs_1 hk, ls_1 hk, pcn_1 hk _ _ (by omega)]
      have er : ∀ c d, rgF A' c d R = rgF A c d R := fun c d => rgF_e (h7 4 (by omega)) (h7 5 (by omega)) (h7 6 (by omega)) c d R
      have em : mkP b A' t R k = mkP b A t R k := by
        unfold mkP
        rw [ea, cN_1 hk, er, h7 0 (by omega), h7 1 (by omega), hk.1 11 (by omega) (by omega), e10]
      have eh : hfP b A' t R k = hfP b A t R k := by
        unfold hfP
        rw [ea, cN_1 hk, er, h7 0 (by omega), h7 1 (by omega), hk.1 11 (by omega) (by omega), e10]
      have ew : wtP b A' t k = wtP b A t k := find_cg _ (fun x hx => by unfold qV; rw [e10, h10 x (List.mem_reverse.mp hx)])
      rw [ep, em, eh, ew]
end Cong
theorem pb_1 {A A' : Nat → Nat → Int32} (R : Nat) : ∀ t : List Nat, AC A A' t → (∀ k, k ∈ t → KD A k) → pb A' R t = pb A R t
  | [], _, _ => by unfold pb; rfl
  | k :: t, h, hD => by
    have ht : AC A A' t := ⟨h.1, fun x hx => h.2 x (List.mem_cons_of_mem _ hx)⟩
    unfold pb
    rw [pb_1 R t ht (fun x hx => hD x (List.mem_cons_of_mem _ hx)), stP_1 R _ h.1 (fun x hx => (ht.2 x hx).1 10 (by omega) (by omega)) (h.2 k List.mem_cons_self) (hD k List.mem_cons_self)]
theorem IV_A {z : ZS} {cid : Nat → Nat} {A A' : Nat → Nat → Int32} {R p : Nat} {t : List Nat} (h : AC A A' t) (hD : ∀ k, k ∈ t → KD A k) (hI : IV z cid A R p t) : IV z cid A' R p t := by
  unfold IV I1 at hI ⊢
  rw [pb_1 R t h hD]
  refine ⟨fun k hk => ?_, hI.2⟩
  have hk1 := h.2 k hk
  rw [gfP_1 (pb A R t) h.1 (fun x hx => (h.2 x hx).1 10 (by omega) (by omega)) hk1, hk1.1 8 (by omega) (by omega), fs_1 hk1, ls_1 hk1, cN_1 hk1, h.1 3 (by omega)]
  exact hI.1 k hk
theorem hdi_c {cid cid' : Nat → Nat} {L : List Nat} (h : ∀ k, k ∈ L → cid' k = cid k) (i : Nat) : hdi cid' L i = hdi cid L i := by
  unfold hdi
  by_cases e : i < L.length
  · rw [if_pos e, if_pos e, h _ (gd_mem L i e)]
  · rw [if_neg e, if_neg e]
theorem IV_c {z : ZS} {cid cid' : Nat → Nat} {A : Nat → Nat → Int32} {R p : Nat} {t : List Nat} (h : ∀ k, k ∈ t → cid' k = cid k) (hI : IV z cid A R p t) : IV z cid' A R p t := by
  obtain ⟨h1, h2, h3⟩ := hI
  have hm : ∀ k, k ∈ mkd (pb A R t) t → cid' k = cid k := fun k hk => h k (mkd_mem.mp hk).1
  refine ⟨fun k hk => ?_, ?_, fun i hi => ?_⟩
  · obtain ⟨a1, a2, a3, a4⟩ := h1 k hk
    refine ⟨by rw [h k hk]; exact a1, by rw [h k hk]; exact a2, ?_, by rw [h k hk]; exact a4⟩
    rw [h k hk, a3]
    cases hj : (pb A R t).2.2 k with
    | none => rfl
    | some j => exact (h j (pb_jn A R t k j hj)).symm
  · rw [hdi_c hm]; exact h2
  · rw [hm _ (gd_mem _ i hi), hdi_c hm]; exact h3 i hi
theorem LK_c {z : ZS} {cid cid' : Nat → Nat} : ∀ (l : List Nat) (q : Nat), (∀ k, k ∈ l → cid' k = cid k) → LK z cid l q → LK z cid' l q
  | [], _, _, h => h
  | k :: t, q, e, h => ⟨by rw [e k List.mem_cons_self]; exact h.1, by rw [e k List.mem_cons_self]; exact LK_c t _ (fun x hx => e x (List.mem_cons_of_mem _ hx)) h.2⟩
/-- another player's part of the relation -/
theorem PL_o {U W : Nat → Nat → Prop} {z z1 : ZS} {A A1 : Nat → Nat → Int32} {n n1 R p : Nat} {cid1 : Nat → Nat} (hF : Fr U W z z1) (h75 : 75 ≤ zn z) (hp : p < 12) (hB : CB z (zP z 9) A n) (el : lpF A1 n1 p = lpF A n p) (hc : ∀ k, k ∈ lpF A n p → cid1 k = zP z 9 k) (hA : AC A A1 (lpF A n p)) (hU : ∀ k, k ∈ lpF A n p → (∀ j, ¬ U (zP z 9 k) j) ∧ (¬ A 8 k = 2 → ∀ j, ¬ U (zP z 9 k + 2) j) ∧ ∀ j, ¬ W (zP z 9 k) j) (hUp : ¬ U (34 + p) 2) (hWp : ∀ j, ¬ W (34 + p) j) (h : PL z (zP z 9) A n R p) : PL z1 cid1 A1 n1 R p := by
  obtain ⟨a1, a2, a3⟩ := h
  have kn : ∀ k, k ∈ lpF A n p → k < n := fun k hk => ((lpF_mem A n p k).mp hk).1
  have lt : ∀ k, k ∈ lpF A n p → zP z 9 k < zn z := fun k hk => by
    have b2 := (hB.1 k (kn k hk)).2.1
    by_cases e : A 8 k = 2
    · rw [if_pos e] at b2; omega
    · rw [if_neg e] at b2; omega
  have es : zI z1 (34 + p) 2 = zI z (34 + p) 2 := hF.2.2.1 _ _ (by omega) hUp
  refine ⟨?_, by rw [es]; exact a2, fun w => ?_⟩
  · rw [el, hF.2.2.2 _ _ (by omega) (hWp 0)]
    exact LK_c _ _ hc (LK_F _ _ (fun k hk => hF.2.2.2 _ _ (lt k hk) ((hU k hk).2.2 11)) a1)
  · rw [es] at w
    rw [el]
    have mr : ∀ k, k ∈ (lpF A n p).reverse → k ∈ lpF A n p := fun k hk => List.mem_reverse.mp hk
    refine IV_c (fun k hk => hc k (mr k hk)) (IV_A ⟨hA.1, fun k hk => hA.2 k (mr k hk)⟩ (fun k hk => Cls_KD hB k (kn k (mr k hk))) (L_IV hF h75 hp hB (fun k hk => kn k (mr k hk)) (fun k hk => ?_) (hWp 1) (a3 w)))
    obtain ⟨q1, q2, q3⟩ := hU k (mr k hk)
    exact ⟨q1, q2, q3 14, q3 15⟩
/-- a card stays as it is, but for its void flag -/
theorem BC_t {U W : Nat → Nat → Prop} {z z1 : ZS} {A A1 : Nat → Nat → Int32} {k x : Nat} (hF : Fr U W z z1) (h : BCx z A k x) (hU : ∀ j, j ≠ 2 → j ≠ 10 → ¬ U x j) (hU1 : ¬ A 8 k = 2 → ∀ j, ¬ U (x + 1) j) (hW : ∀ j, j ≠ 11 → ¬ W x j) (hq : ∀ q, 8 ≤ q → q < 14 → A1 q k = A q k) (h15 : ∀ j, j < 18 → A1 15 (18 * k + j) = A 15 (18 * k + j)) (h10 : zI z1 x 10 = A1 14 k) : BCx z1 A1 k x := by
  obtain ⟨b1, b2, b3, b4, b5, b6, b7, b8, b9, b10, b11, b12⟩ := h
  have lx : x < zn z := by split at b2 <;> omega
  have i : ∀ j, j ≠ 2 → j ≠ 10 → zI z1 x j = zI z x j := fun j j1 j2 => hF.2.2.1 x j lx (hU j j1 j2)
  have w : ∀ j, j ≠ 11 → zP z1 x j = zP z x j := fun j j1 => hF.2.2.2 x j lx (hW j j1)
  have e8 := hq 8 (by omega) (by omega)
  have ef : fsN A1 k = fsN A k := by unfold fsN; rw [hq 12 (by omega) (by omega)]
  have el : lsN A1 k = lsN A k := by unfold lsN; rw [ef, e8]
  have ec : cN A1 k = cN A k := by unfold cN; rw [hq 11 (by omega) (by omega)]
  refine ⟨b1, by rw [e8]; exact Nat.le_trans b2 hF.1, (hF.2.1 x lx).1.trans b3, (i 0 (by decide) (by decide)).trans b4, by rw [i 1 (by decide) (by decide), e8]; exact b5, by rw [i 3 (by decide) (by decide), hq 9 (by omega) (by omega)]; exact b6, by rw [i 4 (by decide) (by decide), hq 10 (by omega) (by omega)]; exact b7, by rw [i 6 (by decide) (by decide), hq 12 (by omega) (by omega)]; exact b8, by rw [i 9 (by decide) (by decide), hq 13 (by omega) (by omega)]; exact b9, h10, by rw [hq 9 (by omega) (by omega), w 2 (by decide)]; exact b11, ?_⟩
  rw [e8, w 5 (by decide)]
  rcases b12 with q | ⟨c1, c2, c3, c4, c5, c6, c7, c8, c9, c10⟩
  · exact Or.inl q
  · have n2 : ¬ A 8 k = 2 := fun q => by rcases c1 with r | r <;> (rw [r] at q; exact absurd q (by decide))
    rw [if_neg n2] at b2
    refine Or.inr ⟨c1, ?_, by rw [ec]; exact c3, by rw [ec, hq 11 (by omega) (by omega)]; exact c4, by rw [ec]; exact c5, (w 7 (by decide)).trans c6, (w 8 (by decide)).trans c7, by rw [(hF.2.1 (x + 1) (by omega)).1, (hF.2.1 (x + 1) (by omega)).2, el, ef]; exact c8, by rw [(hF.2.1 (x + 2) (by omega)).1, (hF.2.1 (x + 2) (by omega)).2, el, ef]; exact c9, fun j hj => ?_⟩
    · obtain ⟨k1, k2, k3⟩ := c2
      unfold CK lastF at *
      rw [ef, el, hq 12 (by omega) (by omega), e8]
      exact ⟨k1, k2, k3⟩
    · rw [el, ef] at hj
      have := c2.2.2
      have hfl : fsN A k ≤ lsN A k := by unfold lsN; omega
      rw [hF.2.2.1 (x + 1) j (by omega) (hU1 n2 j), ef, h15 _ (by omega)]
      exact c10 j hj
