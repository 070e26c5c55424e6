/-! The class's settle: the loop. Own work. -/
theorem mkd_cons {b : Bk} {k : Nat} {t : List Nat} : mkd b (k :: t) = if (b.1 k).isSome = true then k :: mkd b t else mkd b t := by
  unfold mkd; rw [List.filter_cons]
theorem hdi_s (cid : Nat → Nat) (k : Nat) (L : List Nat) (i : Nat) : hdi cid (k :: L) (i + 1) = hdi cid L i := by
  unfold hdi
  by_cases h : i < L.length
  · rw [if_pos h, if_pos (by simpa using h)]; rfl
  · rw [if_neg h, if_neg (by simpa using h)]
theorem sI_n {z : ZS} {a k b j : Nat} {v : Int32} (h : ¬ (b = a ∧ j = k)) : zI (sI z a k v) b j = zI z b j := if_neg h
theorem sI_e {z : ZS} {a k : Nat} {v : Int32} : zI (sI z a k v) a k = v := if_pos ⟨rfl, rfl⟩
theorem sP_n {z : ZS} {a k b j v : Nat} (h : ¬ (b = a ∧ j = k)) : zP (sP z a k v) b j = zP z b j := if_neg h
theorem sP_e {z : ZS} {a k v : Nat} : zP (sP z a k v) a k = v := if_pos ⟨rfl, rfl⟩
section XSe2
variable (d : Nat) {cid : Nat → Nat} {A : Nat → Nat → Int32} {n R p : Nat} {lp : List Nat} {C D V : Nat → Int32}
theorem AP {z1 : ZS} (hc : SC z1 cid A n R p lp C D V) (t r : List Nat) (k : Nat) (hlp : lp = t.reverse ++ k :: r) (hI : ∀ k', k' ∈ k :: t → I1 z1 cid A (pb A R (k :: t)) (gfP (pb A R (k :: t)) A (k :: t)) k') (h2 : I2 z1 cid (pb A R (k :: t)) (34 + p) (mkd (pb A R t) t)) (v : Int32) (hv : (pb A R (k :: t)).1 k = some v) : ∃ z2, Rn (d + 4) i_P_appendMarked [.ref (34 + p), .ref (cid k), .ref 14] z1 none z2 ∧ Fz p cid lp A z1 z2 ∧ IV z2 cid A R p (k :: t) := by
  obtain ⟨c1, c2, c3, c4, c5, c6, c7, c8, c9, c10, c11, c12, c13, c14, c15, c16⟩ := hc
  obtain ⟨kl, kt, ht, hdt⟩ := split_lp c10 c11 c12 hlp
  have hS := CB_S c2
  have hkn := c10 k kl
  obtain ⟨b1, b2, b3, b4, b5, b6, b7, _⟩ := c2.1 k hkn
  have eL : mkd (pb A R (k :: t)) t = mkd (pb A R t) t := mkd_cg (fun x hx => (stP_oth A R _ t k x (ht x hx).2.2.1).1)
  have eL' : mkd (pb A R (k :: t)) (k :: t) = k :: mkd (pb A R t) t := by rw [mkd_cons, hv, eL]; rfl
  have hLm : ∀ x, x ∈ mkd (pb A R t) t → x ∈ t ∧ ((pb A R (k :: t)).1 x).isSome = true := fun x hx => by
    rw [← eL] at hx
    exact mkd_mem.mp hx
  have hlen : (mkd (pb A R t) t).length + 1 ≤ 60 := by
    have e1 : (mkd (pb A R t) t).length ≤ t.length := List.length_filter_le _ _
    have e2 : lp.length = t.length + (r.length + 1) := by rw [hlp]; simp
    omega
  generalize hLg : mkd (pb A R t) t = L at h2 eL eL' hLm hlen
  generalize hb' : pb A R (k :: t) = b' at hI h2 hv eL eL' hLm
  have Lne : ∀ i, i < L.length → L.getD i 0 < n ∧ cid (L.getD i 0) ≠ cid k ∧ L.getD i 0 ∈ t := fun i hi => by
    have w := (hLm _ (gd_mem L i hi)).1
    exact ⟨(ht _ w).2.1, (sp_ne hS (ht _ w).2.1 hkn (ht _ w).2.2.1).1, w⟩
  have hC : CH (sI (sP z1 (cid k) 15 (hdi cid L 0)) (cid k) 16 (nI (L.length + 1))) cid b' (A 10) (k :: L) := by
    intro i hi
    cases i with
    | zero =>
      refine ⟨b3, ?_, ?_, ?_, ?_, ?_, ?_⟩
      · show ¬ cid k = 0; omega
      · show zI (sI (sP z1 (cid k) 15 (hdi cid L 0)) (cid k) 16 (nI (L.length + 1))) (cid k) 0 = nI k
        rw [sI_n (by omega)]; exact b4
      · show zI (sI (sP z1 (cid k) 15 (hdi cid L 0)) (cid k) 16 (nI (L.length + 1))) (cid k) 4 = A 10 k
        rw [sI_n (by omega)]; exact b7
      · show zI (sI (sP z1 (cid k) 15 (hdi cid L 0)) (cid k) 16 (nI (L.length + 1))) (cid k) 12 = mv b' k
        rw [sI_n (by omega)]
        have := (hI k List.mem_cons_self).1
        unfold mv
        rw [hv] at this ⊢
        exact this
      · show zP (sP z1 (cid k) 15 (hdi cid L 0)) (cid k) 15 = hdi cid (k :: L) (0 + 1)
        rw [sP_e, hdi_s]
      · show zI (sI (sP z1 (cid k) 15 (hdi cid L 0)) (cid k) 16 (nI (L.length + 1))) (cid k) 16 = nI (L.length + 1 - 0)
        rw [sI_e]; rfl
    | succ i =>
      have hi : i < L.length := by simpa using hi
      obtain ⟨l1, l2, l3⟩ := Lne i hi
      obtain ⟨q1, q2, q3, q4, q5, q6, q7, _⟩ := c2.1 _ l1
      obtain ⟨a1, a2, a3⟩ := h2.2 i hi
      have e0 : ∀ j, zI (sI (sP z1 (cid k) 15 (hdi cid L 0)) (cid k) 16 (nI (L.length + 1))) (cid (L.getD i 0)) j = zI z1 (cid (L.getD i 0)) j := fun j => sI_n (fun w => l2 w.1)
      have e1 : zP (sI (sP z1 (cid k) 15 (hdi cid L 0)) (cid k) 16 (nI (L.length + 1))) (cid (L.getD i 0)) 15 = zP z1 (cid (L.getD i 0)) 15 := sP_n (fun w => l2 w.1)
      show tg z1 (cid (L.getD i 0)) = 11 ∧ ¬ cid (L.getD i 0) = 0 ∧ zI (sI (sP z1 (cid k) 15 (hdi cid L 0)) (cid k) 16 (nI (L.length + 1))) (cid (L.getD i 0)) 0 = nI (L.getD i 0) ∧ zI (sI (sP z1 (cid k) 15 (hdi cid L 0)) (cid k) 16 (nI (L.length + 1))) (cid (L.getD i 0)) 4 = A 10 (L.getD i 0) ∧ zI (sI (sP z1 (cid k) 15 (hdi cid L 0)) (cid k) 16 (nI (L.length + 1))) (cid (L.getD i 0)) 12 = mv b' (L.getD i 0) ∧ zP (sI (sP z1 (cid k) 15 (hdi cid L 0)) (cid k) 16 (nI (L.length + 1))) (cid (L.getD i 0)) 15 = hdi cid (k :: L) (i + 1 + 1) ∧ zI (sI (sP z1 (cid k) 15 (hdi cid L 0)) (cid k) 16 (nI (L.length + 1))) (cid (L.getD i 0)) 16 = nI (L.length + 1 - (i + 1))
      rw [e0, e0, e0, e0, e1, hdi_s]
      refine ⟨q3, by omega, q4, q7, ?_, a1, ?_⟩
      · rw [(hI _ (List.mem_cons_of_mem _ l3)).1]
        obtain ⟨u, hu⟩ := Option.isSome_iff_exists.mp (hLm _ (gd_mem L i hi)).2
        unfold mv; rw [hu]; rfl
      · rw [a2, show L.length + 1 - (i + 1) = L.length - i by omega]
  obtain ⟨q, M, N, rn⟩ := P_appendMarked d z1 (34 + p) (cid k) cid b' (A 10) k L c8 rfl b3 b1 h2.1 hC (fun h0 => by
    obtain ⟨l1, l2, l3⟩ := Lne 0 h0
    obtain ⟨q1, q2, q3, _⟩ := c2.1 _ l1
    exact ⟨q3, by rw [(h2.2 0 h0).2.1]; rfl, by omega⟩) c6 c7 hlen
  have zi : ∀ a j, zI (sP (sI (bz (sI (sP z1 (cid k) 15 (hdi cid L 0)) (cid k) 16 (nI (L.length + 1))) q M N) (cid k) 17 (orN (rawO b' (k :: L)))) (34 + p) 1 (cid k)) a j = if a = cid k ∧ j = 17 then orN (rawO b' (k :: L)) else if a = 14 ∧ j = 2 then q else if a = 15 then M j else if a = 16 then N j else if a = cid k ∧ j = 16 then nI (L.length + 1) else zI z1 a j := fun a j => rfl
  have zp : ∀ a j, zP (sP (sI (bz (sI (sP z1 (cid k) 15 (hdi cid L 0)) (cid k) 16 (nI (L.length + 1))) q M N) (cid k) 17 (orN (rawO b' (k :: L)))) (34 + p) 1 (cid k)) a j = if a = 34 + p ∧ j = 1 then cid k else if a = cid k ∧ j = 15 then hdi cid L 0 else zP z1 a j := fun a j => rfl
  refine ⟨_, rn, ⟨rfl, rfl, rfl, rfl, fun a j w => ?_, fun a j w => ?_⟩, ?_, ?_⟩
  · rw [zi]
    rw [if_neg (fun e => w (Or.inr (Or.inr (Or.inr (Or.inl ⟨k, kl, e.1, Or.inr (Or.inr (Or.inr e.2))⟩))))), if_neg (fun e => w (Or.inl e)), if_neg (fun e => w (Or.inr (Or.inl e))), if_neg (fun e => w (Or.inr (Or.inr (Or.inl e)))), if_neg (fun e => w (Or.inr (Or.inr (Or.inr (Or.inl ⟨k, kl, e.1, Or.inr (Or.inr (Or.inl e.2))⟩)))))]
  · rw [zp]
    rw [if_neg (fun e => w (Or.inl e)), if_neg (fun e => w (Or.inr ⟨k, kl, e.1, Or.inr e.2⟩))]
  · intro k' hk'
    rw [hb']
    obtain ⟨a1, a2, a3, a4⟩ := hI k' hk'
    have kn : k' < n := by
      rcases List.mem_cons.mp hk' with e | e
      · rw [e]; exact hkn
      · exact (ht k' e).2.1
    have h75 := hS.1 k' kn
    refine ⟨?_, ?_, ?_, fun w h hh => ?_⟩
    · rw [zi, if_neg (by omega), if_neg (by omega), if_neg (by omega), if_neg (by omega), if_neg (by omega)]; exact a1
    · rw [zi, if_neg (by omega), if_neg (by omega), if_neg (by omega), if_neg (by omega), if_neg (by omega)]; exact a2
    · rw [zp, if_neg (by omega), if_neg (by omega)]; exact a3
    · have n1 : cid k' + 2 ≠ cid k := by
        by_cases e : k' = k
        · rw [e]; omega
        · exact fun q => ((sp_ne hS hkn kn (Ne.symm e)).2 w).2.1 q.symm
      rw [zi, if_neg (fun q => n1 q.1), if_neg (by omega), if_neg (by omega), if_neg (by omega), if_neg (fun q => n1 q.1)]; exact a4 w h hh
  · rw [hb', eL']
    refine ⟨?_, fun i hi => ?_⟩
    · rw [zp, if_pos ⟨rfl, rfl⟩]
      unfold hdi
      rw [if_pos (by simp)]; rfl
    · cases i with
      | zero =>
        refine ⟨?_, ?_, ?_⟩
        · show zP _ (cid k) 15 = _
          rw [zp, if_neg (by omega), if_pos ⟨rfl, rfl⟩, hdi_s]
        · show zI _ (cid k) 16 = nI (L.length + 1 - 0)
          rw [zi, if_neg (by omega), if_neg (by omega), if_neg (by omega), if_neg (by omega), if_pos ⟨rfl, rfl⟩]; rfl
        · show zI _ (cid k) 17 = orN (rawO b' (k :: L))
          rw [zi, if_pos ⟨rfl, rfl⟩]
      | succ i =>
        have hi : i < L.length := by simpa using hi
        obtain ⟨l1, l2, l3⟩ := Lne i hi
        have h75 := hS.1 _ l1
        obtain ⟨a1, a2, a3⟩ := h2.2 i hi
        refine ⟨?_, ?_, ?_⟩
        · show zP _ (cid (L.getD i 0)) 15 = _
          rw [zp, if_neg (by omega), if_neg (fun w => l2 w.1), hdi_s]; exact a1
        · show zI _ (cid (L.getD i 0)) 16 = nI (L.length + 1 - (i + 1))
          rw [zi, if_neg (fun w => l2 w.1), if_neg (by omega), if_neg (by omega), if_neg (by omega), if_neg (fun w => l2 w.1), a2, show L.length + 1 - (i + 1) = L.length - i by omega]
        · show zI _ (cid (L.getD i 0)) 17 = orN (rawO b' (L.drop i))
          rw [zi, if_neg (fun w => l2 w.1), if_neg (by omega), if_neg (by omega), if_neg (by omega), if_neg (fun w => l2 w.1)]; exact a3
/-- numberFor, behind t -/
theorem P_num {z : ZS} (hc : SC z cid A n R p lp C D V) (t : List Nat) (ht : ∀ k, k ∈ t → k < n) (h60 : t.length ≤ 60) (hdt : dn (A 10) t) (hIV : IV z cid A R p t) (day : Int32) : Rn (d + 3) i_P_numberFor [.ref (34 + p), .int day] z (some (.int (nuP (pb A R t) A t day))) z := by
  obtain ⟨c1, c2, c3, c4, c5, c6, c7, c8, c9, c10, c11, c12, c13, c14, c15, c16⟩ := hc
  obtain ⟨i1, i2⟩ := IV_CH c2 ht hIV
  obtain ⟨i0, hi0⟩ := stp0_ex (A 10) day (mkd (pb A R t) t)
  have hlen : (mkd (pb A R t) t).length ≤ t.length := List.length_filter_le _ _
  have r := P_numberFor d z cid (pb A R t) (A 10) (mkd (pb A R t) t) i1 i2 (c15 t ht h60).2.2 (by omega) (34 + p) c8 hIV.2.1 day i0 hi0
  have e : (mkd (pb A R t) t).drop i0 = gP (pb A R t) A t day := (flt_drop (A 10) day _ (flt_dn hdt _) i0 hi0).symm
  rw [e] at r
  exact r
theorem P_settle0 (z : ZS) (hp : tg z (34 + p) = 13) (h0 : zI z (34 + p) 2 = 0) : Rn (d + 6) i_P_settle [.ref (34 + p), .ref 10, .ref 14] z none z :=
  rn_i (full := cd_40) hp (ok_n rfl) rfl (fun K hK => hK 0 _ _ _ ⟨hp, ⟨fun c2 => ⟨rfl, rfl⟩, fun c2 => absurd h0 c2⟩⟩)
theorem P_settle1 {z : ZS} (hc : SC z cid A n R p lp C D V) (hst : ¬ zI z (34 + p) 2 = 0) : ∃ z', Rn (d + 6) i_P_settle [.ref (34 + p), .ref 10, .ref 14] z none z' ∧ Fz p cid lp A (sI z (34 + p) 2 0) z' ∧ IV z' cid A R p lp.reverse := by
  have hp := hc.2.2.2.2.2.2.2.1
  have key : Rq (d + 6) i_P_settle [.ref (34 + p), .ref 10, .ref 14] z (fun r z' => r = none ∧ Fz p cid lp A (sI z (34 + p) 2 0) z' ∧ IV z' cid A R p lp.reverse) := by
    refine rq_i (full := cd_40) hp (fun _ _ _ => ok_n rfl) rfl (fun K hK => ?_)
    -- the start
    have hS0 := CB_S hc.2.1
    have h75 : ∀ k, k ∈ lp → 75 ≤ cid k := fun k hk => hS0.1 k (hc.2.2.2.2.2.2.2.2.2.1 k hk)
    have hcs : SC (sI z (34 + p) 2 0) cid A n R p lp C D V := by
      obtain ⟨c1, c2, c3, c4, c5, c6, c7, c8, c9, c10, c11, c12, c13, c14, c15, c16⟩ := hc
      have ti : ∀ a j, ¬ (34 ≤ a ∧ a < 46) → zI (sI z (34 + p) 2 0) a j = zI z a j := fun a j w => sI_n (by omega)
      have tf : ∀ a, ¬ (34 ≤ a ∧ a < 46) → zI (sI z (34 + p) 2 0) a = zI z a := fun a w => funext (fun j => ti a j w)
      refine ⟨c1, ⟨fun k hk => ?_, c2.2⟩, ?_, ?_, c5, c6, ?_, c8, c9, c10, c11, c12, c13, LK_F (z := z) (z' := sI z (34 + p) 2 0) lp _ (fun _ _ => rfl) c14, c15, c16⟩
      · have := c2.1 k hk
        have h1 := this.1
        unfold BCx at this ⊢
        rw [tf (cid k) (by omega)]
        obtain ⟨b1, b2, b3, b4, b5, b6, b7, b8, b9, b10, b11, b12⟩ := this
        refine ⟨b1, b2, b3, b4, b5, b6, b7, b8, b9, b10, b11, b12.imp id (fun ⟨q1, q2, q3, q4, q5, q6, q7, q8, q9, q10⟩ => ⟨q1, q2, q3, q4, q5, q6, q7, q8, q9, fun j hj => ?_⟩)⟩
        rw [ti _ _ (by omega)]; exact q10 j hj
      · intro c hc'
        have := c3 c hc'
        rw [ti _ _ (by omega), ti _ _ (by omega), ti _ _ (by omega)]
        obtain ⟨q1, q2, q3, q4, q5, q6, q7, q8, q9, q10⟩ := this
        exact ⟨q1, q2, q3, q4, q5, q6, q7, q8, fun h hh => by rw [ti _ _ (by omega)]; exact q9 h hh, fun h hh => by rw [ti _ _ (by omega)]; exact q10 h hh⟩
      · unfold RT at c4 ⊢
        rw [tf 10 (by omega), tf 11 (by omega), tf 12 (by omega), tf 13 (by omega)]; exact c4
      · unfold ST at c7 ⊢
        rw [tf 2 (by omega), tf 3 (by omega)]; exact c7
    have loop : ∀ (r t : List Nat) (zz : ZS) (l3 l4 : Int32) (q : Nat), lp = t.reverse ++ r → Fz p cid lp A (sI z (34 + p) 2 0) zz → IV zz cid A R p t → LK zz cid r q → (l3 = -1 ∨ ((∃ k', k' ∈ t ∧ A 10 k' = l3) ∧ l4 = nuP (pb A R t) A t l3)) → K 31 [.ref (34 + p), .ref 10, .ref 14, .int l3, .int l4, .ref q] [] zz := by
      intro r
      induction r with
      | nil =>
        intro t zz l3 l4 q hlp hF hIV hLK _
        have hLK : q = 0 := hLK
        subst hLK
        refine hK 17 _ _ _ ⟨fun c1 => ⟨rfl, hF, ?_⟩, fun c1 => absurd rfl c1⟩
        rw [hlp, List.append_nil, List.reverse_reverse]; exact hIV
      | cons k r ih =>
        intro t zz l3 l4 q hlp hF hIV hLK h34
        obtain ⟨eq, hLK⟩ := hLK
        subst eq
        have hcz := SC_F hcs hF
        have hcz' := hcz
        obtain ⟨c1, c2, c3, c4, c5, c6, c7, c8, c9, c10, c11, c12, c13, c14, c15, c16⟩ := hcz
        obtain ⟨kl, kt, ht, hdt⟩ := split_lp c10 c11 c12 hlp
        have hS := CB_S c2
        have hkn := c10 k kl
        have e2 : lp.length = t.length + (r.length + 1) := by rw [hlp]; simp
        have tl : t.length ≤ 60 := by omega
        have ktl : (k :: t).length ≤ 60 := by
          show t.length + 1 ≤ 60
          omega
        obtain ⟨b1, b2, b3, b4, b5, b6, b7, b8, b9, b10, b11, b12⟩ := c2.1 k hkn
        have hlp' : lp = (k :: t).reverse ++ r := by rw [hlp, List.reverse_cons, List.append_assoc]; rfl
        have hx0 : ¬ cid k = 0 := by omega
        have nos := c15 (k :: t) (fun k' hk' => by
          rcases List.mem_cons.mp hk' with e | e
          · rw [e]; exact hkn
          · exact (ht k' e).2.1) ktl
        have ext : ∀ l3' l4', (∃ k', k' ∈ t ∧ A 10 k' = l3') → l4' = nuP (pb A R t) A t l3' → l4' = nuP (pb A R (k :: t)) A (k :: t) l3' := fun l3' l4' ⟨k', h1, h2⟩ h3 => by
          rw [nuP_ext A R t k kt l3' (by rw [← h2]; exact (ht k' h1).2.2.2)]; exact h3
        have inv1 : l3 = -1 ∨ ((∃ k', k' ∈ k :: t ∧ A 10 k' = l3) ∧ l4 = nuP (pb A R (k :: t)) A (k :: t) l3) := h34.imp id (fun ⟨⟨k', h1, h2⟩, h3⟩ => ⟨⟨k', List.mem_cons_of_mem _ h1, h2⟩, ext l3 l4 ⟨k', h1, h2⟩ h3⟩)
        -- behind the reckoning
        have fin : ∀ (z1 : ZS), Fz p cid lp A zz z1 → (∀ k', k' ∈ k :: t → I1 z1 cid A (pb A R (k :: t)) (gfP (pb A R (k :: t)) A (k :: t)) k') → I2 z1 cid (pb A R (k :: t)) (34 + p) (mkd (pb A R t) t) →
            ((zI z1 (cid k) 12 = -100002 → ∀ l3' l4', (l3' = -1 ∨ ((∃ k', k' ∈ k :: t ∧ A 10 k' = l3') ∧ l4' = nuP (pb A R (k :: t)) A (k :: t) l3')) → K 31 [.ref (34 + p), .ref 10, .ref 14, .int l3', .int l4', .ref (zP z1 (cid k) 11)] [] z1) ∧
             (¬ zI z1 (cid k) 12 = -100002 → ∃ z2, Rn (d + 5) i_P_appendMarked [.ref (34 + p), .ref (cid k), .ref 14] z1 none z2 ∧ tg z2 (cid k) = 11 ∧ ∀ l3' l4', (l3' = -1 ∨ ((∃ k', k' ∈ k :: t ∧ A 10 k' = l3') ∧ l4' = nuP (pb A R (k :: t)) A (k :: t) l3')) → K 31 [.ref (34 + p), .ref 10, .ref 14, .int l3', .int l4', .ref (zP z2 (cid k) 11)] [] z2)) := by
          intro z1 hF1 hI hI2
          have hFz := Fz_t hF hF1
          have nextP : ∀ z', Fz p cid lp A zz z' → zP z' (cid k) 11 = zP zz (cid k) 11 := fun z' h => h.2.2.2.2.2 _ _ (v_card hS c10 c1 hkn (Or.inl ⟨by decide, by decide⟩))
          have lkP : ∀ z', Fz p cid lp A zz z' → LK z' cid r (zP zz (cid k) 11) := fun z' h => LK_F r _ (fun k' hk' => h.2.2.2.2.2 _ _ (v_card hS c10 c1 (c10 k' (by rw [hlp]; exact List.mem_append.mpr (Or.inr (List.mem_cons_of_mem _ hk')))) (Or.inl ⟨by decide, by decide⟩))) hLK
          have e12 := (hI k List.mem_cons_self).1
          refine ⟨fun hm l3' l4' hinv => ?_, fun hm => ?_⟩
          · rw [e12, orN_ne (fun v hv => nos.1 k v hv)] at hm
            refine ih (k :: t) z1 l3' l4' _ hlp' hFz ⟨hI, ?_⟩ (by rw [nextP z1 hF1]; exact lkP z1 hF1) hinv
            rw [mkd_cons, hm, if_neg (by decide), mkd_cg (b := pb A R t) (b' := pb A R (k :: t)) (fun x hx => (stP_oth A R _ t k x (ht x hx).2.2.1).1)]
            exact hI2
          · rw [e12, orN_ne (fun v hv => nos.1 k v hv)] at hm
            obtain ⟨v, hv⟩ := Option.ne_none_iff_exists'.mp hm
            obtain ⟨z2, r2, hF2, hIV2⟩ := AP (d + 1) (SC_F hcz' hF1) t r k hlp hI hI2 v hv
            have hF12 := Fz_t hF1 hF2
            have t2 : tg z2 = tg zz := hF12.2.2.1
            exact ⟨z2, r2, by rw [t2]; exact b3, fun l3' l4' hinv => ih (k :: t) z2 l3' l4' _ hlp' (Fz_t hF hF12) hIV2 (by rw [nextP z2 hF12]; exact lkP z2 hF12) hinv⟩
        by_cases ha : A 8 k = 2
        · have h5' : zP zz (cid k) 5 = 0 := by
            rcases b12 with w | w
            · exact w.2
            · rcases w.1 with q | q <;> (rw [q] at ha; exact absurd ha (by decide))
          obtain ⟨z1, r1, hF1, hI, hI2⟩ := RK d hcz' t r k hlp hIV l4 (fun w => absurd ha w)
          obtain ⟨f1, f2⟩ := fin z1 hF1 hI hI2
          have t1 : tg z1 (cid k) = 11 := by rw [show tg z1 = tg zz from hF1.2.2.1]; exact b3
          by_cases hm : zI z1 (cid k) 12 = -100002
          · exact hK 17 _ _ _ ⟨fun c1 => absurd c1 hx0, fun c1 => ⟨b3, ⟨fun c4 => ⟨_, _, r1, ⟨t1, ⟨fun c7 => ⟨t1, f1 hm _ _ inv1⟩, fun c7 => absurd hm c7⟩⟩⟩, fun c4 => absurd h5' c4⟩⟩⟩
          · obtain ⟨z2, r2, t2, g2⟩ := f2 hm
            exact hK 17 _ _ _ ⟨fun c1 => absurd c1 hx0, fun c1 => ⟨b3, ⟨fun c4 => ⟨_, _, r1, ⟨t1, ⟨fun c7 => absurd c7 hm, fun c7 => ⟨_, _, r2, ⟨t2, g2 _ _ inv1⟩⟩⟩⟩⟩, fun c4 => absurd h5' c4⟩⟩⟩
        · have h5' : ¬ zP zz (cid k) 5 = 0 := by
            rcases b12 with w | w
            · exact absurd w.1 ha
            · rw [w.2.2.2.2.1]; omega
          by_cases hday : A 10 k = l3
          · have hl3 : ¬ l3 = -1 := fun e => by
              have := (c13 k hkn).1
              rw [hday, e] at this; exact absurd this (by decide)
            have hnum : l4 = nuP (pb A R t) A t (A 10 k) := by rw [hday]; exact (h34.resolve_left hl3).2
            obtain ⟨z1, r1, hF1, hI, hI2⟩ := RK d hcz' t r k hlp hIV l4 (fun _ => hnum)
            obtain ⟨f1, f2⟩ := fin z1 hF1 hI hI2
            have t1 : tg z1 (cid k) = 11 := by rw [show tg z1 = tg zz from hF1.2.2.1]; exact b3
            have hday' : zI zz (cid k) 4 = l3 := b7.trans hday
            by_cases hm : zI z1 (cid k) 12 = -100002
            · exact hK 17 _ _ _ ⟨fun c1 => absurd c1 hx0, fun c1 => ⟨b3, ⟨fun c4 => absurd c4 h5', fun c4 => ⟨b3, ⟨fun c14 => ⟨_, _, r1, ⟨t1, ⟨fun c7 => ⟨t1, f1 hm _ _ inv1⟩, fun c7 => absurd hm c7⟩⟩⟩, fun c14 => absurd hday' c14⟩⟩⟩⟩⟩
            · obtain ⟨z2, r2, t2, g2⟩ := f2 hm
              exact hK 17 _ _ _ ⟨fun c1 => absurd c1 hx0, fun c1 => ⟨b3, ⟨fun c4 => absurd c4 h5', fun c4 => ⟨b3, ⟨fun c14 => ⟨_, _, r1, ⟨t1, ⟨fun c7 => absurd c7 hm, fun c7 => ⟨_, _, r2, ⟨t2, g2 _ _ inv1⟩⟩⟩⟩⟩, fun c14 => absurd hday' c14⟩⟩⟩⟩⟩
          · have hday' : ¬ zI zz (cid k) 4 = l3 := by rw [b7]; exact hday
            have rn : Rn (d + 5) i_P_numberFor [.ref (34 + p), .int (zI zz (cid k) 4)] zz (some (.int (nuP (pb A R t) A t (A 10 k)))) zz := by
              rw [b7]; exact P_num (d + 2) hcz' t (fun k' hk' => (ht k' hk').2.1) tl hdt hIV (A 10 k)
            obtain ⟨z1, r1, hF1, hI, hI2⟩ := RK d hcz' t r k hlp hIV (nuP (pb A R t) A t (A 10 k)) (fun _ => rfl)
            obtain ⟨f1, f2⟩ := fin z1 hF1 hI hI2
            have t1 : tg z1 (cid k) = 11 := by rw [show tg z1 = tg zz from hF1.2.2.1]; exact b3
            have inv2 : zI zz (cid k) 4 = -1 ∨ ((∃ k', k' ∈ k :: t ∧ A 10 k' = zI zz (cid k) 4) ∧ nuP (pb A R t) A t (A 10 k) = nuP (pb A R (k :: t)) A (k :: t) (zI zz (cid k) 4)) := Or.inr ⟨⟨k, List.mem_cons_self, b7.symm⟩, by rw [b7, nuP_ext A R t k kt _ (Int32.le_refl _)]⟩
            by_cases hm : zI z1 (cid k) 12 = -100002
            · exact hK 17 _ _ _ ⟨fun c1 => absurd c1 hx0, fun c1 => ⟨b3, ⟨fun c4 => absurd c4 h5', fun c4 => ⟨b3, ⟨fun c14 => absurd c14 hday', fun c14 => ⟨b3, ⟨_, _, rn, ⟨_, _, r1, ⟨t1, ⟨fun c7 => ⟨t1, f1 hm _ _ inv2⟩, fun c7 => absurd hm c7⟩⟩⟩⟩⟩⟩⟩⟩⟩⟩
            · obtain ⟨z2, r2, t2, g2⟩ := f2 hm
              exact hK 17 _ _ _ ⟨fun c1 => absurd c1 hx0, fun c1 => ⟨b3, ⟨fun c4 => absurd c4 h5', fun c4 => ⟨b3, ⟨fun c14 => absurd c14 hday', fun c14 => ⟨b3, ⟨_, _, rn, ⟨_, _, r1, ⟨t1, ⟨fun c7 => absurd c7 hm, fun c7 => ⟨_, _, r2, ⟨t2, g2 _ _ inv2⟩⟩⟩⟩⟩⟩⟩⟩⟩⟩⟩⟩
    refine hK 0 _ _ _ ⟨hp, ⟨fun c2 => absurd c2 hst, fun c2 => ⟨⟨hp, Or.inl rfl⟩, ⟨hp, ⟨hp, ?_⟩⟩⟩⟩⟩
    have ep : zP (sP (sI z (34 + p) 2 0) (34 + p) 1 0) (34 + p) 0 = zP z (34 + p) 0 := sP_n (by omega)
    show K 31 [.ref (34 + p), .ref 10, .ref 14, .int (-1), .int 540, .ref (zP (sP (sI z (34 + p) 2 0) (34 + p) 1 0) (34 + p) 0)] [] (sP (sI z (34 + p) 2 0) (34 + p) 1 0)
    rw [ep]
    refine loop lp [] _ _ _ _ rfl ⟨rfl, rfl, rfl, rfl, fun _ _ _ => rfl, fun a j w => sP_n (fun e => w (Or.inl e))⟩ ⟨fun k hk => (by cases hk), ?_, fun i hi => absurd hi (Nat.not_lt_zero _)⟩ (LK_F (z := z) lp _ (fun k hk => (sP_n (by have := h75 k hk; have := hc.1; omega) : zP (sP (sI z (34 + p) 2 0) (34 + p) 1 0) (cid k) 11 = zP (sI z (34 + p) 2 0) (cid k) 11)) hc.2.2.2.2.2.2.2.2.2.2.2.2.2.1) (Or.inl rfl)
    rw [sP_e]; rfl
  obtain ⟨r, z', h, e, h1⟩ := key
  subst e
  exact ⟨z', h, h1⟩
end XSe2
