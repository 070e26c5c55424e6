/-! The class's appendMarked; what settling keeps. Own work. -/
def NoS (b : Bk) (t : List Nat) : Prop := (∀ x v, b.1 x = some v → ¬ v = -100002) ∧ (∀ x v, b.2.1 x = some v → ¬ v = -100002) ∧ (∀ i, i < (mkd b t).length → ¬ rwL b ((mkd b t).drop i) = -100002)
theorem pb_fr (A : Nat → Nat → Int32) (R : Nat) (x : Nat) : ∀ t : List Nat, ¬ x ∈ t → fr (pb A R t) x
  | [], _ => ⟨rfl, rfl, rfl⟩
  | k :: t, h => by
    have ih := pb_fr A R x t (fun w => h (List.mem_cons_of_mem _ w))
    have ne : x ≠ k := fun e => h (e ▸ List.mem_cons_self)
    show fr (stP A R (pb A R t) t k) x
    have up : ∀ v : Option Int32, fr (va_up (pb A R t).1 k v, (pb A R t).2) x := fun v => by
      refine ⟨?_, ih.2⟩
      show (if x = k then _ else (pb A R t).1 x) = none
      rw [if_neg ne]; exact ih.1
    unfold stP
    split
    · exact ih
    · split
      · exact up _
      · split
        · split
          · exact ih
          · exact up _
        · split
          · exact ih
          · refine jnB_fr _ _ (fun y hy => ?_) ih ne
            unfold wtP at hy
            have w : qV (pb A R t) A k y = true := List.find?_some hy
            exact (of_decide_eq_true w).1
theorem wtP_mem {b : Bk} {A : Nat → Nat → Int32} {t : List Nat} {k o : Nat} (h : wtP b A t k = some o) : o ∈ t := List.mem_reverse.mp (List.mem_of_find?_eq_some h)
/-- a card's derived data -/
def I1 (z : ZS) (cid : Nat → Nat) (A : Nat → Nat → Int32) (b : Bk) (G : Nat → Int32) (k : Nat) : Prop := zI z (cid k) 12 = orN (b.1 k) ∧ zI z (cid k) 13 = orN (b.2.1 k) ∧ zP z (cid k) 14 = idO cid (b.2.2 k) ∧ (¬ A 8 k = 2 → ∀ h, h < lsN A k - fsN A k → zI z (cid k + 2) h = gvF (G k) (A 3 (18 * cN A k + (fsN A k + h))))
/-- the chain of marked cards -/
def I2 (z : ZS) (cid : Nat → Nat) (b : Bk) (pl : Nat) (L : List Nat) : Prop := zP z pl 1 = hdi cid L 0 ∧ ∀ i, i < L.length → zP z (cid (L.getD i 0)) 15 = hdi cid L (i + 1) ∧ zI z (cid (L.getD i 0)) 16 = nI (L.length - i) ∧ zI z (cid (L.getD i 0)) 17 = orN (rawO b (L.drop i))
def IV (z : ZS) (cid : Nat → Nat) (A : Nat → Nat → Int32) (R p : Nat) (t : List Nat) : Prop := (∀ k, k ∈ t → I1 z cid A (pb A R t) (gfP (pb A R t) A t) k) ∧ I2 z cid (pb A R t) (34 + p) (mkd (pb A R t) t)
theorem mkd_mem {b : Bk} {t : List Nat} {x : Nat} : x ∈ mkd b t ↔ x ∈ t ∧ (b.1 x).isSome = true := List.mem_filter
theorem IV_CH {z : ZS} {cid : Nat → Nat} {A : Nat → Nat → Int32} {n R p : Nat} {t : List Nat} (hB : CB z cid A n) (ht : ∀ k, k ∈ t → k < n) (h : IV z cid A R p t) : CH z cid (pb A R t) (A 10) (mkd (pb A R t) t) ∧ CHr z cid (pb A R t) (mkd (pb A R t) t) := by
  refine ⟨fun i hi => ?_, fun i hi => (h.2.2 i hi).2.2⟩
  obtain ⟨m1, m2⟩ := mkd_mem.mp (gd_mem (mkd (pb A R t) t) i hi)
  obtain ⟨b1, b2, b3, b4, b5, b6, b7, b8, _⟩ := hB.1 _ (ht _ m1)
  obtain ⟨a1, a2, _⟩ := h.2.2 i hi
  refine ⟨b3, by omega, b4, b7, ?_, a1, a2⟩
  rw [(h.1 _ m1).1]
  obtain ⟨v, hv⟩ := Option.isSome_iff_exists.mp m2
  unfold mv
  rw [hv]; rfl
theorem P_appendMarked (d : Nat) (z : ZS) (pl x : Nat) (cid : Nat → Nat) (b : Bk) (D : Nat → Int32) (k : Nat) (L : List Nat) (hp : tg z pl = 13) (hk : cid k = x) (hx : tg z x = 11) (hx75 : 75 ≤ x) (lm : zP z pl 1 = hdi cid L 0) (hC : CH (sI (sP z x 15 (hdi cid L 0)) x 16 (nI (L.length + 1))) cid b D (k :: L)) (hL : 0 < L.length → tg z (cid (L.getD 0 0)) = 11 ∧ zI z (cid (L.getD 0 0)) 16 = nI L.length ∧ ¬ cid (L.getD 0 0) = 0) (hT : BT z) (hS : ST z) (h60 : L.length + 1 ≤ 60) : ∃ (q : Int32) (M N : Nat → Int32), Rn (d + 4) i_P_appendMarked [.ref pl, .ref x, .ref 14] z none (sP (sI (bz (sI (sP z x 15 (hdi cid L 0)) x 16 (nI (L.length + 1))) q M N) x 17 (orN (rawO b (k :: L)))) pl 1 x) := by
  have plx : pl ≠ x := fun e => by rw [e, hx] at hp; cases hp
  have hT' : BT (sI (sP z x 15 (hdi cid L 0)) x 16 (nI (L.length + 1))) := by
    obtain ⟨t1, t2, t3, t4, t5⟩ := hT
    refine ⟨t1, ?_, ?_, t4, t5⟩
    · show (if 14 = x ∧ 0 = 15 then _ else zP z 14 0) = 15
      rw [if_neg (by omega)]; exact t2
    · show (if 14 = x ∧ 1 = 15 then _ else zP z 14 1) = 16
      rw [if_neg (by omega)]; exact t3
  have hS' : ST (sI (sP z x 15 (hdi cid L 0)) x 16 (nI (L.length + 1))) := by
    obtain ⟨⟨s1, s2, s3⟩, s4, s5, s6⟩ := hS
    refine ⟨⟨s1, s2, fun j hj => ?_⟩, s4, s5, fun j hj => ?_⟩
    · show (if 2 = x ∧ j = 16 then _ else zI z 2 j) = _
      rw [if_neg (by omega)]; exact s3 j hj
    · show (if 3 = x ∧ j = 16 then _ else zI z 3 j) = _
      rw [if_neg (by omega)]; exact s6 j hj
  obtain ⟨q, M, N, r⟩ := B_rawTo d (sI (sP z x 15 (hdi cid L 0)) x 16 (nI (L.length + 1))) cid b D (k :: L) hT' hS' hC (by simpa using h60) (by simp) (zI (sI (sP z x 15 (hdi cid L 0)) x 16 (nI (L.length + 1))) 14 2) (zI (sI (sP z x 15 (hdi cid L 0)) x 16 (nI (L.length + 1))) 15) (zI (sI (sP z x 15 (hdi cid L 0)) x 16 (nI (L.length + 1))) 16)
  rw [bz_id, show hdi cid (k :: L) 0 = x by unfold hdi; rw [if_pos (by simp)]; exact hk] at r
  refine ⟨q, M, N, ?_⟩
  have e1 : zP (sP z x 15 (zP z pl 1)) pl 1 = hdi cid L 0 := by
    show (if pl = x ∧ 1 = 15 then _ else zP z pl 1) = _
    rw [if_neg (fun w => plx w.1)]; exact lm
  by_cases h0 : L.length = 0
  · have eh : hdi cid L 0 = 0 := by unfold hdi; rw [if_neg (by omega)]
    have r' : Rn (d + 3) i_B_rawTo [.ref 14, .ref x] (sI (sP z x 15 (zP z pl 1)) x 16 1) (some (.int (orN (rawO b (k :: L))))) (bz (sI (sP z x 15 (hdi cid L 0)) x 16 (nI (L.length + 1))) q M N) := by
      rw [lm]
      rw [h0] at r
      rw [h0]; exact r
    exact rn_i (full := cd_44) hp (ok_n rfl) rfl (fun K hK => hK 0 _ _ _ ⟨hp, ⟨hx, ⟨hp, ⟨fun c4 => ⟨hx, ⟨_, _, r', ⟨hx, ⟨hp, ⟨rfl, rfl⟩⟩⟩⟩⟩, fun c4 => absurd (e1.trans eh) c4⟩⟩⟩⟩)
  · obtain ⟨l1, l2, l3⟩ := hL (by omega)
    have eh : hdi cid L 0 = cid (L.getD 0 0) := by unfold hdi; rw [if_pos (by omega)]
    have r' : Rn (d + 3) i_B_rawTo [.ref 14, .ref x] (sI (sP z x 15 (zP z pl 1)) x 16 (zI (sP z x 15 (zP z pl 1)) (zP (sP z x 15 (zP z pl 1)) pl 1) 16 + 1)) (some (.int (orN (rawO b (k :: L))))) (bz (sI (sP z x 15 (hdi cid L 0)) x 16 (nI (L.length + 1))) q M N) := by
      rw [e1, lm]
      have e16 : zI (sP z x 15 (hdi cid L 0)) (hdi cid L 0) 16 + 1 = nI (L.length + 1) := by
        show zI z (hdi cid L 0) 16 + 1 = _
        rw [eh, l2, nI_succ]
      rw [e16]; exact r
    have t1 : tg z (zP (sP z x 15 (zP z pl 1)) pl 1) = 11 := by rw [e1, eh]; exact l1
    exact rn_i (full := cd_44) hp (ok_n rfl) rfl (fun K hK => hK 0 _ _ _ ⟨hp, ⟨hx, ⟨hp, ⟨fun c4 => absurd ((e1.trans eh).symm.trans c4) l3, fun c4 => ⟨hp, ⟨t1, ⟨hx, ⟨_, _, r', ⟨hx, ⟨hp, ⟨rfl, rfl⟩⟩⟩⟩⟩⟩⟩⟩⟩⟩⟩)
section XFin
variable {z : ZS} {cid : Nat → Nat} {A : Nat → Nat → Int32} {n : Nat} {lp : List Nat}
theorem RK_fin (hS : SPC cid A n) {k : Nat} (hk : k < n) {t : List Nat} (ht : ∀ k', k' ∈ t → k' < n ∧ k' ≠ k) {b b' : Bk} {G G' : Nat → Int32} {M H : Int32} {T o y : Nat} {F : Nat → Int32} (hM : M = orN (b'.1 k)) (hH : H = orN (b'.2.1 k)) (hT : T = idO cid (b'.2.2 k)) (hy : (A 8 k = 2 ∧ y = cid k) ∨ (¬ A 8 k = 2 ∧ y = cid k + 2 ∧ ∀ h, h < lsN A k - fsN A k → F h = gvF (G' k) (A 3 (18 * cN A k + (fsN A k + h))))) (hold : ∀ k', k' ∈ t → I1 z cid A b G k') (h1 : ∀ k', k' ∈ t → b'.1 k' = b.1 k' ∧ b'.2.1 k' = b.2.1 k' ∧ G' k' = G k') (h2 : ∀ k', k' ∈ t → idO cid (b'.2.2 k') = if cid k' = o then cid k else idO cid (b.2.2 k')) : ∀ k', k' ∈ k :: t → I1 (rkz z (cid k) M H T o y F) cid A b' G' k' := by
  intro k' hk'
  rcases List.mem_cons.mp hk' with e | e
  · subst e
    refine ⟨by rw [rk_12]; exact hM, by rw [rk_13]; exact hH, by rw [rk_14]; exact hT, fun w h hh => ?_⟩
    rcases hy with q | ⟨q1, q2, q3⟩
    · exact absurd q.1 w
    · rw [← q2, rk_y z (cid k') M H T o y F (by omega)]; exact q3 h hh
  · obtain ⟨t1, t2⟩ := ht k' e
    obtain ⟨s1, s2⟩ := sp_ne hS t1 hk t2
    have ny : cid k' ≠ y := by
      rcases hy with q | q
      · rw [q.2]; exact s1
      · rw [q.2.1]; exact (s2 q.1).2.1
    obtain ⟨a1, a2, a3, a4⟩ := hold k' e
    obtain ⟨c1, c2, c3⟩ := h1 k' e
    refine ⟨by rw [rk_c z _ M H T o y F s1 ny, c1]; exact a1, by rw [rk_c z _ M H T o y F s1 ny, c2]; exact a2, ?_, fun w h hh => ?_⟩
    · rw [h2 k' e, ← a3]
      show (if cid k' = cid k ∧ 14 = 14 then T else if cid k' = o ∧ 14 = 14 then cid k else zP z (cid k') 14) = _
      rw [if_neg (fun w => s1 w.1)]
      by_cases e2 : cid k' = o
      · rw [if_pos ⟨e2, rfl⟩, if_pos e2]
      · rw [if_neg (fun w => e2 w.1), if_neg e2]
    · have n1 : cid k' + 2 ≠ cid k := fun q => ((sp_ne hS hk t1 (Ne.symm t2)).2 w).2.1 q.symm
      have n2 : cid k' + 2 ≠ y := by
        rcases hy with q | q
        · rw [q.2]; exact n1
        · rw [q.2.1]; exact ((s2 q.1).2.2 w).2.1
      rw [rk_c z _ M H T o y F n1 n2, c3]; exact a4 w h hh
theorem I2_rk (hS : SPC cid A n) {k : Nat} (hk : k < n) {b b' : Bk} {pl : Nat} {L : List Nat} (hL : ∀ k', k' ∈ L → k' < n ∧ k' ≠ k ∧ b'.1 k' = b.1 k') {M H : Int32} {T o y : Nat} {F : Nat → Int32} (hy : (A 8 k = 2 ∧ y = cid k) ∨ (¬ A 8 k = 2 ∧ y = cid k + 2)) (h : I2 z cid b pl L) : I2 (rkz z (cid k) M H T o y F) cid b' pl L := by
  refine ⟨by rw [rk_P z _ M H T o y F pl (by decide)]; exact h.1, fun i hi => ?_⟩
  obtain ⟨a1, a2, a3⟩ := h.2 i hi
  obtain ⟨l1, l2, l3⟩ := hL _ (gd_mem L i hi)
  obtain ⟨s1, s2⟩ := sp_ne hS l1 hk l2
  have ny : cid (L.getD i 0) ≠ y := by
    rcases hy with q | q
    · rw [q.2]; exact s1
    · rw [q.2]; exact (s2 q.1).2.1
  rw [rk_P z _ M H T o y F _ (by decide), rk_c z _ M H T o y F s1 ny, rk_c z _ M H T o y F s1 ny, rawO_cg (b := b) (b' := b') (fun x hx => (hL x (List.mem_of_mem_drop hx)).2.2)]
  exact ⟨a1, a2, a3⟩
end XFin
