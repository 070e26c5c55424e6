/-! The runs of the methods. Own work. -/
def rcv (mi : Nat) (av : List Value) (z : ZS) : Prop := match rk mi, av with
  | 0, _ => True
  | 1, .ref x :: _ => ¬ x = 0
  | t + 2, .ref x :: _ => tg z x = t + 2
  | _, _ => False
def okr (mi : Nat) (r : Option Value) : Prop := match rb mi with
  | 0 => True
  | _ => r = some (.int 0) ∨ r = some (.int 1)
/-- method mi, called with av in z, returns r and leaves z', within d frames -/
def Rn : Nat → Nat → List Value → ZS → Option Value → ZS → Prop
  | 0, _, _, _, _, _ => False
  | d + 1, mi, av, z, r, z' => rcv mi av z ∧ okr mi r ∧ Nat.ble (en0 av).length (mx mi) = true ∧ ∀ K : Zk, Sf (Rn d) (tb mi) (fun r1 z1 => r1 = r ∧ z1 = z') K → K 0 (ent (mx mi) av) [] z
theorem rn_i {d mi : Nat} {av : List Value} {z z' : ZS} {r : Option Value} {full : List Ez} (h1 : rcv mi av z) (h2 : okr mi r) (ht : tb mi = full) (H : ∀ K : Zk, Sf (Rn d) full (fun r1 z1 => r1 = r ∧ z1 = z') K → K 0 (ent (mx mi) av) [] z) (h3 : Nat.ble (en0 av).length (mx mi) = true := by rfl) : Rn (d + 1) mi av z r z' := ⟨h1, h2, h3, by rw [ht]; exact H⟩
theorem brs_mono {k k' : Zt → Prop} (h : ∀ s, k s → k' s) : ∀ (l : List (Prop × Zt)) (s : Zt), brs k l s → brs k' l s
  | [], s, H => h s H
  | q :: l, s, H => ⟨fun c => h _ (H.1 c), fun c => brs_mono h l s (H.2 c)⟩
theorem stp_mono {C : Nat → List Value → ZS → Option Value → ZS → Prop} {Q : Option Value → ZS → Prop} {k k' : Zt → Prop} (h : ∀ s, k s → k' s) (a : Za) (H : stp C Q k a) : stp C Q k' a := by
  rcases a with s | ⟨c, s⟩ | ⟨l, s⟩ | ⟨mi, av, s⟩ | ⟨v, z⟩ | u
  · exact h s H
  · exact ⟨H.1, h s H.2⟩
  · exact brs_mono h l s H
  · obtain ⟨r, z', h1, h2⟩ := H
    exact ⟨r, z', h1, h _ h2⟩
  · exact H
  · exact H
theorem brs_ex {α : Type} {k : Zt → Prop} {k' : α → Zt → Prop} {G : α → Prop} (h : ∀ s, k s → ∃ a, G a ∧ k' a s) : ∀ (l : List (Prop × Zt)) (s : Zt), brs k l s → ∃ a, G a ∧ brs (k' a) l s
  | [], s, H => h s H
  | q :: l, s, H => by
    by_cases hq : q.1
    · obtain ⟨a, g, r⟩ := h _ (H.1 hq)
      exact ⟨a, g, fun _ => r, fun n => absurd hq n⟩
    · obtain ⟨a, g, r⟩ := brs_ex h l s (H.2 hq)
      exact ⟨a, g, fun n => absurd n hq, fun _ => r⟩
theorem stp_ex {C : Nat → List Value → ZS → Option Value → ZS → Prop} {Q : Option Value → ZS → Prop} {k : Zt → Prop} {k' : Option Value × ZS → Zt → Prop} (h : ∀ s, k s → ∃ a : Option Value × ZS, Q a.1 a.2 ∧ k' a s) (a : Za) (H : stp C Q k a) : ∃ q : Option Value × ZS, Q q.1 q.2 ∧ stp C (fun r1 z1 => r1 = q.1 ∧ z1 = q.2) (k' q) a := by
  rcases a with s | ⟨c, s⟩ | ⟨l, s⟩ | ⟨mi, av, s⟩ | ⟨v, z⟩ | u
  · exact h s H
  · obtain ⟨q, g, r⟩ := h s H.2
    exact ⟨q, g, H.1, r⟩
  · exact brs_ex h l s H
  · obtain ⟨r, z', h1, h2⟩ := H
    obtain ⟨q, g, r2⟩ := h _ h2
    exact ⟨q, g, r, z', h1, r2⟩
  · exact ⟨(v, z), H, rfl, rfl⟩
  · exact H.elim
/-- where a closed K comes from the start, the method returns with something of Q -/
theorem wq_ex {C : Nat → List Value → ZS → Option Value → ZS → Prop} {full : List Ez} {Q : Option Value → ZS → Prop} : ∀ (n : Nat) (s : Zt), wq C full Q (fun pc ls st z => ∃ q : Option Value × ZS, Q q.1 q.2 ∧ ∀ K : Zk, Sf C full (fun r1 z1 => r1 = q.1 ∧ z1 = q.2) K → K pc ls st z) n s →
    ∃ q : Option Value × ZS, Q q.1 q.2 ∧ ∀ K : Zk, Sf C full (fun r1 z1 => r1 = q.1 ∧ z1 = q.2) K → wq C full (fun r1 z1 => r1 = q.1 ∧ z1 = q.2) K n s
  | 0, (i, ls, st, z), H => by
    unfold wq at H ⊢
    cases hg : gt full i with
    | none => rw [hg] at H; exact H.elim
    | some e => rw [hg] at H; exact H
  | n + 1, (i, ls, st, z), H => by
    unfold wq at H ⊢
    cases hg : gt full i with
    | none => rw [hg] at H; exact H.elim
    | some e =>
      rw [hg] at H
      dsimp only at H ⊢
      cases hc : Nat.beq e.2.1 1 with
      | true => rw [hc] at H; exact H
      | false =>
        rw [hc] at H
        obtain ⟨q, g, r⟩ := stp_ex (k' := fun q s => ∀ K : Zk, Sf C full (fun r1 z1 => r1 = q.1 ∧ z1 = q.2) K → wq C full (fun r1 z1 => r1 = q.1 ∧ z1 = q.2) K n s) (fun s h => wq_ex n s h) _ H
        refine ⟨q, g, fun K hK => ?_⟩
        exact stp_mono (fun s h => h K hK) _ r
/-- method mi returns with something of Q -/
def Rq (d mi : Nat) (av : List Value) (z : ZS) (Q : Option Value → ZS → Prop) : Prop := ∃ (r : Option Value) (z' : ZS), Rn d mi av z r z' ∧ Q r z'
theorem rq_i {d mi : Nat} {av : List Value} {z : ZS} {Q : Option Value → ZS → Prop} {full : List Ez} (h1 : rcv mi av z) (h2 : ∀ r z', Q r z' → okr mi r) (ht : tb mi = full) (H : ∀ K : Zk, Sf (Rn d) full Q K → K 0 (ent (mx mi) av) [] z) (h3 : Nat.ble (en0 av).length (mx mi) = true := by rfl) : Rq (d + 1) mi av z Q := by
  subst ht
  have key : Sf (Rn d) (tb mi) Q (fun pc ls st z => ∃ q : Option Value × ZS, Q q.1 q.2 ∧ ∀ K : Zk, Sf (Rn d) (tb mi) (fun r1 z1 => r1 = q.1 ∧ z1 = q.2) K → K pc ls st z) := by
    intro i ls st z hw
    unfold wp at hw
    cases hg : gt (tb mi) i with
    | none => rw [hg] at hw; exact hw.elim
    | some e =>
      rw [hg] at hw
      obtain ⟨q, g, r⟩ := stp_ex (k' := fun q s => ∀ K : Zk, Sf (Rn d) (tb mi) (fun r1 z1 => r1 = q.1 ∧ z1 = q.2) K → wq (Rn d) (tb mi) (fun r1 z1 => r1 = q.1 ∧ z1 = q.2) K 400 s) (fun s h => wq_ex 400 s h) _ hw
      refine ⟨q, g, fun K hK => hK i ls st z ?_⟩
      unfold wp
      rw [hg]
      exact stp_mono (fun s h => h K hK) _ r
  obtain ⟨q, g, r⟩ := H _ key
  exact ⟨q.1, q.2, ⟨h1, h2 _ _ g, h3, r⟩, g⟩
