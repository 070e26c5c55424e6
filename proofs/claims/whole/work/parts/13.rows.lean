section Sound
variable {κ : KP} {p : Program} {l : Launch} {e : Env} {R : Room} {s : State} {m : MethodId} {args : Array Value} {below : List Frame} {meth : Method} {c : Code} {nL : Nat} {Q : State → Prop} {z0 zF : ZS}
variable {cc : ByteArray} {own : String} {full : List Ez} {d : Nat} {Rt : Option Value → ZS → Prop} {ini : Bool}
variable {pI pA pV : Prop} {kk : Zt → Prop} {pc cut a b w nxt : Nat} {cv : Value} {ls st : List Value} {z : ZS}
set_option maxHeartbeats 400000 in
theorem st_iload_n {k : Fin 4} (X : HX κ p l e R s m args below meth c nL Q z0 zF cc own full d Rt ini pI pA pV) (hd : decode cc pc = .ok ((.iload_n k), lnI (.iload_n k) b)) (hx1 : vX own full nL ini (pc, cut, (.iload_n k), a, b, cv, w, nxt) = true) (hn0 : vN full (pc, cut, (.iload_n k), a, b, cv, w, nxt) = true) (hrI : ((.iload_n k) : Instr) = .ireturn → pI) (hrA : ((.iload_n k) : Instr) = .areturn → pA) (hrV : ((.iload_n k) : Instr) = .return_ → pV) (hkk : ∀ i ls st z, kk (i, ls, st, z) → GG κ p l e R s m args below meth c nL Q z0 zF (pcA full i) ls st z) (hkb : ∀ ls st z, ¬ kk (99999, ls, st, z)) (H : stp (Rn d) Rt kk (nx full (pc, cut, (.iload_n k), a, b, cv, w, nxt) nxt ls st z)) : GG κ p l e R s m args below meth c nL Q z0 zF pc ls st z := by
  obtain ⟨hx, hb, hml, hown, hts, hG, hR1, hR2, hfr, hlo, hC, hini, hRz, hRi, hRa, hRv⟩ := X
  try dsimp only [vX] at hx1
  have hn : pcA full nxt = pc + 1 := of_decide_eq_true hn0
  clear hn0
  dsimp only [nx] at H
  split at H
  · rename_i x hq
    have hk := hkk _ _ _ _ H
    rw [hn] at hk
    replace hx1 : k.val = a := of_decide_eq_true hx1
    exact gg1 hk (fun H locs lsA _ _ hH hS hL k2 => lv_iload_n hx hb hd hx1 (hL.at hq (by intro h; cases h)) (k2 lsA hL))
  · exact False.elim H
set_option maxHeartbeats 400000 in
theorem st_aload_n {k : Fin 4} (X : HX κ p l e R s m args below meth c nL Q z0 zF cc own full d Rt ini pI pA pV) (hd : decode cc pc = .ok ((.aload_n k), lnI (.aload_n k) b)) (hx1 : vX own full nL ini (pc, cut, (.aload_n k), a, b, cv, w, nxt) = true) (hn0 : vN full (pc, cut, (.aload_n k), a, b, cv, w, nxt) = true) (hrI : ((.aload_n k) : Instr) = .ireturn → pI) (hrA : ((.aload_n k) : Instr) = .areturn → pA) (hrV : ((.aload_n k) : Instr) = .return_ → pV) (hkk : ∀ i ls st z, kk (i, ls, st, z) → GG κ p l e R s m args below meth c nL Q z0 zF (pcA full i) ls st z) (hkb : ∀ ls st z, ¬ kk (99999, ls, st, z)) (H : stp (Rn d) Rt kk (nx full (pc, cut, (.aload_n k), a, b, cv, w, nxt) nxt ls st z)) : GG κ p l e R s m args below meth c nL Q z0 zF pc ls st z := by
  obtain ⟨hx, hb, hml, hown, hts, hG, hR1, hR2, hfr, hlo, hC, hini, hRz, hRi, hRa, hRv⟩ := X
  try dsimp only [vX] at hx1
  have hn : pcA full nxt = pc + 1 := of_decide_eq_true hn0
  clear hn0
  dsimp only [nx] at H
  split at H
  · rename_i x hq
    have hk := hkk _ _ _ _ H
    rw [hn] at hk
    replace hx1 : k.val = a := of_decide_eq_true hx1
    refine gg1 hk (fun H locs lsA _ _ hH hS hL k2 => ?_)
    have hl := hL.at hq (by intro h; cases h)
    by_cases h0 : x = 0
    · subst h0
      exact lv_aload_nN hx hb hd hx1 hl (k2 lsA hL)
    · rw [tr_ref h0] at hl
      refine lv_aload_n hx hb hd hx1 hl ?_
      rw [← tr_ref h0]
      exact k2 lsA hL
  · exact False.elim H
set_option maxHeartbeats 400000 in
theorem st_lload_n {k : Fin 4} (X : HX κ p l e R s m args below meth c nL Q z0 zF cc own full d Rt ini pI pA pV) (hd : decode cc pc = .ok ((.lload_n k), lnI (.lload_n k) b)) (hx1 : vX own full nL ini (pc, cut, (.lload_n k), a, b, cv, w, nxt) = true) (hn0 : vN full (pc, cut, (.lload_n k), a, b, cv, w, nxt) = true) (hrI : ((.lload_n k) : Instr) = .ireturn → pI) (hrA : ((.lload_n k) : Instr) = .areturn → pA) (hrV : ((.lload_n k) : Instr) = .return_ → pV) (hkk : ∀ i ls st z, kk (i, ls, st, z) → GG κ p l e R s m args below meth c nL Q z0 zF (pcA full i) ls st z) (hkb : ∀ ls st z, ¬ kk (99999, ls, st, z)) (H : stp (Rn d) Rt kk (nx full (pc, cut, (.lload_n k), a, b, cv, w, nxt) nxt ls st z)) : GG κ p l e R s m args below meth c nL Q z0 zF pc ls st z := by
  obtain ⟨hx, hb, hml, hown, hts, hG, hR1, hR2, hfr, hlo, hC, hini, hRz, hRi, hRa, hRv⟩ := X
  try dsimp only [vX] at hx1
  have hn : pcA full nxt = pc + 1 := of_decide_eq_true hn0
  clear hn0
  dsimp only [nx] at H
  split at H
  · rename_i x hq
    have hk := hkk _ _ _ _ H
    rw [hn] at hk
    replace hx1 : k.val = a := of_decide_eq_true hx1
    exact gg1 hk (fun H locs lsA _ _ hH hS hL k2 => lv_lload_n hx hb hd hx1 (hL.at hq (by intro h; cases h)) (k2 lsA hL))
  · exact False.elim H
set_option maxHeartbeats 400000 in
theorem st_iload {k : Nat} (X : HX κ p l e R s m args below meth c nL Q z0 zF cc own full d Rt ini pI pA pV) (hd : decode cc pc = .ok ((.iload k), lnI (.iload k) b)) (hx1 : vX own full nL ini (pc, cut, (.iload k), a, b, cv, w, nxt) = true) (hn0 : vN full (pc, cut, (.iload k), a, b, cv, w, nxt) = true) (hrI : ((.iload k) : Instr) = .ireturn → pI) (hrA : ((.iload k) : Instr) = .areturn → pA) (hrV : ((.iload k) : Instr) = .return_ → pV) (hkk : ∀ i ls st z, kk (i, ls, st, z) → GG κ p l e R s m args below meth c nL Q z0 zF (pcA full i) ls st z) (hkb : ∀ ls st z, ¬ kk (99999, ls, st, z)) (H : stp (Rn d) Rt kk (nx full (pc, cut, (.iload k), a, b, cv, w, nxt) nxt ls st z)) : GG κ p l e R s m args below meth c nL Q z0 zF pc ls st z := by
  obtain ⟨hx, hb, hml, hown, hts, hG, hR1, hR2, hfr, hlo, hC, hini, hRz, hRi, hRa, hRv⟩ := X
  try dsimp only [vX] at hx1
  have hn : pcA full nxt = pc + 2 := of_decide_eq_true hn0
  clear hn0
  dsimp only [nx] at H
  split at H
  · rename_i x hq
    have hk := hkk _ _ _ _ H
    rw [hn] at hk
    replace hx1 : k = a := of_decide_eq_true hx1
    subst hx1
    exact gg1 hk (fun H locs lsA _ _ hH hS hL k2 => lv_iload hx hb hd (hL.at hq (by intro h; cases h)) (k2 lsA hL))
  · exact False.elim H
set_option maxHeartbeats 400000 in
theorem st_aload {k : Nat} (X : HX κ p l e R s m args below meth c nL Q z0 zF cc own full d Rt ini pI pA pV) (hd : decode cc pc = .ok ((.aload k), lnI (.aload k) b)) (hx1 : vX own full nL ini (pc, cut, (.aload k), a, b, cv, w, nxt) = true) (hn0 : vN full (pc, cut, (.aload k), a, b, cv, w, nxt) = true) (hrI : ((.aload k) : Instr) = .ireturn → pI) (hrA : ((.aload k) : Instr) = .areturn → pA) (hrV : ((.aload k) : Instr) = .return_ → pV) (hkk : ∀ i ls st z, kk (i, ls, st, z) → GG κ p l e R s m args below meth c nL Q z0 zF (pcA full i) ls st z) (hkb : ∀ ls st z, ¬ kk (99999, ls, st, z)) (H : stp (Rn d) Rt kk (nx full (pc, cut, (.aload k), a, b, cv, w, nxt) nxt ls st z)) : GG κ p l e R s m args below meth c nL Q z0 zF pc ls st z := by
  obtain ⟨hx, hb, hml, hown, hts, hG, hR1, hR2, hfr, hlo, hC, hini, hRz, hRi, hRa, hRv⟩ := X
  try dsimp only [vX] at hx1
  have hn : pcA full nxt = pc + 2 := of_decide_eq_true hn0
  clear hn0
  dsimp only [nx] at H
  split at H
  · rename_i x hq
    have hk := hkk _ _ _ _ H
    rw [hn] at hk
    replace hx1 : k = a := of_decide_eq_true hx1
    subst hx1
    refine gg1 hk (fun H locs lsA _ _ hH hS hL k2 => ?_)
    have hl := hL.at hq (by intro h; cases h)
    by_cases h0 : x = 0
    · subst h0
      exact lv_aloadN hx hb hd hl (k2 lsA hL)
    · rw [tr_ref h0] at hl
      refine lv_aload hx hb hd hl ?_
      rw [← tr_ref h0]
      exact k2 lsA hL
  · exact False.elim H
set_option maxHeartbeats 400000 in
theorem st_istore_n {k : Fin 4} (X : HX κ p l e R s m args below meth c nL Q z0 zF cc own full d Rt ini pI pA pV) (hd : decode cc pc = .ok ((.istore_n k), lnI (.istore_n k) b)) (hx1 : vX own full nL ini (pc, cut, (.istore_n k), a, b, cv, w, nxt) = true) (hn0 : vN full (pc, cut, (.istore_n k), a, b, cv, w, nxt) = true) (hrI : ((.istore_n k) : Instr) = .ireturn → pI) (hrA : ((.istore_n k) : Instr) = .areturn → pA) (hrV : ((.istore_n k) : Instr) = .return_ → pV) (hkk : ∀ i ls st z, kk (i, ls, st, z) → GG κ p l e R s m args below meth c nL Q z0 zF (pcA full i) ls st z) (hkb : ∀ ls st z, ¬ kk (99999, ls, st, z)) (H : stp (Rn d) Rt kk (nx full (pc, cut, (.istore_n k), a, b, cv, w, nxt) nxt ls st z)) : GG κ p l e R s m args below meth c nL Q z0 zF pc ls st z := by
  obtain ⟨hx, hb, hml, hown, hts, hG, hR1, hR2, hfr, hlo, hC, hini, hRz, hRi, hRa, hRv⟩ := X
  try dsimp only [vX] at hx1
  have hn : pcA full nxt = pc + 1 := of_decide_eq_true hn0
  clear hn0
  dsimp only [nx] at H
  split at H
  · rename_i x st
    obtain ⟨ha, hl⟩ := of_decide_eq_true hx1
    exact gg_sto hkk hn hl H (fun H locs lsA _ _ hL k2 => lv_istore_n hx hb hd ha hL.has hl rfl k2)
  · exact False.elim H
set_option maxHeartbeats 400000 in
theorem st_istore {k : Nat} (X : HX κ p l e R s m args below meth c nL Q z0 zF cc own full d Rt ini pI pA pV) (hd : decode cc pc = .ok ((.istore k), lnI (.istore k) b)) (hx1 : vX own full nL ini (pc, cut, (.istore k), a, b, cv, w, nxt) = true) (hn0 : vN full (pc, cut, (.istore k), a, b, cv, w, nxt) = true) (hrI : ((.istore k) : Instr) = .ireturn → pI) (hrA : ((.istore k) : Instr) = .areturn → pA) (hrV : ((.istore k) : Instr) = .return_ → pV) (hkk : ∀ i ls st z, kk (i, ls, st, z) → GG κ p l e R s m args below meth c nL Q z0 zF (pcA full i) ls st z) (hkb : ∀ ls st z, ¬ kk (99999, ls, st, z)) (H : stp (Rn d) Rt kk (nx full (pc, cut, (.istore k), a, b, cv, w, nxt) nxt ls st z)) : GG κ p l e R s m args below meth c nL Q z0 zF pc ls st z := by
  obtain ⟨hx, hb, hml, hown, hts, hG, hR1, hR2, hfr, hlo, hC, hini, hRz, hRi, hRa, hRv⟩ := X
  try dsimp only [vX] at hx1
  have hn : pcA full nxt = pc + 2 := of_decide_eq_true hn0
  clear hn0
  dsimp only [nx] at H
  split at H
  · rename_i x st
    obtain ⟨ha, hl⟩ := of_decide_eq_true hx1
    subst ha
    exact gg_sto hkk hn hl H (fun H locs lsA _ _ hL k2 => lv_istore hx hb hd hL.has hl rfl k2)
  · exact False.elim H
set_option maxHeartbeats 400000 in
theorem st_astore_n {k : Fin 4} (X : HX κ p l e R s m args below meth c nL Q z0 zF cc own full d Rt ini pI pA pV) (hd : decode cc pc = .ok ((.astore_n k), lnI (.astore_n k) b)) (hx1 : vX own full nL ini (pc, cut, (.astore_n k), a, b, cv, w, nxt) = true) (hn0 : vN full (pc, cut, (.astore_n k), a, b, cv, w, nxt) = true) (hrI : ((.astore_n k) : Instr) = .ireturn → pI) (hrA : ((.astore_n k) : Instr) = .areturn → pA) (hrV : ((.astore_n k) : Instr) = .return_ → pV) (hkk : ∀ i ls st z, kk (i, ls, st, z) → GG κ p l e R s m args below meth c nL Q z0 zF (pcA full i) ls st z) (hkb : ∀ ls st z, ¬ kk (99999, ls, st, z)) (H : stp (Rn d) Rt kk (nx full (pc, cut, (.astore_n k), a, b, cv, w, nxt) nxt ls st z)) : GG κ p l e R s m args below meth c nL Q z0 zF pc ls st z := by
  obtain ⟨hx, hb, hml, hown, hts, hG, hR1, hR2, hfr, hlo, hC, hini, hRz, hRi, hRa, hRv⟩ := X
  try dsimp only [vX] at hx1
  have hn : pcA full nxt = pc + 1 := of_decide_eq_true hn0
  clear hn0
  dsimp only [nx] at H
  split at H
  · rename_i x st
    obtain ⟨ha, hl⟩ := of_decide_eq_true hx1
    refine gg_sto hkk hn hl H (fun H locs lsA _ _ hL k2 => ?_)
    by_cases h0 : x = 0
    · subst h0
      exact lv_astore_nN hx hb hd ha hL.has hl rfl k2
    · rw [tr_ref h0] at k2
      rw [List.map_cons, tr_ref h0]
      exact lv_astore_n hx hb hd ha hL.has hl rfl k2
  · exact False.elim H
set_option maxHeartbeats 400000 in
theorem st_astore {k : Nat} (X : HX κ p l e R s m args below meth c nL Q z0 zF cc own full d Rt ini pI pA pV) (hd : decode cc pc = .ok ((.astore k), lnI (.astore k) b)) (hx1 : vX own full nL ini (pc, cut, (.astore k), a, b, cv, w, nxt) = true) (hn0 : vN full (pc, cut, (.astore k), a, b, cv, w, nxt) = true) (hrI : ((.astore k) : Instr) = .ireturn → pI) (hrA : ((.astore k) : Instr) = .areturn → pA) (hrV : ((.astore k) : Instr) = .return_ → pV) (hkk : ∀ i ls st z, kk (i, ls, st, z) → GG κ p l e R s m args below meth c nL Q z0 zF (pcA full i) ls st z) (hkb : ∀ ls st z, ¬ kk (99999, ls, st, z)) (H : stp (Rn d) Rt kk (nx full (pc, cut, (.astore k), a, b, cv, w, nxt) nxt ls st z)) : GG κ p l e R s m args below meth c nL Q z0 zF pc ls st z := by
  obtain ⟨hx, hb, hml, hown, hts, hG, hR1, hR2, hfr, hlo, hC, hini, hRz, hRi, hRa, hRv⟩ := X
  try dsimp only [vX] at hx1
  have hn : pcA full nxt = pc + 2 := of_decide_eq_true hn0
  clear hn0
  dsimp only [nx] at H
  split at H
  · rename_i x st
    obtain ⟨ha, hl⟩ := of_decide_eq_true hx1
    subst ha
    refine gg_sto hkk hn hl H (fun H locs lsA _ _ hL k2 => ?_)
    by_cases h0 : x = 0
    · subst h0
      exact lv_astoreN hx hb hd hL.has hl rfl k2
    · rw [tr_ref h0] at k2
      rw [List.map_cons, tr_ref h0]
      exact lv_astore hx hb hd hL.has hl rfl k2
  · exact False.elim H
set_option maxHeartbeats 400000 in
theorem st_iconst {n : Int} (X : HX κ p l e R s m args below meth c nL Q z0 zF cc own full d Rt ini pI pA pV) (hd : decode cc pc = .ok ((.iconst n), lnI (.iconst n) b)) (hx1 : vX own full nL ini (pc, cut, (.iconst n), a, b, cv, w, nxt) = true) (hn0 : vN full (pc, cut, (.iconst n), a, b, cv, w, nxt) = true) (hrI : ((.iconst n) : Instr) = .ireturn → pI) (hrA : ((.iconst n) : Instr) = .areturn → pA) (hrV : ((.iconst n) : Instr) = .return_ → pV) (hkk : ∀ i ls st z, kk (i, ls, st, z) → GG κ p l e R s m args below meth c nL Q z0 zF (pcA full i) ls st z) (hkb : ∀ ls st z, ¬ kk (99999, ls, st, z)) (H : stp (Rn d) Rt kk (nx full (pc, cut, (.iconst n), a, b, cv, w, nxt) nxt ls st z)) : GG κ p l e R s m args below meth c nL Q z0 zF pc ls st z := by
  obtain ⟨hx, hb, hml, hown, hts, hG, hR1, hR2, hfr, hlo, hC, hini, hRz, hRi, hRa, hRv⟩ := X
  try dsimp only [vX] at hx1
  have hn : pcA full nxt = pc + 1 := of_decide_eq_true hn0
  clear hn0
  replace hx1 := of_decide_eq_true hx1
  subst hx1
  have hk := hkk _ _ _ _ H
  rw [hn] at hk
  exact gg1 hk (fun H locs lsA _ _ hH hS hL k => lv_iconst hx hb hd rfl (k lsA hL))
set_option maxHeartbeats 400000 in
theorem st_bipush {n : Int} (X : HX κ p l e R s m args below meth c nL Q z0 zF cc own full d Rt ini pI pA pV) (hd : decode cc pc = .ok ((.bipush n), lnI (.bipush n) b)) (hx1 : vX own full nL ini (pc, cut, (.bipush n), a, b, cv, w, nxt) = true) (hn0 : vN full (pc, cut, (.bipush n), a, b, cv, w, nxt) = true) (hrI : ((.bipush n) : Instr) = .ireturn → pI) (hrA : ((.bipush n) : Instr) = .areturn → pA) (hrV : ((.bipush n) : Instr) = .return_ → pV) (hkk : ∀ i ls st z, kk (i, ls, st, z) → GG κ p l e R s m args below meth c nL Q z0 zF (pcA full i) ls st z) (hkb : ∀ ls st z, ¬ kk (99999, ls, st, z)) (H : stp (Rn d) Rt kk (nx full (pc, cut, (.bipush n), a, b, cv, w, nxt) nxt ls st z)) : GG κ p l e R s m args below meth c nL Q z0 zF pc ls st z := by
  obtain ⟨hx, hb, hml, hown, hts, hG, hR1, hR2, hfr, hlo, hC, hini, hRz, hRi, hRa, hRv⟩ := X
  try dsimp only [vX] at hx1
  have hn : pcA full nxt = pc + 2 := of_decide_eq_true hn0
  clear hn0
  replace hx1 := of_decide_eq_true hx1
  subst hx1
  have hk := hkk _ _ _ _ H
  rw [hn] at hk
  exact gg1 hk (fun H locs lsA _ _ hH hS hL k => lv_bipush hx hb hd rfl (k lsA hL))
set_option maxHeartbeats 400000 in
theorem st_sipush {n : Int} (X : HX κ p l e R s m args below meth c nL Q z0 zF cc own full d Rt ini pI pA pV) (hd : decode cc pc = .ok ((.sipush n), lnI (.sipush n) b)) (hx1 : vX own full nL ini (pc, cut, (.sipush n), a, b, cv, w, nxt) = true) (hn0 : vN full (pc, cut, (.sipush n), a, b, cv, w, nxt) = true) (hrI : ((.sipush n) : Instr) = .ireturn → pI) (hrA : ((.sipush n) : Instr) = .areturn → pA) (hrV : ((.sipush n) : Instr) = .return_ → pV) (hkk : ∀ i ls st z, kk (i, ls, st, z) → GG κ p l e R s m args below meth c nL Q z0 zF (pcA full i) ls st z) (hkb : ∀ ls st z, ¬ kk (99999, ls, st, z)) (H : stp (Rn d) Rt kk (nx full (pc, cut, (.sipush n), a, b, cv, w, nxt) nxt ls st z)) : GG κ p l e R s m args below meth c nL Q z0 zF pc ls st z := by
  obtain ⟨hx, hb, hml, hown, hts, hG, hR1, hR2, hfr, hlo, hC, hini, hRz, hRi, hRa, hRv⟩ := X
  try dsimp only [vX] at hx1
  have hn : pcA full nxt = pc + 3 := of_decide_eq_true hn0
  clear hn0
  replace hx1 := of_decide_eq_true hx1
  subst hx1
  have hk := hkk _ _ _ _ H
  rw [hn] at hk
  exact gg1 hk (fun H locs lsA _ _ hH hS hL k => lv_sipush hx hb hd rfl (k lsA hL))
set_option maxHeartbeats 400000 in
theorem st_ldc {n : Nat} (X : HX κ p l e R s m args below meth c nL Q z0 zF cc own full d Rt ini pI pA pV) (hd : decode cc pc = .ok ((.ldc n), lnI (.ldc n) b)) (hx1 : vX own full nL ini (pc, cut, (.ldc n), a, b, cv, w, nxt) = true) (hn0 : vN full (pc, cut, (.ldc n), a, b, cv, w, nxt) = true) (hrI : ((.ldc n) : Instr) = .ireturn → pI) (hrA : ((.ldc n) : Instr) = .areturn → pA) (hrV : ((.ldc n) : Instr) = .return_ → pV) (hkk : ∀ i ls st z, kk (i, ls, st, z) → GG κ p l e R s m args below meth c nL Q z0 zF (pcA full i) ls st z) (hkb : ∀ ls st z, ¬ kk (99999, ls, st, z)) (H : stp (Rn d) Rt kk (nx full (pc, cut, (.ldc n), a, b, cv, w, nxt) nxt ls st z)) : GG κ p l e R s m args below meth c nL Q z0 zF pc ls st z := by
  obtain ⟨hx, hb, hml, hown, hts, hG, hR1, hR2, hfr, hlo, hC, hini, hRz, hRi, hRa, hRv⟩ := X
  try dsimp only [vX] at hx1
  have hn : pcA full nxt = pc + 2 := of_decide_eq_true hn0
  clear hn0
  split at hx1
  · have hk := hkk _ _ _ _ H
    rw [hn] at hk
    exact gg1 hk (fun H locs lsA _ _ hH hS hL k => lv_ldc hx hb hown (hts _ (wAt_in hx1)) hd (k lsA hL))
  · cases hx1
set_option maxHeartbeats 400000 in
theorem st_ldc2_w {n : Nat} (X : HX κ p l e R s m args below meth c nL Q z0 zF cc own full d Rt ini pI pA pV) (hd : decode cc pc = .ok ((.ldc2_w n), lnI (.ldc2_w n) b)) (hx1 : vX own full nL ini (pc, cut, (.ldc2_w n), a, b, cv, w, nxt) = true) (hn0 : vN full (pc, cut, (.ldc2_w n), a, b, cv, w, nxt) = true) (hrI : ((.ldc2_w n) : Instr) = .ireturn → pI) (hrA : ((.ldc2_w n) : Instr) = .areturn → pA) (hrV : ((.ldc2_w n) : Instr) = .return_ → pV) (hkk : ∀ i ls st z, kk (i, ls, st, z) → GG κ p l e R s m args below meth c nL Q z0 zF (pcA full i) ls st z) (hkb : ∀ ls st z, ¬ kk (99999, ls, st, z)) (H : stp (Rn d) Rt kk (nx full (pc, cut, (.ldc2_w n), a, b, cv, w, nxt) nxt ls st z)) : GG κ p l e R s m args below meth c nL Q z0 zF pc ls st z := by
  obtain ⟨hx, hb, hml, hown, hts, hG, hR1, hR2, hfr, hlo, hC, hini, hRz, hRi, hRa, hRv⟩ := X
  try dsimp only [vX] at hx1
  have hn : pcA full nxt = pc + 3 := of_decide_eq_true hn0
  clear hn0
  split at hx1
  · have hk := hkk _ _ _ _ H
    rw [hn] at hk
    exact gg1 hk (fun H locs lsA _ _ hH hS hL k => lv_ldc2 hx hb hown (hts _ (wAt_in hx1)) hd (k lsA hL))
  · cases hx1
set_option maxHeartbeats 400000 in
theorem st_aconst_null (X : HX κ p l e R s m args below meth c nL Q z0 zF cc own full d Rt ini pI pA pV) (hd : decode cc pc = .ok (.aconst_null, lnI .aconst_null b)) (hx1 : vX own full nL ini (pc, cut, .aconst_null, a, b, cv, w, nxt) = true) (hn0 : vN full (pc, cut, .aconst_null, a, b, cv, w, nxt) = true) (hrI : (.aconst_null : Instr) = .ireturn → pI) (hrA : (.aconst_null : Instr) = .areturn → pA) (hrV : (.aconst_null : Instr) = .return_ → pV) (hkk : ∀ i ls st z, kk (i, ls, st, z) → GG κ p l e R s m args below meth c nL Q z0 zF (pcA full i) ls st z) (hkb : ∀ ls st z, ¬ kk (99999, ls, st, z)) (H : stp (Rn d) Rt kk (nx full (pc, cut, .aconst_null, a, b, cv, w, nxt) nxt ls st z)) : GG κ p l e R s m args below meth c nL Q z0 zF pc ls st z := by
  obtain ⟨hx, hb, hml, hown, hts, hG, hR1, hR2, hfr, hlo, hC, hini, hRz, hRi, hRa, hRv⟩ := X
  try dsimp only [vX] at hx1
  have hn : pcA full nxt = pc + 1 := of_decide_eq_true hn0
  clear hn0
  have hk := hkk _ _ _ _ H
  rw [hn] at hk
  exact gg1 hk (fun H locs lsA _ _ hH hS hL k => lv_null hx hb hd (k lsA hL))
set_option maxHeartbeats 400000 in
theorem st_iinc {k : Nat} {n : Int} (X : HX κ p l e R s m args below meth c nL Q z0 zF cc own full d Rt ini pI pA pV) (hd : decode cc pc = .ok ((.iinc k n), lnI (.iinc k n) b)) (hx1 : vX own full nL ini (pc, cut, (.iinc k n), a, b, cv, w, nxt) = true) (hn0 : vN full (pc, cut, (.iinc k n), a, b, cv, w, nxt) = true) (hrI : ((.iinc k n) : Instr) = .ireturn → pI) (hrA : ((.iinc k n) : Instr) = .areturn → pA) (hrV : ((.iinc k n) : Instr) = .return_ → pV) (hkk : ∀ i ls st z, kk (i, ls, st, z) → GG κ p l e R s m args below meth c nL Q z0 zF (pcA full i) ls st z) (hkb : ∀ ls st z, ¬ kk (99999, ls, st, z)) (H : stp (Rn d) Rt kk (nx full (pc, cut, (.iinc k n), a, b, cv, w, nxt) nxt ls st z)) : GG κ p l e R s m args below meth c nL Q z0 zF pc ls st z := by
  obtain ⟨hx, hb, hml, hown, hts, hG, hR1, hR2, hfr, hlo, hC, hini, hRz, hRi, hRa, hRv⟩ := X
  try dsimp only [vX] at hx1
  have hn : pcA full nxt = pc + 3 := of_decide_eq_true hn0
  clear hn0
  dsimp only [nx] at H
  split at H
  · rename_i x n' hq
    obtain ⟨ha, hl, hc⟩ := of_decide_eq_true hx1
    subst ha
    refine gg_sto hkk hn hl H (fun H locs lsA _ _ hL k2 => ?_)
    have hm : (k, Value.int x) ∈ prs κ ls nL := prs_mem.mpr ⟨hl, (by show lk ls k ≠ _; rw [hq]; intro h; cases h), (by show _ = tr κ (lk ls k); rw [hq]; rfl)⟩
    obtain ⟨j, hj⟩ := List.getElem?_of_mem hm
    have hc' : n' = Int32.ofInt n := by cases hc; rfl
    subst hc'
    exact lv_iinc hx hb hd hL.has hj rfl hl rfl k2
  · exact False.elim H
set_option maxHeartbeats 400000 in
theorem st_dup (X : HX κ p l e R s m args below meth c nL Q z0 zF cc own full d Rt ini pI pA pV) (hd : decode cc pc = .ok (.dup, lnI .dup b)) (hx1 : vX own full nL ini (pc, cut, .dup, a, b, cv, w, nxt) = true) (hn0 : vN full (pc, cut, .dup, a, b, cv, w, nxt) = true) (hrI : (.dup : Instr) = .ireturn → pI) (hrA : (.dup : Instr) = .areturn → pA) (hrV : (.dup : Instr) = .return_ → pV) (hkk : ∀ i ls st z, kk (i, ls, st, z) → GG κ p l e R s m args below meth c nL Q z0 zF (pcA full i) ls st z) (hkb : ∀ ls st z, ¬ kk (99999, ls, st, z)) (H : stp (Rn d) Rt kk (nx full (pc, cut, .dup, a, b, cv, w, nxt) nxt ls st z)) : GG κ p l e R s m args below meth c nL Q z0 zF pc ls st z := by
  obtain ⟨hx, hb, hml, hown, hts, hG, hR1, hR2, hfr, hlo, hC, hini, hRz, hRi, hRa, hRv⟩ := X
  try dsimp only [vX] at hx1
  have hn : pcA full nxt = pc + 1 := of_decide_eq_true hn0
  clear hn0
  dsimp only [nx] at H
  split at H
  · rename_i x st
    have hk := hkk _ _ _ _ H
    rw [hn] at hk
    exact gg1 hk (fun H locs lsA _ _ hH hS hL k => lv_dup hx hb hd rfl (k lsA hL))
  · rename_i x st
    have hk := hkk _ _ _ _ H
    rw [hn] at hk
    exact gg1 hk (fun H locs lsA _ _ hH hS hL k => lv_dup hx hb hd (by rw [tr_cat]; rfl) (k lsA hL))
  · exact False.elim H
set_option maxHeartbeats 400000 in
theorem st_dup2 (X : HX κ p l e R s m args below meth c nL Q z0 zF cc own full d Rt ini pI pA pV) (hd : decode cc pc = .ok (.dup2, lnI .dup2 b)) (hx1 : vX own full nL ini (pc, cut, .dup2, a, b, cv, w, nxt) = true) (hn0 : vN full (pc, cut, .dup2, a, b, cv, w, nxt) = true) (hrI : (.dup2 : Instr) = .ireturn → pI) (hrA : (.dup2 : Instr) = .areturn → pA) (hrV : (.dup2 : Instr) = .return_ → pV) (hkk : ∀ i ls st z, kk (i, ls, st, z) → GG κ p l e R s m args below meth c nL Q z0 zF (pcA full i) ls st z) (hkb : ∀ ls st z, ¬ kk (99999, ls, st, z)) (H : stp (Rn d) Rt kk (nx full (pc, cut, .dup2, a, b, cv, w, nxt) nxt ls st z)) : GG κ p l e R s m args below meth c nL Q z0 zF pc ls st z := by
  obtain ⟨hx, hb, hml, hown, hts, hG, hR1, hR2, hfr, hlo, hC, hini, hRz, hRi, hRa, hRv⟩ := X
  try dsimp only [vX] at hx1
  have hn : pcA full nxt = pc + 1 := of_decide_eq_true hn0
  clear hn0
  dsimp only [nx] at H
  split at H
  · rename_i y x st
    have hk := hkk _ _ _ _ H
    rw [hn] at hk
    exact gg1 hk (fun H locs lsA _ _ hH hS hL k => lv_dup2_11 hx hb hd rfl (by rw [tr_cat]; rfl) (k lsA hL))
  · exact False.elim H
set_option maxHeartbeats 400000 in
theorem st_iadd (X : HX κ p l e R s m args below meth c nL Q z0 zF cc own full d Rt ini pI pA pV) (hd : decode cc pc = .ok (.iadd, lnI .iadd b)) (hx1 : vX own full nL ini (pc, cut, .iadd, a, b, cv, w, nxt) = true) (hn0 : vN full (pc, cut, .iadd, a, b, cv, w, nxt) = true) (hrI : (.iadd : Instr) = .ireturn → pI) (hrA : (.iadd : Instr) = .areturn → pA) (hrV : (.iadd : Instr) = .return_ → pV) (hkk : ∀ i ls st z, kk (i, ls, st, z) → GG κ p l e R s m args below meth c nL Q z0 zF (pcA full i) ls st z) (hkb : ∀ ls st z, ¬ kk (99999, ls, st, z)) (H : stp (Rn d) Rt kk (nx full (pc, cut, .iadd, a, b, cv, w, nxt) nxt ls st z)) : GG κ p l e R s m args below meth c nL Q z0 zF pc ls st z := by
  obtain ⟨hx, hb, hml, hown, hts, hG, hR1, hR2, hfr, hlo, hC, hini, hRz, hRi, hRa, hRv⟩ := X
  try dsimp only [vX] at hx1
  have hn : pcA full nxt = pc + 1 := of_decide_eq_true hn0
  clear hn0
  dsimp only [nx] at H
  split at H
  · rename_i y x st
    have hk := hkk _ _ _ _ H
    rw [hn] at hk
    exact gg1 hk (fun H locs lsA _ _ hH hS hL k => lv_iadd hx hb hd (k lsA hL))
  · exact False.elim H
set_option maxHeartbeats 400000 in
theorem st_isub (X : HX κ p l e R s m args below meth c nL Q z0 zF cc own full d Rt ini pI pA pV) (hd : decode cc pc = .ok (.isub, lnI .isub b)) (hx1 : vX own full nL ini (pc, cut, .isub, a, b, cv, w, nxt) = true) (hn0 : vN full (pc, cut, .isub, a, b, cv, w, nxt) = true) (hrI : (.isub : Instr) = .ireturn → pI) (hrA : (.isub : Instr) = .areturn → pA) (hrV : (.isub : Instr) = .return_ → pV) (hkk : ∀ i ls st z, kk (i, ls, st, z) → GG κ p l e R s m args below meth c nL Q z0 zF (pcA full i) ls st z) (hkb : ∀ ls st z, ¬ kk (99999, ls, st, z)) (H : stp (Rn d) Rt kk (nx full (pc, cut, .isub, a, b, cv, w, nxt) nxt ls st z)) : GG κ p l e R s m args below meth c nL Q z0 zF pc ls st z := by
  obtain ⟨hx, hb, hml, hown, hts, hG, hR1, hR2, hfr, hlo, hC, hini, hRz, hRi, hRa, hRv⟩ := X
  try dsimp only [vX] at hx1
  have hn : pcA full nxt = pc + 1 := of_decide_eq_true hn0
  clear hn0
  dsimp only [nx] at H
  split at H
  · rename_i y x st
    have hk := hkk _ _ _ _ H
    rw [hn] at hk
    exact gg1 hk (fun H locs lsA _ _ hH hS hL k => lv_isub hx hb hd (k lsA hL))
  · exact False.elim H
set_option maxHeartbeats 400000 in
theorem st_imul (X : HX κ p l e R s m args below meth c nL Q z0 zF cc own full d Rt ini pI pA pV) (hd : decode cc pc = .ok (.imul, lnI .imul b)) (hx1 : vX own full nL ini (pc, cut, .imul, a, b, cv, w, nxt) = true) (hn0 : vN full (pc, cut, .imul, a, b, cv, w, nxt) = true) (hrI : (.imul : Instr) = .ireturn → pI) (hrA : (.imul : Instr) = .areturn → pA) (hrV : (.imul : Instr) = .return_ → pV) (hkk : ∀ i ls st z, kk (i, ls, st, z) → GG κ p l e R s m args below meth c nL Q z0 zF (pcA full i) ls st z) (hkb : ∀ ls st z, ¬ kk (99999, ls, st, z)) (H : stp (Rn d) Rt kk (nx full (pc, cut, .imul, a, b, cv, w, nxt) nxt ls st z)) : GG κ p l e R s m args below meth c nL Q z0 zF pc ls st z := by
  obtain ⟨hx, hb, hml, hown, hts, hG, hR1, hR2, hfr, hlo, hC, hini, hRz, hRi, hRa, hRv⟩ := X
  try dsimp only [vX] at hx1
  have hn : pcA full nxt = pc + 1 := of_decide_eq_true hn0
  clear hn0
  dsimp only [nx] at H
  split at H
  · rename_i y x st
    have hk := hkk _ _ _ _ H
    rw [hn] at hk
    exact gg1 hk (fun H locs lsA _ _ hH hS hL k => lv_imul hx hb hd (k lsA hL))
  · exact False.elim H
set_option maxHeartbeats 400000 in
theorem st_iand (X : HX κ p l e R s m args below meth c nL Q z0 zF cc own full d Rt ini pI pA pV) (hd : decode cc pc = .ok (.iand, lnI .iand b)) (hx1 : vX own full nL ini (pc, cut, .iand, a, b, cv, w, nxt) = true) (hn0 : vN full (pc, cut, .iand, a, b, cv, w, nxt) = true) (hrI : (.iand : Instr) = .ireturn → pI) (hrA : (.iand : Instr) = .areturn → pA) (hrV : (.iand : Instr) = .return_ → pV) (hkk : ∀ i ls st z, kk (i, ls, st, z) → GG κ p l e R s m args below meth c nL Q z0 zF (pcA full i) ls st z) (hkb : ∀ ls st z, ¬ kk (99999, ls, st, z)) (H : stp (Rn d) Rt kk (nx full (pc, cut, .iand, a, b, cv, w, nxt) nxt ls st z)) : GG κ p l e R s m args below meth c nL Q z0 zF pc ls st z := by
  obtain ⟨hx, hb, hml, hown, hts, hG, hR1, hR2, hfr, hlo, hC, hini, hRz, hRi, hRa, hRv⟩ := X
  try dsimp only [vX] at hx1
  have hn : pcA full nxt = pc + 1 := of_decide_eq_true hn0
  clear hn0
  dsimp only [nx] at H
  split at H
  · rename_i y x st
    have hk := hkk _ _ _ _ H
    rw [hn] at hk
    exact gg1 hk (fun H locs lsA _ _ hH hS hL k => lv_iand hx hb hd (k lsA hL))
  · exact False.elim H
set_option maxHeartbeats 400000 in
theorem st_ixor (X : HX κ p l e R s m args below meth c nL Q z0 zF cc own full d Rt ini pI pA pV) (hd : decode cc pc = .ok (.ixor, lnI .ixor b)) (hx1 : vX own full nL ini (pc, cut, .ixor, a, b, cv, w, nxt) = true) (hn0 : vN full (pc, cut, .ixor, a, b, cv, w, nxt) = true) (hrI : (.ixor : Instr) = .ireturn → pI) (hrA : (.ixor : Instr) = .areturn → pA) (hrV : (.ixor : Instr) = .return_ → pV) (hkk : ∀ i ls st z, kk (i, ls, st, z) → GG κ p l e R s m args below meth c nL Q z0 zF (pcA full i) ls st z) (hkb : ∀ ls st z, ¬ kk (99999, ls, st, z)) (H : stp (Rn d) Rt kk (nx full (pc, cut, .ixor, a, b, cv, w, nxt) nxt ls st z)) : GG κ p l e R s m args below meth c nL Q z0 zF pc ls st z := by
  obtain ⟨hx, hb, hml, hown, hts, hG, hR1, hR2, hfr, hlo, hC, hini, hRz, hRi, hRa, hRv⟩ := X
  try dsimp only [vX] at hx1
  have hn : pcA full nxt = pc + 1 := of_decide_eq_true hn0
  clear hn0
  dsimp only [nx] at H
  split at H
  · rename_i y x st
    have hk := hkk _ _ _ _ H
    rw [hn] at hk
    exact gg1 hk (fun H locs lsA _ _ hH hS hL k => lv_ixor hx hb hd (k lsA hL))
  · exact False.elim H
set_option maxHeartbeats 400000 in
theorem st_land (X : HX κ p l e R s m args below meth c nL Q z0 zF cc own full d Rt ini pI pA pV) (hd : decode cc pc = .ok (.land, lnI .land b)) (hx1 : vX own full nL ini (pc, cut, .land, a, b, cv, w, nxt) = true) (hn0 : vN full (pc, cut, .land, a, b, cv, w, nxt) = true) (hrI : (.land : Instr) = .ireturn → pI) (hrA : (.land : Instr) = .areturn → pA) (hrV : (.land : Instr) = .return_ → pV) (hkk : ∀ i ls st z, kk (i, ls, st, z) → GG κ p l e R s m args below meth c nL Q z0 zF (pcA full i) ls st z) (hkb : ∀ ls st z, ¬ kk (99999, ls, st, z)) (H : stp (Rn d) Rt kk (nx full (pc, cut, .land, a, b, cv, w, nxt) nxt ls st z)) : GG κ p l e R s m args below meth c nL Q z0 zF pc ls st z := by
  obtain ⟨hx, hb, hml, hown, hts, hG, hR1, hR2, hfr, hlo, hC, hini, hRz, hRi, hRa, hRv⟩ := X
  try dsimp only [vX] at hx1
  have hn : pcA full nxt = pc + 1 := of_decide_eq_true hn0
  clear hn0
  dsimp only [nx] at H
  split at H
  · rename_i y x st
    have hk := hkk _ _ _ _ H
    rw [hn] at hk
    exact gg1 hk (fun H locs lsA _ _ hH hS hL k => lv_land hx hb hd (k lsA hL))
  · exact False.elim H
set_option maxHeartbeats 400000 in
theorem st_lor (X : HX κ p l e R s m args below meth c nL Q z0 zF cc own full d Rt ini pI pA pV) (hd : decode cc pc = .ok (.lor, lnI .lor b)) (hx1 : vX own full nL ini (pc, cut, .lor, a, b, cv, w, nxt) = true) (hn0 : vN full (pc, cut, .lor, a, b, cv, w, nxt) = true) (hrI : (.lor : Instr) = .ireturn → pI) (hrA : (.lor : Instr) = .areturn → pA) (hrV : (.lor : Instr) = .return_ → pV) (hkk : ∀ i ls st z, kk (i, ls, st, z) → GG κ p l e R s m args below meth c nL Q z0 zF (pcA full i) ls st z) (hkb : ∀ ls st z, ¬ kk (99999, ls, st, z)) (H : stp (Rn d) Rt kk (nx full (pc, cut, .lor, a, b, cv, w, nxt) nxt ls st z)) : GG κ p l e R s m args below meth c nL Q z0 zF pc ls st z := by
  obtain ⟨hx, hb, hml, hown, hts, hG, hR1, hR2, hfr, hlo, hC, hini, hRz, hRi, hRa, hRv⟩ := X
  try dsimp only [vX] at hx1
  have hn : pcA full nxt = pc + 1 := of_decide_eq_true hn0
  clear hn0
  dsimp only [nx] at H
  split at H
  · rename_i y x st
    have hk := hkk _ _ _ _ H
    rw [hn] at hk
    exact gg1 hk (fun H locs lsA _ _ hH hS hL k => lv_lor hx hb hd (k lsA hL))
  · exact False.elim H
set_option maxHeartbeats 400000 in
theorem st_lshl (X : HX κ p l e R s m args below meth c nL Q z0 zF cc own full d Rt ini pI pA pV) (hd : decode cc pc = .ok (.lshl, lnI .lshl b)) (hx1 : vX own full nL ini (pc, cut, .lshl, a, b, cv, w, nxt) = true) (hn0 : vN full (pc, cut, .lshl, a, b, cv, w, nxt) = true) (hrI : (.lshl : Instr) = .ireturn → pI) (hrA : (.lshl : Instr) = .areturn → pA) (hrV : (.lshl : Instr) = .return_ → pV) (hkk : ∀ i ls st z, kk (i, ls, st, z) → GG κ p l e R s m args below meth c nL Q z0 zF (pcA full i) ls st z) (hkb : ∀ ls st z, ¬ kk (99999, ls, st, z)) (H : stp (Rn d) Rt kk (nx full (pc, cut, .lshl, a, b, cv, w, nxt) nxt ls st z)) : GG κ p l e R s m args below meth c nL Q z0 zF pc ls st z := by
  obtain ⟨hx, hb, hml, hown, hts, hG, hR1, hR2, hfr, hlo, hC, hini, hRz, hRi, hRa, hRv⟩ := X
  try dsimp only [vX] at hx1
  have hn : pcA full nxt = pc + 1 := of_decide_eq_true hn0
  clear hn0
  dsimp only [nx] at H
  split at H
  · rename_i y x st
    have hk := hkk _ _ _ _ H
    rw [hn] at hk
    exact gg1 hk (fun H locs lsA _ _ hH hS hL k => lv_lshl hx hb hd rfl (k lsA hL))
  · exact False.elim H
set_option maxHeartbeats 400000 in
theorem st_lshr (X : HX κ p l e R s m args below meth c nL Q z0 zF cc own full d Rt ini pI pA pV) (hd : decode cc pc = .ok (.lshr, lnI .lshr b)) (hx1 : vX own full nL ini (pc, cut, .lshr, a, b, cv, w, nxt) = true) (hn0 : vN full (pc, cut, .lshr, a, b, cv, w, nxt) = true) (hrI : (.lshr : Instr) = .ireturn → pI) (hrA : (.lshr : Instr) = .areturn → pA) (hrV : (.lshr : Instr) = .return_ → pV) (hkk : ∀ i ls st z, kk (i, ls, st, z) → GG κ p l e R s m args below meth c nL Q z0 zF (pcA full i) ls st z) (hkb : ∀ ls st z, ¬ kk (99999, ls, st, z)) (H : stp (Rn d) Rt kk (nx full (pc, cut, .lshr, a, b, cv, w, nxt) nxt ls st z)) : GG κ p l e R s m args below meth c nL Q z0 zF pc ls st z := by
  obtain ⟨hx, hb, hml, hown, hts, hG, hR1, hR2, hfr, hlo, hC, hini, hRz, hRi, hRa, hRv⟩ := X
  try dsimp only [vX] at hx1
  have hn : pcA full nxt = pc + 1 := of_decide_eq_true hn0
  clear hn0
  dsimp only [nx] at H
  split at H
  · rename_i y x st
    have hk := hkk _ _ _ _ H
    rw [hn] at hk
    exact gg1 hk (fun H locs lsA _ _ hH hS hL k => lv_lshr hx hb hd rfl (k lsA hL))
  · exact False.elim H
set_option maxHeartbeats 400000 in
theorem st_lushr (X : HX κ p l e R s m args below meth c nL Q z0 zF cc own full d Rt ini pI pA pV) (hd : decode cc pc = .ok (.lushr, lnI .lushr b)) (hx1 : vX own full nL ini (pc, cut, .lushr, a, b, cv, w, nxt) = true) (hn0 : vN full (pc, cut, .lushr, a, b, cv, w, nxt) = true) (hrI : (.lushr : Instr) = .ireturn → pI) (hrA : (.lushr : Instr) = .areturn → pA) (hrV : (.lushr : Instr) = .return_ → pV) (hkk : ∀ i ls st z, kk (i, ls, st, z) → GG κ p l e R s m args below meth c nL Q z0 zF (pcA full i) ls st z) (hkb : ∀ ls st z, ¬ kk (99999, ls, st, z)) (H : stp (Rn d) Rt kk (nx full (pc, cut, .lushr, a, b, cv, w, nxt) nxt ls st z)) : GG κ p l e R s m args below meth c nL Q z0 zF pc ls st z := by
  obtain ⟨hx, hb, hml, hown, hts, hG, hR1, hR2, hfr, hlo, hC, hini, hRz, hRi, hRa, hRv⟩ := X
  try dsimp only [vX] at hx1
  have hn : pcA full nxt = pc + 1 := of_decide_eq_true hn0
  clear hn0
  dsimp only [nx] at H
  split at H
  · rename_i y x st
    have hk := hkk _ _ _ _ H
    rw [hn] at hk
    exact gg1 hk (fun H locs lsA _ _ hH hS hL k => lv_lushr hx hb hd rfl (k lsA hL))
  · exact False.elim H
set_option maxHeartbeats 400000 in
theorem st_i2l (X : HX κ p l e R s m args below meth c nL Q z0 zF cc own full d Rt ini pI pA pV) (hd : decode cc pc = .ok (.i2l, lnI .i2l b)) (hx1 : vX own full nL ini (pc, cut, .i2l, a, b, cv, w, nxt) = true) (hn0 : vN full (pc, cut, .i2l, a, b, cv, w, nxt) = true) (hrI : (.i2l : Instr) = .ireturn → pI) (hrA : (.i2l : Instr) = .areturn → pA) (hrV : (.i2l : Instr) = .return_ → pV) (hkk : ∀ i ls st z, kk (i, ls, st, z) → GG κ p l e R s m args below meth c nL Q z0 zF (pcA full i) ls st z) (hkb : ∀ ls st z, ¬ kk (99999, ls, st, z)) (H : stp (Rn d) Rt kk (nx full (pc, cut, .i2l, a, b, cv, w, nxt) nxt ls st z)) : GG κ p l e R s m args below meth c nL Q z0 zF pc ls st z := by
  obtain ⟨hx, hb, hml, hown, hts, hG, hR1, hR2, hfr, hlo, hC, hini, hRz, hRi, hRa, hRv⟩ := X
  try dsimp only [vX] at hx1
  have hn : pcA full nxt = pc + 1 := of_decide_eq_true hn0
  clear hn0
  dsimp only [nx] at H
  split at H
  · rename_i x st
    have hk := hkk _ _ _ _ H
    rw [hn] at hk
    exact gg1 hk (fun H locs lsA _ _ hH hS hL k => lv_i2l hx hb hd rfl (k lsA hL))
  · exact False.elim H
set_option maxHeartbeats 400000 in
theorem st_l2i (X : HX κ p l e R s m args below meth c nL Q z0 zF cc own full d Rt ini pI pA pV) (hd : decode cc pc = .ok (.l2i, lnI .l2i b)) (hx1 : vX own full nL ini (pc, cut, .l2i, a, b, cv, w, nxt) = true) (hn0 : vN full (pc, cut, .l2i, a, b, cv, w, nxt) = true) (hrI : (.l2i : Instr) = .ireturn → pI) (hrA : (.l2i : Instr) = .areturn → pA) (hrV : (.l2i : Instr) = .return_ → pV) (hkk : ∀ i ls st z, kk (i, ls, st, z) → GG κ p l e R s m args below meth c nL Q z0 zF (pcA full i) ls st z) (hkb : ∀ ls st z, ¬ kk (99999, ls, st, z)) (H : stp (Rn d) Rt kk (nx full (pc, cut, .l2i, a, b, cv, w, nxt) nxt ls st z)) : GG κ p l e R s m args below meth c nL Q z0 zF pc ls st z := by
  obtain ⟨hx, hb, hml, hown, hts, hG, hR1, hR2, hfr, hlo, hC, hini, hRz, hRi, hRa, hRv⟩ := X
  try dsimp only [vX] at hx1
  have hn : pcA full nxt = pc + 1 := of_decide_eq_true hn0
  clear hn0
  dsimp only [nx] at H
  split at H
  · rename_i x st
    have hk := hkk _ _ _ _ H
    rw [hn] at hk
    exact gg1 hk (fun H locs lsA _ _ hH hS hL k => lv_l2i hx hb hd rfl (k lsA hL))
  · exact False.elim H
set_option maxHeartbeats 400000 in
theorem st_ineg (X : HX κ p l e R s m args below meth c nL Q z0 zF cc own full d Rt ini pI pA pV) (hd : decode cc pc = .ok (.ineg, lnI .ineg b)) (hx1 : vX own full nL ini (pc, cut, .ineg, a, b, cv, w, nxt) = true) (hn0 : vN full (pc, cut, .ineg, a, b, cv, w, nxt) = true) (hrI : (.ineg : Instr) = .ireturn → pI) (hrA : (.ineg : Instr) = .areturn → pA) (hrV : (.ineg : Instr) = .return_ → pV) (hkk : ∀ i ls st z, kk (i, ls, st, z) → GG κ p l e R s m args below meth c nL Q z0 zF (pcA full i) ls st z) (hkb : ∀ ls st z, ¬ kk (99999, ls, st, z)) (H : stp (Rn d) Rt kk (nx full (pc, cut, .ineg, a, b, cv, w, nxt) nxt ls st z)) : GG κ p l e R s m args below meth c nL Q z0 zF pc ls st z := by
  obtain ⟨hx, hb, hml, hown, hts, hG, hR1, hR2, hfr, hlo, hC, hini, hRz, hRi, hRa, hRv⟩ := X
  try dsimp only [vX] at hx1
  have hn : pcA full nxt = pc + 1 := of_decide_eq_true hn0
  clear hn0
  dsimp only [nx] at H
  split at H
  · rename_i x st
    have hk := hkk _ _ _ _ H
    rw [hn] at hk
    exact gg1 hk (fun H locs lsA _ _ hH hS hL k => lv_ineg hx hb hd (k lsA hL))
  · exact False.elim H
set_option maxHeartbeats 400000 in
theorem st_idiv (X : HX κ p l e R s m args below meth c nL Q z0 zF cc own full d Rt ini pI pA pV) (hd : decode cc pc = .ok (.idiv, lnI .idiv b)) (hx1 : vX own full nL ini (pc, cut, .idiv, a, b, cv, w, nxt) = true) (hn0 : vN full (pc, cut, .idiv, a, b, cv, w, nxt) = true) (hrI : (.idiv : Instr) = .ireturn → pI) (hrA : (.idiv : Instr) = .areturn → pA) (hrV : (.idiv : Instr) = .return_ → pV) (hkk : ∀ i ls st z, kk (i, ls, st, z) → GG κ p l e R s m args below meth c nL Q z0 zF (pcA full i) ls st z) (hkb : ∀ ls st z, ¬ kk (99999, ls, st, z)) (H : stp (Rn d) Rt kk (nx full (pc, cut, .idiv, a, b, cv, w, nxt) nxt ls st z)) : GG κ p l e R s m args below meth c nL Q z0 zF pc ls st z := by
  obtain ⟨hx, hb, hml, hown, hts, hG, hR1, hR2, hfr, hlo, hC, hini, hRz, hRi, hRa, hRv⟩ := X
  try dsimp only [vX] at hx1
  have hn : pcA full nxt = pc + 1 := of_decide_eq_true hn0
  clear hn0
  dsimp only [nx] at H
  split at H
  · rename_i y x st
    have hk := hkk _ _ _ _ H.2
    rw [hn] at hk
    exact gg1 hk (fun H2 locs lsA _ _ hH hS hL k => lv_idiv hx hb hd H.1 (k lsA hL))
  · exact False.elim H
set_option maxHeartbeats 400000 in
theorem st_irem (X : HX κ p l e R s m args below meth c nL Q z0 zF cc own full d Rt ini pI pA pV) (hd : decode cc pc = .ok (.irem, lnI .irem b)) (hx1 : vX own full nL ini (pc, cut, .irem, a, b, cv, w, nxt) = true) (hn0 : vN full (pc, cut, .irem, a, b, cv, w, nxt) = true) (hrI : (.irem : Instr) = .ireturn → pI) (hrA : (.irem : Instr) = .areturn → pA) (hrV : (.irem : Instr) = .return_ → pV) (hkk : ∀ i ls st z, kk (i, ls, st, z) → GG κ p l e R s m args below meth c nL Q z0 zF (pcA full i) ls st z) (hkb : ∀ ls st z, ¬ kk (99999, ls, st, z)) (H : stp (Rn d) Rt kk (nx full (pc, cut, .irem, a, b, cv, w, nxt) nxt ls st z)) : GG κ p l e R s m args below meth c nL Q z0 zF pc ls st z := by
  obtain ⟨hx, hb, hml, hown, hts, hG, hR1, hR2, hfr, hlo, hC, hini, hRz, hRi, hRa, hRv⟩ := X
  try dsimp only [vX] at hx1
  have hn : pcA full nxt = pc + 1 := of_decide_eq_true hn0
  clear hn0
  dsimp only [nx] at H
  split at H
  · rename_i y x st
    have hk := hkk _ _ _ _ H.2
    rw [hn] at hk
    exact gg1 hk (fun H2 locs lsA _ _ hH hS hL k => lv_irem hx hb hd H.1 (k lsA hL))
  · exact False.elim H
set_option maxHeartbeats 400000 in
theorem st_if_icmp {cond : Jvm.ClassFile.Cond} {off : Int} (X : HX κ p l e R s m args below meth c nL Q z0 zF cc own full d Rt ini pI pA pV) (hd : decode cc pc = .ok ((.if_icmp cond off), lnI (.if_icmp cond off) b)) (hx1 : vX own full nL ini (pc, cut, (.if_icmp cond off), a, b, cv, w, nxt) = true) (hn0 : vN full (pc, cut, (.if_icmp cond off), a, b, cv, w, nxt) = true) (hrI : ((.if_icmp cond off) : Instr) = .ireturn → pI) (hrA : ((.if_icmp cond off) : Instr) = .areturn → pA) (hrV : ((.if_icmp cond off) : Instr) = .return_ → pV) (hkk : ∀ i ls st z, kk (i, ls, st, z) → GG κ p l e R s m args below meth c nL Q z0 zF (pcA full i) ls st z) (hkb : ∀ ls st z, ¬ kk (99999, ls, st, z)) (H : stp (Rn d) Rt kk (nx full (pc, cut, (.if_icmp cond off), a, b, cv, w, nxt) nxt ls st z)) : GG κ p l e R s m args below meth c nL Q z0 zF pc ls st z := by
  obtain ⟨hx, hb, hml, hown, hts, hG, hR1, hR2, hfr, hlo, hC, hini, hRz, hRi, hRa, hRv⟩ := X
  try dsimp only [vX] at hx1
  have hn : pcA full nxt = pc + 3 := of_decide_eq_true hn0
  clear hn0
  replace hx1 := of_decide_eq_true hx1
  dsimp only [nx] at H
  split at H
  · rename_i y x st
    cases cond
    · by_cases hq : x = y
      · have hk := hkk _ _ _ _ (H.1 hq)
        exact gg1 hk (fun H2 locs lsA _ _ hH hS hL k => lv_icmp_eq hx hb hd hx1 (fun _ => k lsA hL) (fun q => absurd hq q))
      · have hk := hkk _ _ _ _ (H.2 hq)
        rw [hn] at hk
        exact gg1 hk (fun H2 locs lsA _ _ hH hS hL k => lv_icmp_eq hx hb hd hx1 (fun q => absurd q hq) (fun _ => k lsA hL))
    · by_cases hq : x = y
      · have hk := hkk _ _ _ _ (H.1 hq)
        rw [hn] at hk
        exact gg1 hk (fun H2 locs lsA _ _ hH hS hL k => lv_icmp_ne hx hb hd hx1 (fun q => absurd hq q) (fun _ => k lsA hL))
      · have hk := hkk _ _ _ _ (H.2 hq)
        exact gg1 hk (fun H2 locs lsA _ _ hH hS hL k => lv_icmp_ne hx hb hd hx1 (fun _ => k lsA hL) (fun q => absurd q hq))
    · by_cases hq : x < y
      · have hk := hkk _ _ _ _ (H.1 hq)
        exact gg1 hk (fun H2 locs lsA _ _ hH hS hL k => lv_icmp_lt hx hb hd hx1 (fun _ => k lsA hL) (fun q => absurd hq q))
      · have hk := hkk _ _ _ _ (H.2 hq)
        rw [hn] at hk
        exact gg1 hk (fun H2 locs lsA _ _ hH hS hL k => lv_icmp_lt hx hb hd hx1 (fun q => absurd q hq) (fun _ => k lsA hL))
    · by_cases hq : y ≤ x
      · have hk := hkk _ _ _ _ (H.1 hq)
        exact gg1 hk (fun H2 locs lsA _ _ hH hS hL k => lv_icmp_ge hx hb hd hx1 (fun _ => k lsA hL) (fun q => absurd hq q))
      · have hk := hkk _ _ _ _ (H.2 hq)
        rw [hn] at hk
        exact gg1 hk (fun H2 locs lsA _ _ hH hS hL k => lv_icmp_ge hx hb hd hx1 (fun q => absurd q hq) (fun _ => k lsA hL))
    · by_cases hq : y < x
      · have hk := hkk _ _ _ _ (H.1 hq)
        exact gg1 hk (fun H2 locs lsA _ _ hH hS hL k => lv_icmp_gt hx hb hd hx1 (fun _ => k lsA hL) (fun q => absurd hq q))
      · have hk := hkk _ _ _ _ (H.2 hq)
        rw [hn] at hk
        exact gg1 hk (fun H2 locs lsA _ _ hH hS hL k => lv_icmp_gt hx hb hd hx1 (fun q => absurd q hq) (fun _ => k lsA hL))
    · by_cases hq : x ≤ y
      · have hk := hkk _ _ _ _ (H.1 hq)
        exact gg1 hk (fun H2 locs lsA _ _ hH hS hL k => lv_icmp_le hx hb hd hx1 (fun _ => k lsA hL) (fun q => absurd hq q))
      · have hk := hkk _ _ _ _ (H.2 hq)
        rw [hn] at hk
        exact gg1 hk (fun H2 locs lsA _ _ hH hS hL k => lv_icmp_le hx hb hd hx1 (fun q => absurd q hq) (fun _ => k lsA hL))
  · exact False.elim H
set_option maxHeartbeats 400000 in
theorem st_ifCond {cond : Jvm.ClassFile.Cond} {off : Int} (X : HX κ p l e R s m args below meth c nL Q z0 zF cc own full d Rt ini pI pA pV) (hd : decode cc pc = .ok ((.ifCond cond off), lnI (.ifCond cond off) b)) (hx1 : vX own full nL ini (pc, cut, (.ifCond cond off), a, b, cv, w, nxt) = true) (hn0 : vN full (pc, cut, (.ifCond cond off), a, b, cv, w, nxt) = true) (hrI : ((.ifCond cond off) : Instr) = .ireturn → pI) (hrA : ((.ifCond cond off) : Instr) = .areturn → pA) (hrV : ((.ifCond cond off) : Instr) = .return_ → pV) (hkk : ∀ i ls st z, kk (i, ls, st, z) → GG κ p l e R s m args below meth c nL Q z0 zF (pcA full i) ls st z) (hkb : ∀ ls st z, ¬ kk (99999, ls, st, z)) (H : stp (Rn d) Rt kk (nx full (pc, cut, (.ifCond cond off), a, b, cv, w, nxt) nxt ls st z)) : GG κ p l e R s m args below meth c nL Q z0 zF pc ls st z := by
  obtain ⟨hx, hb, hml, hown, hts, hG, hR1, hR2, hfr, hlo, hC, hini, hRz, hRi, hRa, hRv⟩ := X
  try dsimp only [vX] at hx1
  have hn : pcA full nxt = pc + 3 := of_decide_eq_true hn0
  clear hn0
  replace hx1 := of_decide_eq_true hx1
  dsimp only [nx] at H
  split at H
  · rename_i x st
    cases cond
    · by_cases hq : x = 0
      · have hk := hkk _ _ _ _ (H.1 hq)
        exact gg1 hk (fun H2 locs lsA _ _ hH hS hL k => lv_if_eq hx hb hd hx1 (fun _ => k lsA hL) (fun q => absurd hq q))
      · have hk := hkk _ _ _ _ (H.2 hq)
        rw [hn] at hk
        exact gg1 hk (fun H2 locs lsA _ _ hH hS hL k => lv_if_eq hx hb hd hx1 (fun q => absurd q hq) (fun _ => k lsA hL))
    · by_cases hq : x = 0
      · have hk := hkk _ _ _ _ (H.1 hq)
        rw [hn] at hk
        exact gg1 hk (fun H2 locs lsA _ _ hH hS hL k => lv_if_ne hx hb hd hx1 (fun q => absurd hq q) (fun _ => k lsA hL))
      · have hk := hkk _ _ _ _ (H.2 hq)
        exact gg1 hk (fun H2 locs lsA _ _ hH hS hL k => lv_if_ne hx hb hd hx1 (fun _ => k lsA hL) (fun q => absurd q hq))
    · by_cases hq : x < 0
      · have hk := hkk _ _ _ _ (H.1 hq)
        exact gg1 hk (fun H2 locs lsA _ _ hH hS hL k => lv_if_lt hx hb hd hx1 (fun _ => k lsA hL) (fun q => absurd hq q))
      · have hk := hkk _ _ _ _ (H.2 hq)
        rw [hn] at hk
        exact gg1 hk (fun H2 locs lsA _ _ hH hS hL k => lv_if_lt hx hb hd hx1 (fun q => absurd q hq) (fun _ => k lsA hL))
    · by_cases hq : 0 ≤ x
      · have hk := hkk _ _ _ _ (H.1 hq)
        exact gg1 hk (fun H2 locs lsA _ _ hH hS hL k => lv_if_ge hx hb hd hx1 (fun _ => k lsA hL) (fun q => absurd hq q))
      · have hk := hkk _ _ _ _ (H.2 hq)
        rw [hn] at hk
        exact gg1 hk (fun H2 locs lsA _ _ hH hS hL k => lv_if_ge hx hb hd hx1 (fun q => absurd q hq) (fun _ => k lsA hL))
    · by_cases hq : 0 < x
      · have hk := hkk _ _ _ _ (H.1 hq)
        exact gg1 hk (fun H2 locs lsA _ _ hH hS hL k => lv_if_gt hx hb hd hx1 (fun _ => k lsA hL) (fun q => absurd hq q))
      · have hk := hkk _ _ _ _ (H.2 hq)
        rw [hn] at hk
        exact gg1 hk (fun H2 locs lsA _ _ hH hS hL k => lv_if_gt hx hb hd hx1 (fun q => absurd q hq) (fun _ => k lsA hL))
    · by_cases hq : x ≤ 0
      · have hk := hkk _ _ _ _ (H.1 hq)
        exact gg1 hk (fun H2 locs lsA _ _ hH hS hL k => lv_if_le hx hb hd hx1 (fun _ => k lsA hL) (fun q => absurd hq q))
      · have hk := hkk _ _ _ _ (H.2 hq)
        rw [hn] at hk
        exact gg1 hk (fun H2 locs lsA _ _ hH hS hL k => lv_if_le hx hb hd hx1 (fun q => absurd q hq) (fun _ => k lsA hL))
  · exact False.elim H
set_option maxHeartbeats 400000 in
theorem st_if_acmp {cond : Jvm.ClassFile.ACond} {off : Int} (X : HX κ p l e R s m args below meth c nL Q z0 zF cc own full d Rt ini pI pA pV) (hd : decode cc pc = .ok ((.if_acmp cond off), lnI (.if_acmp cond off) b)) (hx1 : vX own full nL ini (pc, cut, (.if_acmp cond off), a, b, cv, w, nxt) = true) (hn0 : vN full (pc, cut, (.if_acmp cond off), a, b, cv, w, nxt) = true) (hrI : ((.if_acmp cond off) : Instr) = .ireturn → pI) (hrA : ((.if_acmp cond off) : Instr) = .areturn → pA) (hrV : ((.if_acmp cond off) : Instr) = .return_ → pV) (hkk : ∀ i ls st z, kk (i, ls, st, z) → GG κ p l e R s m args below meth c nL Q z0 zF (pcA full i) ls st z) (hkb : ∀ ls st z, ¬ kk (99999, ls, st, z)) (H : stp (Rn d) Rt kk (nx full (pc, cut, (.if_acmp cond off), a, b, cv, w, nxt) nxt ls st z)) : GG κ p l e R s m args below meth c nL Q z0 zF pc ls st z := by
  obtain ⟨hx, hb, hml, hown, hts, hG, hR1, hR2, hfr, hlo, hC, hini, hRz, hRi, hRa, hRv⟩ := X
  try dsimp only [vX] at hx1
  have hn : pcA full nxt = pc + 3 := of_decide_eq_true hn0
  clear hn0
  replace hx1 := of_decide_eq_true hx1
  dsimp only [nx] at H
  split at H
  · rename_i y x st
    have inj : ((x = 0 ∨ 6 ≤ x) ∧ (y = 0 ∨ 6 ≤ y)) → orf κ x = orf κ y → x = y := orf_inj
    cases cond
    · by_cases hq : x = y
      · have hk := hkk _ _ _ _ (H.1 hq)
        exact gg1 hk (fun H2 locs lsA _ _ hH hS hL k => lv_acmp_eq (rx := orf κ x) (ry := orf κ y) hx hb hd hx1 (fun _ => k lsA hL) (fun q => absurd (by rw [hq]) q))
      · have H := H.2 hq
        by_cases hc : ((x = 0 ∨ 6 ≤ x) ∧ (y = 0 ∨ 6 ≤ y))
        · have hk := hkk _ _ _ _ (H.2 (fun q => q hc))
          rw [hn] at hk
          exact gg1 hk (fun H2 locs lsA _ _ hH hS hL k => lv_acmp_eq (rx := orf κ x) (ry := orf κ y) hx hb hd hx1 (fun q => absurd (inj hc q) hq) (fun _ => k lsA hL))
        · exact absurd (H.1 hc) (hkb _ _ _)
    · by_cases hq : x = y
      · have hk := hkk _ _ _ _ (H.1 hq)
        rw [hn] at hk
        exact gg1 hk (fun H2 locs lsA _ _ hH hS hL k => lv_acmp_ne (rx := orf κ x) (ry := orf κ y) hx hb hd hx1 (fun q => absurd (by rw [hq]) q) (fun _ => k lsA hL))
      · have H := H.2 hq
        by_cases hc : ((x = 0 ∨ 6 ≤ x) ∧ (y = 0 ∨ 6 ≤ y))
        · have hk := hkk _ _ _ _ (H.2 (fun q => q hc))
          exact gg1 hk (fun H2 locs lsA _ _ hH hS hL k => lv_acmp_ne (rx := orf κ x) (ry := orf κ y) hx hb hd hx1 (fun _ => k lsA hL) (fun q => absurd (inj hc q) hq))
        · exact absurd (H.1 hc) (hkb _ _ _)
  · exact False.elim H
set_option maxHeartbeats 400000 in
theorem st_ifnull {off : Int} (X : HX κ p l e R s m args below meth c nL Q z0 zF cc own full d Rt ini pI pA pV) (hd : decode cc pc = .ok ((.ifnull off), lnI (.ifnull off) b)) (hx1 : vX own full nL ini (pc, cut, (.ifnull off), a, b, cv, w, nxt) = true) (hn0 : vN full (pc, cut, (.ifnull off), a, b, cv, w, nxt) = true) (hrI : ((.ifnull off) : Instr) = .ireturn → pI) (hrA : ((.ifnull off) : Instr) = .areturn → pA) (hrV : ((.ifnull off) : Instr) = .return_ → pV) (hkk : ∀ i ls st z, kk (i, ls, st, z) → GG κ p l e R s m args below meth c nL Q z0 zF (pcA full i) ls st z) (hkb : ∀ ls st z, ¬ kk (99999, ls, st, z)) (H : stp (Rn d) Rt kk (nx full (pc, cut, (.ifnull off), a, b, cv, w, nxt) nxt ls st z)) : GG κ p l e R s m args below meth c nL Q z0 zF pc ls st z := by
  obtain ⟨hx, hb, hml, hown, hts, hG, hR1, hR2, hfr, hlo, hC, hini, hRz, hRi, hRa, hRv⟩ := X
  try dsimp only [vX] at hx1
  have hn : pcA full nxt = pc + 3 := of_decide_eq_true hn0
  clear hn0
  replace hx1 := of_decide_eq_true hx1
  dsimp only [nx] at H
  split at H
  · rename_i x st
    by_cases hq : x = 0
    · have hk := hkk _ _ _ _ (H.1 hq)
      subst hq
      exact gg1 hk (fun H2 locs lsA _ _ hH hS hL k => lv_ifnullN hx hb hd hx1 (k lsA hL))
    · have hk := hkk _ _ _ _ (H.2 hq)
      rw [hn] at hk
      refine gg1 hk (fun H2 locs lsA _ _ hH hS hL k => ?_)
      rw [List.map_cons, tr_ref hq]
      exact lv_ifnull hx hb hd (k lsA hL)
  · exact False.elim H
set_option maxHeartbeats 400000 in
theorem st_ifnonnull {off : Int} (X : HX κ p l e R s m args below meth c nL Q z0 zF cc own full d Rt ini pI pA pV) (hd : decode cc pc = .ok ((.ifnonnull off), lnI (.ifnonnull off) b)) (hx1 : vX own full nL ini (pc, cut, (.ifnonnull off), a, b, cv, w, nxt) = true) (hn0 : vN full (pc, cut, (.ifnonnull off), a, b, cv, w, nxt) = true) (hrI : ((.ifnonnull off) : Instr) = .ireturn → pI) (hrA : ((.ifnonnull off) : Instr) = .areturn → pA) (hrV : ((.ifnonnull off) : Instr) = .return_ → pV) (hkk : ∀ i ls st z, kk (i, ls, st, z) → GG κ p l e R s m args below meth c nL Q z0 zF (pcA full i) ls st z) (hkb : ∀ ls st z, ¬ kk (99999, ls, st, z)) (H : stp (Rn d) Rt kk (nx full (pc, cut, (.ifnonnull off), a, b, cv, w, nxt) nxt ls st z)) : GG κ p l e R s m args below meth c nL Q z0 zF pc ls st z := by
  obtain ⟨hx, hb, hml, hown, hts, hG, hR1, hR2, hfr, hlo, hC, hini, hRz, hRi, hRa, hRv⟩ := X
  try dsimp only [vX] at hx1
  have hn : pcA full nxt = pc + 3 := of_decide_eq_true hn0
  clear hn0
  replace hx1 := of_decide_eq_true hx1
  dsimp only [nx] at H
  split at H
  · rename_i x st
    by_cases hq : x = 0
    · have hk := hkk _ _ _ _ (H.1 hq)
      rw [hn] at hk
      subst hq
      exact gg1 hk (fun H2 locs lsA _ _ hH hS hL k => lv_ifnonnullN hx hb hd (k lsA hL))
    · have hk := hkk _ _ _ _ (H.2 hq)
      refine gg1 hk (fun H2 locs lsA _ _ hH hS hL k => ?_)
      rw [List.map_cons, tr_ref hq]
      exact lv_ifnonnull hx hb hd hx1 (k lsA hL)
  · exact False.elim H
set_option maxHeartbeats 400000 in
theorem st_goto {off : Int} (X : HX κ p l e R s m args below meth c nL Q z0 zF cc own full d Rt ini pI pA pV) (hd : decode cc pc = .ok ((.goto off), lnI (.goto off) b)) (hx1 : vX own full nL ini (pc, cut, (.goto off), a, b, cv, w, nxt) = true) (hn0 : vN full (pc, cut, (.goto off), a, b, cv, w, nxt) = true) (hrI : ((.goto off) : Instr) = .ireturn → pI) (hrA : ((.goto off) : Instr) = .areturn → pA) (hrV : ((.goto off) : Instr) = .return_ → pV) (hkk : ∀ i ls st z, kk (i, ls, st, z) → GG κ p l e R s m args below meth c nL Q z0 zF (pcA full i) ls st z) (hkb : ∀ ls st z, ¬ kk (99999, ls, st, z)) (H : stp (Rn d) Rt kk (nx full (pc, cut, (.goto off), a, b, cv, w, nxt) nxt ls st z)) : GG κ p l e R s m args below meth c nL Q z0 zF pc ls st z := by
  obtain ⟨hx, hb, hml, hown, hts, hG, hR1, hR2, hfr, hlo, hC, hini, hRz, hRi, hRa, hRv⟩ := X
  try dsimp only [vX] at hx1
  replace hx1 := of_decide_eq_true hx1
  have hk := hkk _ _ _ _ H
  exact gg1 hk (fun H2 locs lsA _ _ hH hS hL k => lv_goto hx hb hd hx1 (k lsA hL))
set_option maxHeartbeats 400000 in
theorem st_tableswitch {dflt : Int} {low : Int} {high : Int} {offs : Array Int} (X : HX κ p l e R s m args below meth c nL Q z0 zF cc own full d Rt ini pI pA pV) (hd : decode cc pc = .ok ((.tableswitch dflt low high offs), lnI (.tableswitch dflt low high offs) b)) (hx1 : vX own full nL ini (pc, cut, (.tableswitch dflt low high offs), a, b, cv, w, nxt) = true) (hn0 : vN full (pc, cut, (.tableswitch dflt low high offs), a, b, cv, w, nxt) = true) (hrI : ((.tableswitch dflt low high offs) : Instr) = .ireturn → pI) (hrA : ((.tableswitch dflt low high offs) : Instr) = .areturn → pA) (hrV : ((.tableswitch dflt low high offs) : Instr) = .return_ → pV) (hkk : ∀ i ls st z, kk (i, ls, st, z) → GG κ p l e R s m args below meth c nL Q z0 zF (pcA full i) ls st z) (hkb : ∀ ls st z, ¬ kk (99999, ls, st, z)) (H : stp (Rn d) Rt kk (nx full (pc, cut, (.tableswitch dflt low high offs), a, b, cv, w, nxt) nxt ls st z)) : GG κ p l e R s m args below meth c nL Q z0 zF pc ls st z := by
  obtain ⟨hx, hb, hml, hown, hts, hG, hR1, hR2, hfr, hlo, hC, hini, hRz, hRi, hRa, hRv⟩ := X
  try dsimp only [vX] at hx1
  dsimp only [nx] at H
  split at H
  · rename_i x st
    simp only [Bool.and_eq_true, decide_eq_true_eq] at hx1
    obtain ⟨hlen, hall⟩ := hx1
    have hall := List.all_eq_true.mp hall
    rcases brs_tab (offs := offs.toList) H with ⟨j, o, ho, hj, hk⟩ | ⟨hout, hk⟩
    · have ht := of_decide_eq_true (hall o (List.mem_cons_of_mem _ (List.mem_of_getElem? ho)))
      have hlt : j < offs.toList.length := (List.getElem?_eq_some_iff.mp ho).1
      exact gg1 (hkk _ _ _ _ hk) (fun H2 locs lsA _ _ hH hS hL k => lv_tableIn hx hb hd (by omega) (by omega) (off := o) (by rw [show (x.toInt - low).toNat = j by omega, ← Array.getElem?_toList]; exact ho) ht (k lsA hL))
    · have ht := of_decide_eq_true (hall dflt List.mem_cons_self)
      exact gg1 (hkk _ _ _ _ hk) (fun H2 locs lsA _ _ hH hS hL k => lv_tableOut hx hb hd (by omega) ht (k lsA hL))
  · exact False.elim H
set_option maxHeartbeats 400000 in
theorem st_lookupswitch {dflt : Int} {pairs : Array (Int × Int)} (X : HX κ p l e R s m args below meth c nL Q z0 zF cc own full d Rt ini pI pA pV) (hd : decode cc pc = .ok ((.lookupswitch dflt pairs), lnI (.lookupswitch dflt pairs) b)) (hx1 : vX own full nL ini (pc, cut, (.lookupswitch dflt pairs), a, b, cv, w, nxt) = true) (hn0 : vN full (pc, cut, (.lookupswitch dflt pairs), a, b, cv, w, nxt) = true) (hrI : ((.lookupswitch dflt pairs) : Instr) = .ireturn → pI) (hrA : ((.lookupswitch dflt pairs) : Instr) = .areturn → pA) (hrV : ((.lookupswitch dflt pairs) : Instr) = .return_ → pV) (hkk : ∀ i ls st z, kk (i, ls, st, z) → GG κ p l e R s m args below meth c nL Q z0 zF (pcA full i) ls st z) (hkb : ∀ ls st z, ¬ kk (99999, ls, st, z)) (H : stp (Rn d) Rt kk (nx full (pc, cut, (.lookupswitch dflt pairs), a, b, cv, w, nxt) nxt ls st z)) : GG κ p l e R s m args below meth c nL Q z0 zF pc ls st z := by
  obtain ⟨hx, hb, hml, hown, hts, hG, hR1, hR2, hfr, hlo, hC, hini, hRz, hRi, hRa, hRv⟩ := X
  try dsimp only [vX] at hx1
  dsimp only [nx] at H
  split at H
  · rename_i x st
    simp only [Bool.and_eq_true] at hx1
    obtain ⟨hsrt, hall⟩ := hx1
    have hall := List.all_eq_true.mp hall
    obtain ⟨o, ho, hm, hk⟩ := brs_look (d := dflt) (ps := pairs.toList) H
    have ht := of_decide_eq_true (hall o hm)
    exact gg1 (hkk _ _ _ _ hk) (fun H2 locs lsA _ _ hH hS hL k => lv_lookup hx hb hd hsrt ho ht (k lsA hL))
  · exact False.elim H
set_option maxHeartbeats 400000 in
theorem st_getfield {k0 : Nat} (X : HX κ p l e R s m args below meth c nL Q z0 zF cc own full d Rt ini pI pA pV) (hd : decode cc pc = .ok ((.getfield k0), lnI (.getfield k0) b)) (hx1 : vX own full nL ini (pc, cut, (.getfield k0), a, b, cv, w, nxt) = true) (hn0 : vN full (pc, cut, (.getfield k0), a, b, cv, w, nxt) = true) (hrI : ((.getfield k0) : Instr) = .ireturn → pI) (hrA : ((.getfield k0) : Instr) = .areturn → pA) (hrV : ((.getfield k0) : Instr) = .return_ → pV) (hkk : ∀ i ls st z, kk (i, ls, st, z) → GG κ p l e R s m args below meth c nL Q z0 zF (pcA full i) ls st z) (hkb : ∀ ls st z, ¬ kk (99999, ls, st, z)) (H : stp (Rn d) Rt kk (nx full (pc, cut, (.getfield k0), a, b, cv, w, nxt) nxt ls st z)) : GG κ p l e R s m args below meth c nL Q z0 zF pc ls st z := by
  obtain ⟨hx, hb, hml, hown, hts, hG, hR1, hR2, hfr, hlo, hC, hini, hRz, hRi, hRa, hRv⟩ := X
  try dsimp only [vX] at hx1
  have hn : pcA full nxt = pc + 3 := of_decide_eq_true hn0
  clear hn0
  split at hx1
  · rename_i C T N hc
    simp only [vFld, Bool.and_eq_true, decide_eq_true_eq, beq_iff_eq] at hx1
    obtain ⟨⟨⟨h10, hbN⟩, hw⟩, hkind⟩ := hx1
    replace hkind : (b % 4 = 1 ∨ b % 4 = 3) ↔ fk (a - 10) (b / 4) = 1 := decide_eq_decide.mp hkind
    dsimp only [nx] at H
    split at H
    · rename_i x st
      unfold x_get at H
      split at H
      · rename_i hb3
        split at H
        · rename_i y
          obtain ⟨⟨ha, hy⟩, hk⟩ := H
          have hk := hkk _ _ _ _ hk
          rw [hn] at hk
          refine gg1 hk (fun H locs lsA _ _ hH hS hL k => ?_)
          refine r_get hx hb hown hts hG hH ha h10 hc hbN (wAt_in hw) hd ?_
          unfold fval
          rw [if_pos (hkind.mp (Or.inr hb3)), hy]
          exact k lsA hL
        · exact False.elim H
      · rename_i hb1
        obtain ⟨ha, hk⟩ := H
        have hk := hkk _ _ _ _ hk
        rw [hn] at hk
        refine gg1 hk (fun H locs lsA _ _ hH hS hL k => ?_)
        refine r_get hx hb hown hts hG hH ha h10 hc hbN (wAt_in hw) hd ?_
        unfold fval
        rw [if_pos (hkind.mp (Or.inl hb1))]
        exact k lsA hL
      · rename_i hb3 hb1
        obtain ⟨ha, hk⟩ := H
        have hk := hkk _ _ _ _ hk
        rw [hn] at hk
        refine gg1 hk (fun H locs lsA _ _ hH hS hL k => ?_)
        refine r_get hx hb hown hts hG hH ha h10 hc hbN (wAt_in hw) hd ?_
        unfold fval
        rw [if_neg (fun q => (hkind.mpr q).elim hb1 hb3)]
        exact k lsA hL
    · exact False.elim H
  · cases hx1
set_option maxHeartbeats 400000 in
theorem st_putfield {k0 : Nat} (X : HX κ p l e R s m args below meth c nL Q z0 zF cc own full d Rt ini pI pA pV) (hd : decode cc pc = .ok ((.putfield k0), lnI (.putfield k0) b)) (hx1 : vX own full nL ini (pc, cut, (.putfield k0), a, b, cv, w, nxt) = true) (hn0 : vN full (pc, cut, (.putfield k0), a, b, cv, w, nxt) = true) (hrI : ((.putfield k0) : Instr) = .ireturn → pI) (hrA : ((.putfield k0) : Instr) = .areturn → pA) (hrV : ((.putfield k0) : Instr) = .return_ → pV) (hkk : ∀ i ls st z, kk (i, ls, st, z) → GG κ p l e R s m args below meth c nL Q z0 zF (pcA full i) ls st z) (hkb : ∀ ls st z, ¬ kk (99999, ls, st, z)) (H : stp (Rn d) Rt kk (nx full (pc, cut, (.putfield k0), a, b, cv, w, nxt) nxt ls st z)) : GG κ p l e R s m args below meth c nL Q z0 zF pc ls st z := by
  obtain ⟨hx, hb, hml, hown, hts, hG, hR1, hR2, hfr, hlo, hC, hini, hRz, hRi, hRa, hRv⟩ := X
  try dsimp only [vX] at hx1
  have hn : pcA full nxt = pc + 3 := of_decide_eq_true hn0
  clear hn0
  split at hx1
  · rename_i C T N hc
    simp only [vFld, Bool.and_eq_true, decide_eq_true_eq, Bool.or_eq_true, Bool.not_eq_true'] at hx1
    obtain ⟨⟨⟨⟨h10, hbN⟩, hw⟩, hkd⟩, hf⟩ := hx1
    have hfin : (T (b / 4)).2.2.2 = true → meth.name = "<init>" ∧ (T (b / 4)).1 = own := fun q => by
      rcases hf with h | h
      · rw [h] at q; cases q
      · exact ⟨hini h.1, h.2⟩
    have hci : a - 10 < 8 := by
      have := (List.getElem?_eq_some_iff.mp hc).1
      simpa [cls] using this
    obtain ⟨-, -, -, hNf⟩ := clOK hc
    have hbN' : b / 4 < nf (a - 10) := by rw [← hNf]; exact hbN
    obtain ⟨t0, t2, -⟩ := fk_ty (a - 10) hci (b / 4) hbN'
    have t1 := fk_rf (a - 10) hci (b / 4) hbN'
    dsimp only [nx] at H
    unfold x_put at H
    split at H
    · rename_i v x st hbk
      obtain ⟨ha, hk⟩ := H
      have hk := hkk _ _ _ _ hk
      rw [hn] at hk
      refine ⟨hk.1, fun H locs lsA a1 hH hS hL => ?_⟩
      have hf0 : fk (a - 10) (b / 4) = 0 := by rw [← hkd]; exact hbk
      refine r_put hx hb hown hts hG hH hS ha h10 hc hbN (wAt_in hw) hfin (v := .int v) (by rw [t0 hf0]; rfl) (by rw [t0 hf0]; rfl) (z' := sI z x (b / 4) v) rfl rfl rfl (fun y hy => u2_ne hy) (fun y hy => rfl) ?_ hd (fun H1 locs1 hH1 hS1 => hk.2 H1 locs1 lsA a1 hH1 hS1 hL)
      intro j
      unfold fval
      by_cases hj : j = b / 4
      · subst hj
        rw [if_neg (by rw [hf0]; decide), if_pos rfl]
        show Value.int (u2 (zI z) x (b / 4) v x (b / 4)) = _
        unfold u2
        rw [if_pos ⟨rfl, rfl⟩]
      · rw [if_neg hj]
        show (if fk (a - 10) j = 1 then va_rf (orf κ (zP z x j)) else Value.int (u2 (zI z) x (b / 4) v x j)) = _
        unfold u2
        simp only [hj, and_false, if_false]
    · rename_i v x st hbk
      obtain ⟨ha, hk⟩ := H
      have hk := hkk _ _ _ _ hk
      rw [hn] at hk
      refine ⟨hk.1, fun H locs lsA a1 hH hS hL => ?_⟩
      have hf0 : fk (a - 10) (b / 4) = 1 := by rw [← hkd]; exact hbk
      refine r_put hx hb hown hts hG hH hS ha h10 hc hbN (wAt_in hw) hfin (v := tr κ (.ref v)) (narrow_rf (t1 hf0) _) (fits_rf (t1 hf0) _) (z' := sP z x (b / 4) v) rfl rfl rfl (fun y hy => rfl) (fun y hy => u2_ne hy) ?_ hd (fun H1 locs1 hH1 hS1 => hk.2 H1 locs1 lsA a1 hH1 hS1 hL)
      intro j
      unfold fval
      by_cases hj : j = b / 4
      · subst hj
        rw [if_pos hf0, if_pos rfl]
        show va_rf (orf κ (u2 (zP z) x (b / 4) v x (b / 4))) = _
        unfold u2
        rw [if_pos ⟨rfl, rfl⟩]
        rfl
      · rw [if_neg hj]
        show (if fk (a - 10) j = 1 then va_rf (orf κ (u2 (zP z) x (b / 4) v x j)) else Value.int (zI z x j)) = _
        unfold u2
        simp only [hj, and_false, if_false]
    · rename_i v x st hbk
      obtain ⟨ha, hk⟩ := H
      have hk := hkk _ _ _ _ hk
      rw [hn] at hk
      refine ⟨hk.1, fun H locs lsA a1 hH hS hL => ?_⟩
      have hf0 : fk (a - 10) (b / 4) = 2 := by rw [← hkd]; exact hbk
      refine r_put hx hb hown hts hG hH hS ha.1 h10 hc hbN (wAt_in hw) hfin (v := .int v) (by rw [t2 hf0]; rcases ha.2 with rfl | rfl <;> rfl) (by rw [t2 hf0]; rcases ha.2 with rfl | rfl <;> rfl) (z' := sI z x (b / 4) v) rfl rfl rfl (fun y hy => u2_ne hy) (fun y hy => rfl) ?_ hd (fun H1 locs1 hH1 hS1 => hk.2 H1 locs1 lsA a1 hH1 hS1 hL)
      intro j
      unfold fval
      by_cases hj : j = b / 4
      · subst hj
        rw [if_neg (by rw [hf0]; decide), if_pos rfl]
        show Value.int (u2 (zI z) x (b / 4) v x (b / 4)) = _
        unfold u2
        rw [if_pos ⟨rfl, rfl⟩]
      · rw [if_neg hj]
        show (if fk (a - 10) j = 1 then va_rf (orf κ (zP z x j)) else Value.int (u2 (zI z) x (b / 4) v x j)) = _
        unfold u2
        simp only [hj, and_false, if_false]
    · exact False.elim H
  · cases hx1
set_option maxHeartbeats 400000 in
theorem st_getstatic {k0 : Nat} (X : HX κ p l e R s m args below meth c nL Q z0 zF cc own full d Rt ini pI pA pV) (hd : decode cc pc = .ok ((.getstatic k0), lnI (.getstatic k0) b)) (hx1 : vX own full nL ini (pc, cut, (.getstatic k0), a, b, cv, w, nxt) = true) (hn0 : vN full (pc, cut, (.getstatic k0), a, b, cv, w, nxt) = true) (hrI : ((.getstatic k0) : Instr) = .ireturn → pI) (hrA : ((.getstatic k0) : Instr) = .areturn → pA) (hrV : ((.getstatic k0) : Instr) = .return_ → pV) (hkk : ∀ i ls st z, kk (i, ls, st, z) → GG κ p l e R s m args below meth c nL Q z0 zF (pcA full i) ls st z) (hkb : ∀ ls st z, ¬ kk (99999, ls, st, z)) (H : stp (Rn d) Rt kk (nx full (pc, cut, (.getstatic k0), a, b, cv, w, nxt) nxt ls st z)) : GG κ p l e R s m args below meth c nL Q z0 zF pc ls st z := by
  obtain ⟨hx, hb, hml, hown, hts, hG, hR1, hR2, hfr, hlo, hC, hini, hRz, hRi, hRa, hRv⟩ := X
  try dsimp only [vX] at hx1
  have hn : pcA full nxt = pc + 3 := of_decide_eq_true hn0
  clear hn0
  simp only [Bool.and_eq_true, decide_eq_true_eq] at hx1
  obtain ⟨⟨h1, h2⟩, hw⟩ := hx1
  have hk := hkk _ _ _ _ H
  rw [hn] at hk
  refine gg1 hk (fun H locs lsA _ _ hH hS hL k => r_gets hx hb hown hts hG hS h1 h2 ?_ hd (k lsA hL))
  cases hbb : Nat.beq b 1 with
  | true => rw [hbb] at hw; exact Or.inr (of_decide_eq_true hw)
  | false => rw [hbb] at hw; exact Or.inl (wAt_in hw)
set_option maxHeartbeats 400000 in
theorem st_iaload (X : HX κ p l e R s m args below meth c nL Q z0 zF cc own full d Rt ini pI pA pV) (hd : decode cc pc = .ok (.iaload, lnI .iaload b)) (hx1 : vX own full nL ini (pc, cut, .iaload, a, b, cv, w, nxt) = true) (hn0 : vN full (pc, cut, .iaload, a, b, cv, w, nxt) = true) (hrI : (.iaload : Instr) = .ireturn → pI) (hrA : (.iaload : Instr) = .areturn → pA) (hrV : (.iaload : Instr) = .return_ → pV) (hkk : ∀ i ls st z, kk (i, ls, st, z) → GG κ p l e R s m args below meth c nL Q z0 zF (pcA full i) ls st z) (hkb : ∀ ls st z, ¬ kk (99999, ls, st, z)) (H : stp (Rn d) Rt kk (nx full (pc, cut, .iaload, a, b, cv, w, nxt) nxt ls st z)) : GG κ p l e R s m args below meth c nL Q z0 zF pc ls st z := by
  obtain ⟨hx, hb, hml, hown, hts, hG, hR1, hR2, hfr, hlo, hC, hini, hRz, hRi, hRa, hRv⟩ := X
  try dsimp only [vX] at hx1
  have hn : pcA full nxt = pc + 1 := of_decide_eq_true hn0
  clear hn0
  replace hx1 := of_decide_eq_true hx1
  dsimp only [nx] at H
  split at H
  · rename_i i x st
    obtain ⟨⟨ha, hin⟩, hk⟩ := H
    have hk := hkk _ _ _ _ hk
    rw [hn] at hk
    exact gg1 hk (fun H locs lsA _ _ hH hS hL k => r_iald hx hb hG hH hS ha hx1 hin hd (k lsA hL))
  · exact False.elim H
set_option maxHeartbeats 400000 in
theorem st_baload (X : HX κ p l e R s m args below meth c nL Q z0 zF cc own full d Rt ini pI pA pV) (hd : decode cc pc = .ok (.baload, lnI .baload b)) (hx1 : vX own full nL ini (pc, cut, .baload, a, b, cv, w, nxt) = true) (hn0 : vN full (pc, cut, .baload, a, b, cv, w, nxt) = true) (hrI : (.baload : Instr) = .ireturn → pI) (hrA : (.baload : Instr) = .areturn → pA) (hrV : (.baload : Instr) = .return_ → pV) (hkk : ∀ i ls st z, kk (i, ls, st, z) → GG κ p l e R s m args below meth c nL Q z0 zF (pcA full i) ls st z) (hkb : ∀ ls st z, ¬ kk (99999, ls, st, z)) (H : stp (Rn d) Rt kk (nx full (pc, cut, .baload, a, b, cv, w, nxt) nxt ls st z)) : GG κ p l e R s m args below meth c nL Q z0 zF pc ls st z := by
  obtain ⟨hx, hb, hml, hown, hts, hG, hR1, hR2, hfr, hlo, hC, hini, hRz, hRi, hRa, hRv⟩ := X
  try dsimp only [vX] at hx1
  have hn : pcA full nxt = pc + 1 := of_decide_eq_true hn0
  clear hn0
  dsimp only [nx] at H
  split at H
  · rename_i i x st
    obtain ⟨⟨ha, hin⟩, hk⟩ := H
    have hk := hkk _ _ _ _ hk
    rw [hn] at hk
    exact gg1 hk (fun H locs lsA _ _ hH hS hL k => r_zald hx hb hG hH ha hin hd (k lsA hL))
  · exact False.elim H
set_option maxHeartbeats 400000 in
theorem st_aaload (X : HX κ p l e R s m args below meth c nL Q z0 zF cc own full d Rt ini pI pA pV) (hd : decode cc pc = .ok (.aaload, lnI .aaload b)) (hx1 : vX own full nL ini (pc, cut, .aaload, a, b, cv, w, nxt) = true) (hn0 : vN full (pc, cut, .aaload, a, b, cv, w, nxt) = true) (hrI : (.aaload : Instr) = .ireturn → pI) (hrA : (.aaload : Instr) = .areturn → pA) (hrV : (.aaload : Instr) = .return_ → pV) (hkk : ∀ i ls st z, kk (i, ls, st, z) → GG κ p l e R s m args below meth c nL Q z0 zF (pcA full i) ls st z) (hkb : ∀ ls st z, ¬ kk (99999, ls, st, z)) (H : stp (Rn d) Rt kk (nx full (pc, cut, .aaload, a, b, cv, w, nxt) nxt ls st z)) : GG κ p l e R s m args below meth c nL Q z0 zF pc ls st z := by
  obtain ⟨hx, hb, hml, hown, hts, hG, hR1, hR2, hfr, hlo, hC, hini, hRz, hRi, hRa, hRv⟩ := X
  try dsimp only [vX] at hx1
  have hn : pcA full nxt = pc + 1 := of_decide_eq_true hn0
  clear hn0
  obtain ⟨h4, h6⟩ := of_decide_eq_true hx1
  dsimp only [nx] at H
  split at H
  · rename_i i x st
    obtain ⟨⟨ha, hin⟩, hk⟩ := H
    have hk := hkk _ _ _ _ hk
    rw [hn] at hk
    exact gg1 hk (fun H locs lsA _ _ hH hS hL k => r_aald hx hb hG hH ha h4 h6 hin hd (k lsA hL))
  · exact False.elim H
set_option maxHeartbeats 400000 in
theorem st_iastore (X : HX κ p l e R s m args below meth c nL Q z0 zF cc own full d Rt ini pI pA pV) (hd : decode cc pc = .ok (.iastore, lnI .iastore b)) (hx1 : vX own full nL ini (pc, cut, .iastore, a, b, cv, w, nxt) = true) (hn0 : vN full (pc, cut, .iastore, a, b, cv, w, nxt) = true) (hrI : (.iastore : Instr) = .ireturn → pI) (hrA : (.iastore : Instr) = .areturn → pA) (hrV : (.iastore : Instr) = .return_ → pV) (hkk : ∀ i ls st z, kk (i, ls, st, z) → GG κ p l e R s m args below meth c nL Q z0 zF (pcA full i) ls st z) (hkb : ∀ ls st z, ¬ kk (99999, ls, st, z)) (H : stp (Rn d) Rt kk (nx full (pc, cut, .iastore, a, b, cv, w, nxt) nxt ls st z)) : GG κ p l e R s m args below meth c nL Q z0 zF pc ls st z := by
  obtain ⟨hx, hb, hml, hown, hts, hG, hR1, hR2, hfr, hlo, hC, hini, hRz, hRi, hRa, hRv⟩ := X
  try dsimp only [vX] at hx1
  have hn : pcA full nxt = pc + 1 := of_decide_eq_true hn0
  clear hn0
  dsimp only [nx] at H
  split at H
  · rename_i v i x st
    obtain ⟨⟨ha, hin⟩, hk⟩ := H
    have hk := hkk _ _ _ _ hk
    rw [hn] at hk
    exact ⟨hk.1, fun H locs lsA a1 hH hS hL => r_ias hx hb hG hH hS ha hin hd (fun H1 locs1 hH1 hS1 => hk.2 H1 locs1 lsA a1 hH1 hS1 hL)⟩
  · exact False.elim H
set_option maxHeartbeats 400000 in
theorem st_bastore (X : HX κ p l e R s m args below meth c nL Q z0 zF cc own full d Rt ini pI pA pV) (hd : decode cc pc = .ok (.bastore, lnI .bastore b)) (hx1 : vX own full nL ini (pc, cut, .bastore, a, b, cv, w, nxt) = true) (hn0 : vN full (pc, cut, .bastore, a, b, cv, w, nxt) = true) (hrI : (.bastore : Instr) = .ireturn → pI) (hrA : (.bastore : Instr) = .areturn → pA) (hrV : (.bastore : Instr) = .return_ → pV) (hkk : ∀ i ls st z, kk (i, ls, st, z) → GG κ p l e R s m args below meth c nL Q z0 zF (pcA full i) ls st z) (hkb : ∀ ls st z, ¬ kk (99999, ls, st, z)) (H : stp (Rn d) Rt kk (nx full (pc, cut, .bastore, a, b, cv, w, nxt) nxt ls st z)) : GG κ p l e R s m args below meth c nL Q z0 zF pc ls st z := by
  obtain ⟨hx, hb, hml, hown, hts, hG, hR1, hR2, hfr, hlo, hC, hini, hRz, hRi, hRa, hRv⟩ := X
  try dsimp only [vX] at hx1
  have hn : pcA full nxt = pc + 1 := of_decide_eq_true hn0
  clear hn0
  dsimp only [nx] at H
  split at H
  · rename_i v i x st
    obtain ⟨⟨ha, hin, h01⟩, hk⟩ := H
    have hk := hkk _ _ _ _ hk
    rw [hn] at hk
    exact ⟨hk.1, fun H locs lsA a1 hH hS hL => r_zas hx hb hG hH hS ha hin h01 hd (fun H1 locs1 hH1 hS1 => hk.2 H1 locs1 lsA a1 hH1 hS1 hL)⟩
  · exact False.elim H
set_option maxHeartbeats 400000 in
theorem st_aastore (X : HX κ p l e R s m args below meth c nL Q z0 zF cc own full d Rt ini pI pA pV) (hd : decode cc pc = .ok (.aastore, lnI .aastore b)) (hx1 : vX own full nL ini (pc, cut, .aastore, a, b, cv, w, nxt) = true) (hn0 : vN full (pc, cut, .aastore, a, b, cv, w, nxt) = true) (hrI : (.aastore : Instr) = .ireturn → pI) (hrA : (.aastore : Instr) = .areturn → pA) (hrV : (.aastore : Instr) = .return_ → pV) (hkk : ∀ i ls st z, kk (i, ls, st, z) → GG κ p l e R s m args below meth c nL Q z0 zF (pcA full i) ls st z) (hkb : ∀ ls st z, ¬ kk (99999, ls, st, z)) (H : stp (Rn d) Rt kk (nx full (pc, cut, .aastore, a, b, cv, w, nxt) nxt ls st z)) : GG κ p l e R s m args below meth c nL Q z0 zF pc ls st z := by
  obtain ⟨hx, hb, hml, hown, hts, hG, hR1, hR2, hfr, hlo, hC, hini, hRz, hRi, hRa, hRv⟩ := X
  try dsimp only [vX] at hx1
  have hn : pcA full nxt = pc + 1 := of_decide_eq_true hn0
  clear hn0
  obtain ⟨h4, h6, hbe⟩ := of_decide_eq_true hx1
  subst hbe
  dsimp only [nx] at H
  split at H
  · rename_i y i x st
    obtain ⟨⟨ha, hin, hy⟩, hk⟩ := H
    have hk := hkk _ _ _ _ hk
    rw [hn] at hk
    exact ⟨hk.1, fun H locs lsA a1 hH hS hL => r_aas hx hb hG hH hS ha h4 h6 hin hy hd (fun H1 locs1 hH1 hS1 => hk.2 H1 locs1 lsA a1 hH1 hS1 hL)⟩
  · exact False.elim H
set_option maxHeartbeats 400000 in
theorem st_arraylength (X : HX κ p l e R s m args below meth c nL Q z0 zF cc own full d Rt ini pI pA pV) (hd : decode cc pc = .ok (.arraylength, lnI .arraylength b)) (hx1 : vX own full nL ini (pc, cut, .arraylength, a, b, cv, w, nxt) = true) (hn0 : vN full (pc, cut, .arraylength, a, b, cv, w, nxt) = true) (hrI : (.arraylength : Instr) = .ireturn → pI) (hrA : (.arraylength : Instr) = .areturn → pA) (hrV : (.arraylength : Instr) = .return_ → pV) (hkk : ∀ i ls st z, kk (i, ls, st, z) → GG κ p l e R s m args below meth c nL Q z0 zF (pcA full i) ls st z) (hkb : ∀ ls st z, ¬ kk (99999, ls, st, z)) (H : stp (Rn d) Rt kk (nx full (pc, cut, .arraylength, a, b, cv, w, nxt) nxt ls st z)) : GG κ p l e R s m args below meth c nL Q z0 zF pc ls st z := by
  obtain ⟨hx, hb, hml, hown, hts, hG, hR1, hR2, hfr, hlo, hC, hini, hRz, hRi, hRa, hRv⟩ := X
  try dsimp only [vX] at hx1
  have hn : pcA full nxt = pc + 1 := of_decide_eq_true hn0
  clear hn0
  dsimp only [nx] at H
  split at H
  · rename_i x st
    obtain ⟨ha, hk⟩ := H
    have hk := hkk _ _ _ _ hk
    rw [hn] at hk
    exact gg1 hk (fun H locs lsA _ _ hH hS hL k => r_alen hx hb hG hH hS ha hd (k lsA hL))
  · exact False.elim H
set_option maxHeartbeats 400000 in
theorem st_new {k0 : Nat} (X : HX κ p l e R s m args below meth c nL Q z0 zF cc own full d Rt ini pI pA pV) (hd : decode cc pc = .ok ((.new k0), lnI (.new k0) b)) (hx1 : vX own full nL ini (pc, cut, (.new k0), a, b, cv, w, nxt) = true) (hn0 : vN full (pc, cut, (.new k0), a, b, cv, w, nxt) = true) (hrI : ((.new k0) : Instr) = .ireturn → pI) (hrA : ((.new k0) : Instr) = .areturn → pA) (hrV : ((.new k0) : Instr) = .return_ → pV) (hkk : ∀ i ls st z, kk (i, ls, st, z) → GG κ p l e R s m args below meth c nL Q z0 zF (pcA full i) ls st z) (hkb : ∀ ls st z, ¬ kk (99999, ls, st, z)) (H : stp (Rn d) Rt kk (nx full (pc, cut, (.new k0), a, b, cv, w, nxt) nxt ls st z)) : GG κ p l e R s m args below meth c nL Q z0 zF pc ls st z := by
  obtain ⟨hx, hb, hml, hown, hts, hG, hR1, hR2, hfr, hlo, hC, hini, hRz, hRi, hRa, hRv⟩ := X
  try dsimp only [vX] at hx1
  have hn : pcA full nxt = pc + 3 := of_decide_eq_true hn0
  clear hn0
  split at hx1
  · rename_i C T N hc
    simp only [Bool.and_eq_true, decide_eq_true_eq] at hx1
    obtain ⟨⟨h10, hbe⟩, hw⟩ := hx1
    subst hbe
    have hk := hkk _ _ _ _ H
    rw [hn] at hk
    refine ⟨(zle_nw z _ _ _).tr hk.1, fun H locs lsA a1 hH hS hL => ?_⟩
    have b1 := hk.1
    have e1 : zn (nw z a 0 b) = zn z + 1 := rfl
    have e2 : zw (nw z a 0 b) = zw z + b := rfl
    have a2 := a1.1
    have a3 := a1.2
    have b2 := b1.1
    have b3 := b1.2
    rw [e1] at b2
    rw [e2] at b3
    refine r_new hx hb hown hts hG hH hS h10 hc (wAt_in hw) (by omega) (by omega) hd (fun H1 hH1 hS1 => ?_)
    have := hk.2 H1 locs lsA (a1.tr (zle_nw z _ _ _)) hH1 hS1 hL
    rw [e1, e2, show zn z + 1 - zn z0 = zn z - zn z0 + 1 by omega, show zw z + b - zw z0 = zw z - zw z0 + b by omega] at this
    exact this
  · cases hx1
set_option maxHeartbeats 400000 in
theorem st_newarray {t : ArrayType} (X : HX κ p l e R s m args below meth c nL Q z0 zF cc own full d Rt ini pI pA pV) (hd : decode cc pc = .ok ((.newarray t), lnI (.newarray t) b)) (hx1 : vX own full nL ini (pc, cut, (.newarray t), a, b, cv, w, nxt) = true) (hn0 : vN full (pc, cut, (.newarray t), a, b, cv, w, nxt) = true) (hrI : ((.newarray t) : Instr) = .ireturn → pI) (hrA : ((.newarray t) : Instr) = .areturn → pA) (hrV : ((.newarray t) : Instr) = .return_ → pV) (hkk : ∀ i ls st z, kk (i, ls, st, z) → GG κ p l e R s m args below meth c nL Q z0 zF (pcA full i) ls st z) (hkb : ∀ ls st z, ¬ kk (99999, ls, st, z)) (H : stp (Rn d) Rt kk (nx full (pc, cut, (.newarray t), a, b, cv, w, nxt) nxt ls st z)) : GG κ p l e R s m args below meth c nL Q z0 zF pc ls st z := by
  obtain ⟨hx, hb, hml, hown, hts, hG, hR1, hR2, hfr, hlo, hC, hini, hRz, hRi, hRa, hRv⟩ := X
  try dsimp only [vX] at hx1
  have hn : pcA full nxt = pc + 2 := of_decide_eq_true hn0
  clear hn0
  replace hx1 := of_decide_eq_true hx1
  dsimp only [nx] at H
  split at H
  · rename_i n st
    obtain ⟨⟨hn0, hn1⟩, hk⟩ := H
    have hk := hkk _ _ _ _ hk
    rw [hn] at hk
    refine ⟨(zle_nw z _ _ _).tr hk.1, fun H locs lsA a1 hH hS hL => ?_⟩
    have b1 := hk.1
    have e1 : zn (nw z a n.toNatClampNeg n.toNatClampNeg) = zn z + 1 := rfl
    have e2 : zw (nw z a n.toNatClampNeg n.toNatClampNeg) = zw z + n.toNatClampNeg := rfl
    have a2 := a1.1
    have a3 := a1.2
    have b2 := b1.1
    have b3 := b1.2
    rw [e1] at b2
    rw [e2] at b3
    refine r_newa hx hb hts hG hH hS hx1 hn0 hn1 (by omega) (by omega) hd (fun H1 hH1 hS1 => ?_)
    have := hk.2 H1 locs lsA (a1.tr (zle_nw z _ _ _)) hH1 hS1 hL
    rw [e1, e2, show zn z + 1 - zn z0 = zn z - zn z0 + 1 by omega, show zw z + n.toNatClampNeg - zw z0 = zw z - zw z0 + n.toNatClampNeg by omega] at this
    exact this
  · exact False.elim H
set_option maxHeartbeats 400000 in
theorem st_anewarray {k0 : Nat} (X : HX κ p l e R s m args below meth c nL Q z0 zF cc own full d Rt ini pI pA pV) (hd : decode cc pc = .ok ((.anewarray k0), lnI (.anewarray k0) b)) (hx1 : vX own full nL ini (pc, cut, (.anewarray k0), a, b, cv, w, nxt) = true) (hn0 : vN full (pc, cut, (.anewarray k0), a, b, cv, w, nxt) = true) (hrI : ((.anewarray k0) : Instr) = .ireturn → pI) (hrA : ((.anewarray k0) : Instr) = .areturn → pA) (hrV : ((.anewarray k0) : Instr) = .return_ → pV) (hkk : ∀ i ls st z, kk (i, ls, st, z) → GG κ p l e R s m args below meth c nL Q z0 zF (pcA full i) ls st z) (hkb : ∀ ls st z, ¬ kk (99999, ls, st, z)) (H : stp (Rn d) Rt kk (nx full (pc, cut, (.anewarray k0), a, b, cv, w, nxt) nxt ls st z)) : GG κ p l e R s m args below meth c nL Q z0 zF pc ls st z := by
  obtain ⟨hx, hb, hml, hown, hts, hG, hR1, hR2, hfr, hlo, hC, hini, hRz, hRi, hRa, hRv⟩ := X
  try dsimp only [vX] at hx1
  have hn : pcA full nxt = pc + 3 := of_decide_eq_true hn0
  clear hn0
  simp only [Bool.and_eq_true, decide_eq_true_eq] at hx1
  obtain ⟨⟨h4, h6⟩, hx1⟩ := hx1
  split at hx1
  · rename_i C T N hc
    dsimp only [nx] at H
    split at H
    · rename_i n st
      obtain ⟨⟨hn0, hn1⟩, hk⟩ := H
      have hk := hkk _ _ _ _ hk
      rw [hn] at hk
      refine ⟨(zle_nw z _ _ _).tr hk.1, fun H locs lsA a1 hH hS hL => ?_⟩
      have b1 := hk.1
      have e1 : zn (nw z a n.toNatClampNeg n.toNatClampNeg) = zn z + 1 := rfl
      have e2 : zw (nw z a n.toNatClampNeg n.toNatClampNeg) = zw z + n.toNatClampNeg := rfl
      have a2 := a1.1
      have a3 := a1.2
      have b2 := b1.1
      have b3 := b1.2
      rw [e1] at b2
      rw [e2] at b3
      refine r_newr hx hb hown hts hG hH hS h4 h6 hc (wAt_in hx1) hn0 hn1 (by omega) (by omega) hd (fun H1 hH1 hS1 => ?_)
      have := hk.2 H1 locs lsA (a1.tr (zle_nw z _ _ _)) hH1 hS1 hL
      rw [e1, e2, show zn z + 1 - zn z0 = zn z - zn z0 + 1 by omega, show zw z + n.toNatClampNeg - zw z0 = zw z - zw z0 + n.toNatClampNeg by omega] at this
      exact this
    · exact False.elim H
  · cases hx1
set_option maxHeartbeats 400000 in
theorem st_invokevirtual {k0 : Nat} (X : HX κ p l e R s m args below meth c nL Q z0 zF cc own full d Rt ini pI pA pV) (hd : decode cc pc = .ok ((.invokevirtual k0), lnI (.invokevirtual k0) b)) (hx1 : vX own full nL ini (pc, cut, (.invokevirtual k0), a, b, cv, w, nxt) = true) (hn0 : vN full (pc, cut, (.invokevirtual k0), a, b, cv, w, nxt) = true) (hrI : ((.invokevirtual k0) : Instr) = .ireturn → pI) (hrA : ((.invokevirtual k0) : Instr) = .areturn → pA) (hrV : ((.invokevirtual k0) : Instr) = .return_ → pV) (hkk : ∀ i ls st z, kk (i, ls, st, z) → GG κ p l e R s m args below meth c nL Q z0 zF (pcA full i) ls st z) (hkb : ∀ ls st z, ¬ kk (99999, ls, st, z)) (H : stp (Rn d) Rt kk (nx full (pc, cut, (.invokevirtual k0), a, b, cv, w, nxt) nxt ls st z)) : GG κ p l e R s m args below meth c nL Q z0 zF pc ls st z := by
  obtain ⟨hx, hb, hml, hown, hts, hG, hR1, hR2, hfr, hlo, hC, hini, hRz, hRi, hRa, hRv⟩ := X
  try dsimp only [vX] at hx1
  have hn : pcA full nxt = pc + 3 := of_decide_eq_true hn0
  clear hn0
  simp only [Bool.and_eq_true, decide_eq_true_eq] at hx1
  obtain ⟨⟨hmi, hk3, hbe⟩, hw⟩ := hx1
  dsimp only [nx] at H
  split at H
  · rename_i av st' htk
    cases hsc : Nat.ble (scat st') 8 with
    | false => rw [hsc] at H; exact False.elim H
    | true =>
    rw [hsc] at H
    have hsc := Nat.le_of_ble_eq_true hsc
    obtain ⟨r, z', hrn, hk⟩ := H
    have hk := hkk _ _ _ _ hk
    rw [hn] at hk
    have hct := hC _ _ _ _ _ hmi hrn
    obtain ⟨pre, hav, hst, hlen⟩ := tk_spec _ _ _ _ _ htk
    rw [List.append_nil] at hav
    subst hav
    refine ⟨(rn_mono _ _ _ _ _ _ hrn).tr hk.1, fun H locs lsA a1 hH hS hL => ?_⟩
    have m1 := rn_mono _ _ _ _ _ _ hrn
    have b1 := hk.1
    have i1 : zn z0 ≤ zn z := a1.1
    have i2 : zw z0 ≤ zw z := a1.2
    have i3 : zn z ≤ zn z' := m1.1
    have i4 : zw z ≤ zw z' := m1.2
    have i5 : zn z' ≤ zn zF := b1.1
    have i6 : zw z' ≤ zw zF := b1.2
    have fin : ∀ (H1 : Heap) (locs1 : List Loc), Hp κ z' H1 → va_S (AA κ) s.heap H1 locs1 → W p l e R s m args below meth c H1 locs1 (zn z - zn z0 + (zn z' - zn z)) (zw z - zw z0 + (zw z' - zw z)) Q (F0 m (pc + 3) lsA ((r.map (tr κ)).toList ++ st'.map (tr κ))) := by
      intro H1 locs1 hH1 hS1
      have := hk.2 H1 locs1 lsA (a1.tr m1) hH1 hS1 hL
      rw [show zn z - zn z0 + (zn z' - zn z) = zn z' - zn z0 by omega, show zw z - zw z0 + (zw z' - zw z) = zw z' - zw z0 by omega]
      rw [List.map_append] at this
      cases r <;> exact this
    obtain ⟨x, av', hav, hrc⟩ := rcv_of (rn_rcv hrn) (rk_pos hmi hk3)
    subst hav
    have hst2 : st.map (tr κ) = (av'.map (tr κ)).reverse ++ tr κ (.ref x) :: st'.map (tr κ) := by rw [hst]; simp
    rw [hst2]
    exact r_virt hx hb hml hown hts hG hH hS hL.1 hfr hlo hmi hk3 hct hrc (by simp at hlen; omega) (wAt_in hw) hsc (by omega) (by omega) hd fin
  · exact False.elim H
set_option maxHeartbeats 400000 in
theorem st_invokestatic {k0 : Nat} (X : HX κ p l e R s m args below meth c nL Q z0 zF cc own full d Rt ini pI pA pV) (hd : decode cc pc = .ok ((.invokestatic k0), lnI (.invokestatic k0) b)) (hx1 : vX own full nL ini (pc, cut, (.invokestatic k0), a, b, cv, w, nxt) = true) (hn0 : vN full (pc, cut, (.invokestatic k0), a, b, cv, w, nxt) = true) (hrI : ((.invokestatic k0) : Instr) = .ireturn → pI) (hrA : ((.invokestatic k0) : Instr) = .areturn → pA) (hrV : ((.invokestatic k0) : Instr) = .return_ → pV) (hkk : ∀ i ls st z, kk (i, ls, st, z) → GG κ p l e R s m args below meth c nL Q z0 zF (pcA full i) ls st z) (hkb : ∀ ls st z, ¬ kk (99999, ls, st, z)) (H : stp (Rn d) Rt kk (nx full (pc, cut, (.invokestatic k0), a, b, cv, w, nxt) nxt ls st z)) : GG κ p l e R s m args below meth c nL Q z0 zF pc ls st z := by
  obtain ⟨hx, hb, hml, hown, hts, hG, hR1, hR2, hfr, hlo, hC, hini, hRz, hRi, hRa, hRv⟩ := X
  try dsimp only [vX] at hx1
  have hn : pcA full nxt = pc + 3 := of_decide_eq_true hn0
  clear hn0
  simp only [Bool.and_eq_true, decide_eq_true_eq] at hx1
  obtain ⟨⟨hmi, hk3, hbe⟩, hw⟩ := hx1
  have hw : Cond.methodLink own k0 (my a) ∈ gw ∨ Cond.methodLinkNest own k0 (my a) "ClubStrokes" ∈ nestW := by
    split at hw
    · exact Or.inr (of_decide_eq_true hw)
    · exact Or.inl (wAt_in hw)
  dsimp only [nx] at H
  split at H
  · rename_i av st' htk
    cases hsc : Nat.ble (scat st') 8 with
    | false => rw [hsc] at H; exact False.elim H
    | true =>
    rw [hsc] at H
    have hsc := Nat.le_of_ble_eq_true hsc
    obtain ⟨r, z', hrn, hk⟩ := H
    have hk := hkk _ _ _ _ hk
    rw [hn] at hk
    have hct := hC _ _ _ _ _ hmi hrn
    obtain ⟨pre, hav, hst, hlen⟩ := tk_spec _ _ _ _ _ htk
    rw [List.append_nil] at hav
    subst hav
    refine ⟨(rn_mono _ _ _ _ _ _ hrn).tr hk.1, fun H locs lsA a1 hH hS hL => ?_⟩
    have m1 := rn_mono _ _ _ _ _ _ hrn
    have b1 := hk.1
    have i1 : zn z0 ≤ zn z := a1.1
    have i2 : zw z0 ≤ zw z := a1.2
    have i3 : zn z ≤ zn z' := m1.1
    have i4 : zw z ≤ zw z' := m1.2
    have i5 : zn z' ≤ zn zF := b1.1
    have i6 : zw z' ≤ zw zF := b1.2
    have fin : ∀ (H1 : Heap) (locs1 : List Loc), Hp κ z' H1 → va_S (AA κ) s.heap H1 locs1 → W p l e R s m args below meth c H1 locs1 (zn z - zn z0 + (zn z' - zn z)) (zw z - zw z0 + (zw z' - zw z)) Q (F0 m (pc + 3) lsA ((r.map (tr κ)).toList ++ st'.map (tr κ))) := by
      intro H1 locs1 hH1 hS1
      have := hk.2 H1 locs1 lsA (a1.tr m1) hH1 hS1 hL
      rw [show zn z - zn z0 + (zn z' - zn z) = zn z' - zn z0 by omega, show zw z - zw z0 + (zw z' - zw z) = zw z' - zw z0 by omega]
      rw [List.map_append] at this
      cases r <;> exact this
    have hst2 : st.map (tr κ) = (av.map (tr κ)).reverse ++ st'.map (tr κ) := by rw [hst]; simp
    rw [hst2]
    exact r_stat hx hb hml hown hts hG hH hS hL.1 hfr hlo hmi hk3 hct (by omega) hw hsc (by omega) (by omega) hd fin
  · exact False.elim H
set_option maxHeartbeats 400000 in
theorem st_invokespecial {k0 : Nat} (X : HX κ p l e R s m args below meth c nL Q z0 zF cc own full d Rt ini pI pA pV) (hd : decode cc pc = .ok ((.invokespecial k0), lnI (.invokespecial k0) b)) (hx1 : vX own full nL ini (pc, cut, (.invokespecial k0), a, b, cv, w, nxt) = true) (hn0 : vN full (pc, cut, (.invokespecial k0), a, b, cv, w, nxt) = true) (hrI : ((.invokespecial k0) : Instr) = .ireturn → pI) (hrA : ((.invokespecial k0) : Instr) = .areturn → pA) (hrV : ((.invokespecial k0) : Instr) = .return_ → pV) (hkk : ∀ i ls st z, kk (i, ls, st, z) → GG κ p l e R s m args below meth c nL Q z0 zF (pcA full i) ls st z) (hkb : ∀ ls st z, ¬ kk (99999, ls, st, z)) (H : stp (Rn d) Rt kk (nx full (pc, cut, (.invokespecial k0), a, b, cv, w, nxt) nxt ls st z)) : GG κ p l e R s m args below meth c nL Q z0 zF pc ls st z := by
  obtain ⟨hx, hb, hml, hown, hts, hG, hR1, hR2, hfr, hlo, hC, hini, hRz, hRi, hRa, hRv⟩ := X
  try dsimp only [vX] at hx1
  have hn : pcA full nxt = pc + 3 := of_decide_eq_true hn0
  clear hn0
  cases h99 : Nat.beq a 9999 with
  | true =>
    rw [h99] at hx1
    dsimp only [nx] at H
    rw [h99] at H
    dsimp only [cond] at H hx1
    split at H
    · rename_i x st'
      cases hsc : Nat.ble (scat st') 8 with
      | false => rw [hsc] at H; exact False.elim H
      | true =>
      rw [hsc] at H
      have hsc := Nat.le_of_ble_eq_true hsc
      have hk := hkk _ _ _ _ H.2
      rw [hn] at hk
      refine gg1 hk (fun H2 locs lsA _ _ hH hS hL k => ?_)
      rw [List.map_cons, tr_ref H.1]
      exact W.objInit hx hb hown (hts _ (wAt_in hx1)) (hts _ obj_in.1) (hts _ obj_in.2) (g := F0 m pc lsA (.ref (adr κ x) :: st'.map (tr κ))) rfl (by rw [hml]; exact hL.1) rfl hd (by omega) (by
        have := lv_room (m := m) (pc := pc) (ls := lsA) (rest := .ref (adr κ x) :: st'.map (tr κ)) (st := st'.map (tr κ)) (by rw [scat_tr]; exact hsc)
        omega) (k lsA hL)
    · exact False.elim H
  | false =>
    rw [h99] at hx1
    simp only [cond, Bool.and_eq_true, decide_eq_true_eq] at hx1
    obtain ⟨⟨hmi, hk3, hbe⟩, hw⟩ := hx1
    have hw : Cond.methodLink own k0 (my a) ∈ gw ∨ Cond.methodLinkNest own k0 (my a) "ClubStrokes" ∈ nestW := by
      split at hw
      · exact Or.inr (of_decide_eq_true hw)
      · exact Or.inl (wAt_in hw)
    dsimp only [nx] at H
    rw [h99] at H
    dsimp only [cond] at H
    split at H
    · rename_i av st' htk
      cases hsc : Nat.ble (scat st') 8 with
      | false => rw [hsc] at H; exact False.elim H
      | true =>
      rw [hsc] at H
      have hsc := Nat.le_of_ble_eq_true hsc
      obtain ⟨r, z', hrn, hk⟩ := H
      have hk := hkk _ _ _ _ hk
      rw [hn] at hk
      have hct := hC _ _ _ _ _ hmi hrn
      obtain ⟨pre, hav, hst, hlen⟩ := tk_spec _ _ _ _ _ htk
      rw [List.append_nil] at hav
      subst hav
      refine ⟨(rn_mono _ _ _ _ _ _ hrn).tr hk.1, fun H locs lsA a1 hH hS hL => ?_⟩
      have m1 := rn_mono _ _ _ _ _ _ hrn
      have b1 := hk.1
      have i1 : zn z0 ≤ zn z := a1.1
      have i2 : zw z0 ≤ zw z := a1.2
      have i3 : zn z ≤ zn z' := m1.1
      have i4 : zw z ≤ zw z' := m1.2
      have i5 : zn z' ≤ zn zF := b1.1
      have i6 : zw z' ≤ zw zF := b1.2
      have fin : ∀ (H1 : Heap) (locs1 : List Loc), Hp κ z' H1 → va_S (AA κ) s.heap H1 locs1 → W p l e R s m args below meth c H1 locs1 (zn z - zn z0 + (zn z' - zn z)) (zw z - zw z0 + (zw z' - zw z)) Q (F0 m (pc + 3) lsA ((r.map (tr κ)).toList ++ st'.map (tr κ))) := by
        intro H1 locs1 hH1 hS1
        have := hk.2 H1 locs1 lsA (a1.tr m1) hH1 hS1 hL
        rw [show zn z - zn z0 + (zn z' - zn z) = zn z' - zn z0 by omega, show zw z - zw z0 + (zw z' - zw z) = zw z' - zw z0 by omega]
        rw [List.map_append] at this
        cases r <;> exact this
      obtain ⟨x, av', hav, hx0⟩ := init_of hrn hmi hk3
      subst hav
      have hst2 : st.map (tr κ) = (av'.map (tr κ)).reverse ++ tr κ (.ref x) :: st'.map (tr κ) := by rw [hst]; simp
      rw [hst2]
      exact r_init hx hb hml hown hts hG hH hS hL.1 hfr hlo hx0 hmi hk3 hct (by simp at hlen; omega) hw hsc (by omega) (by omega) hd fin
    · exact False.elim H
set_option maxHeartbeats 400000 in
theorem st_ireturn (X : HX κ p l e R s m args below meth c nL Q z0 zF cc own full d Rt ini pI pA pV) (hd : decode cc pc = .ok (.ireturn, lnI .ireturn b)) (hx1 : vX own full nL ini (pc, cut, .ireturn, a, b, cv, w, nxt) = true) (hn0 : vN full (pc, cut, .ireturn, a, b, cv, w, nxt) = true) (hrI : (.ireturn : Instr) = .ireturn → pI) (hrA : (.ireturn : Instr) = .areturn → pA) (hrV : (.ireturn : Instr) = .return_ → pV) (hkk : ∀ i ls st z, kk (i, ls, st, z) → GG κ p l e R s m args below meth c nL Q z0 zF (pcA full i) ls st z) (hkb : ∀ ls st z, ¬ kk (99999, ls, st, z)) (H : stp (Rn d) Rt kk (nx full (pc, cut, .ireturn, a, b, cv, w, nxt) nxt ls st z)) : GG κ p l e R s m args below meth c nL Q z0 zF pc ls st z := by
  obtain ⟨hx, hb, hml, hown, hts, hG, hR1, hR2, hfr, hlo, hC, hini, hRz, hRi, hRa, hRv⟩ := X
  try dsimp only [vX] at hx1
  dsimp only [nx] at H
  split at H
  · rename_i v
    exact ⟨hRz _ _ H, fun H2 locs lsA a1 hH hS hL => hRi (hrI rfl) v z H2 locs lsA pc H a1 hH hS hd⟩
  · exact False.elim H
set_option maxHeartbeats 400000 in
theorem st_areturn (X : HX κ p l e R s m args below meth c nL Q z0 zF cc own full d Rt ini pI pA pV) (hd : decode cc pc = .ok (.areturn, lnI .areturn b)) (hx1 : vX own full nL ini (pc, cut, .areturn, a, b, cv, w, nxt) = true) (hn0 : vN full (pc, cut, .areturn, a, b, cv, w, nxt) = true) (hrI : (.areturn : Instr) = .ireturn → pI) (hrA : (.areturn : Instr) = .areturn → pA) (hrV : (.areturn : Instr) = .return_ → pV) (hkk : ∀ i ls st z, kk (i, ls, st, z) → GG κ p l e R s m args below meth c nL Q z0 zF (pcA full i) ls st z) (hkb : ∀ ls st z, ¬ kk (99999, ls, st, z)) (H : stp (Rn d) Rt kk (nx full (pc, cut, .areturn, a, b, cv, w, nxt) nxt ls st z)) : GG κ p l e R s m args below meth c nL Q z0 zF pc ls st z := by
  obtain ⟨hx, hb, hml, hown, hts, hG, hR1, hR2, hfr, hlo, hC, hini, hRz, hRi, hRa, hRv⟩ := X
  try dsimp only [vX] at hx1
  dsimp only [nx] at H
  split at H
  · rename_i v
    exact ⟨hRz _ _ H, fun H2 locs lsA a1 hH hS hL => hRa (hrA rfl) v z H2 locs lsA pc H a1 hH hS hd⟩
  · exact False.elim H
set_option maxHeartbeats 400000 in
theorem st_return_ (X : HX κ p l e R s m args below meth c nL Q z0 zF cc own full d Rt ini pI pA pV) (hd : decode cc pc = .ok (.return_, lnI .return_ b)) (hx1 : vX own full nL ini (pc, cut, .return_, a, b, cv, w, nxt) = true) (hn0 : vN full (pc, cut, .return_, a, b, cv, w, nxt) = true) (hrI : (.return_ : Instr) = .ireturn → pI) (hrA : (.return_ : Instr) = .areturn → pA) (hrV : (.return_ : Instr) = .return_ → pV) (hkk : ∀ i ls st z, kk (i, ls, st, z) → GG κ p l e R s m args below meth c nL Q z0 zF (pcA full i) ls st z) (hkb : ∀ ls st z, ¬ kk (99999, ls, st, z)) (H : stp (Rn d) Rt kk (nx full (pc, cut, .return_, a, b, cv, w, nxt) nxt ls st z)) : GG κ p l e R s m args below meth c nL Q z0 zF pc ls st z := by
  obtain ⟨hx, hb, hml, hown, hts, hG, hR1, hR2, hfr, hlo, hC, hini, hRz, hRi, hRa, hRv⟩ := X
  try dsimp only [vX] at hx1
  dsimp only [nx] at H
  split at H
  · exact ⟨hRz _ _ H, fun H2 locs lsA a1 hH hS hL => hRv (hrV rfl) z H2 locs lsA pc H a1 hH hS hd⟩
  · exact False.elim H
end Sound
