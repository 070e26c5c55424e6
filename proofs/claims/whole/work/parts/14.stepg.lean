section Sound
variable {κ : KP} {p : Program} {l : Launch} {e : Env} {R : Room} {s : State} {m : MethodId} {args : Array Value} {below : List Frame} {meth : Method} {c : Code} {nL : Nat} {Q : State → Prop} {z0 zF : ZS}
variable {cc : ByteArray} {own : String} {full : List Ez} {d : Nat} {Rt : Option Value → ZS → Prop} {ini : Bool}
variable {pI pA pV : Prop} {kk : Zt → Prop} {pc cut a b w nxt : Nat} {cv : Value} {ls st : List Value} {z : ZS}
set_option maxHeartbeats 4000000 in
theorem step_G (X : HX κ p l e R s m args below meth c nL Q z0 zF cc own full d Rt ini pI pA pV) {en : Ez} (hv : vE own cc full nL ini en = true) (hrI : en.2.2.1 = .ireturn → pI) (hrA : en.2.2.1 = .areturn → pA) (hrV : en.2.2.1 = .return_ → pV) (hkk : ∀ i ls st z, kk (i, ls, st, z) → GG κ p l e R s m args below meth c nL Q z0 zF (pcA full i) ls st z) (hkb : ∀ ls st z, ¬ kk (99999, ls, st, z)) (H : stp (Rn d) Rt kk (nx full en en.2.2.2.2.2.2.2 ls st z)) : GG κ p l e R s m args below meth c nL Q z0 zF en.1 ls st z := by
  obtain ⟨pc, cut, I, a, b, cv, w, nxt⟩ := en
  rw [vE_eq] at hv
  simp only [Bool.and_eq_true] at hv
  obtain ⟨⟨hd0, hx1⟩, hn⟩ := hv
  have hd := of_decide_eq_true hd0
  clear hd0
  show GG κ p l e R s m args below meth c nL Q z0 zF pc ls st z
  cases I
  case iload_n => exact st_iload_n X hd hx1 hn hrI hrA hrV hkk hkb H
  case aload_n => exact st_aload_n X hd hx1 hn hrI hrA hrV hkk hkb H
  case lload_n => exact st_lload_n X hd hx1 hn hrI hrA hrV hkk hkb H
  case iload => exact st_iload X hd hx1 hn hrI hrA hrV hkk hkb H
  case aload => exact st_aload X hd hx1 hn hrI hrA hrV hkk hkb H
  case istore_n => exact st_istore_n X hd hx1 hn hrI hrA hrV hkk hkb H
  case istore => exact st_istore X hd hx1 hn hrI hrA hrV hkk hkb H
  case astore_n => exact st_astore_n X hd hx1 hn hrI hrA hrV hkk hkb H
  case astore => exact st_astore X hd hx1 hn hrI hrA hrV hkk hkb H
  case iconst => exact st_iconst X hd hx1 hn hrI hrA hrV hkk hkb H
  case bipush => exact st_bipush X hd hx1 hn hrI hrA hrV hkk hkb H
  case sipush => exact st_sipush X hd hx1 hn hrI hrA hrV hkk hkb H
  case ldc => exact st_ldc X hd hx1 hn hrI hrA hrV hkk hkb H
  case ldc2_w => exact st_ldc2_w X hd hx1 hn hrI hrA hrV hkk hkb H
  case aconst_null => exact st_aconst_null X hd hx1 hn hrI hrA hrV hkk hkb H
  case iinc => exact st_iinc X hd hx1 hn hrI hrA hrV hkk hkb H
  case dup => exact st_dup X hd hx1 hn hrI hrA hrV hkk hkb H
  case dup2 => exact st_dup2 X hd hx1 hn hrI hrA hrV hkk hkb H
  case iadd => exact st_iadd X hd hx1 hn hrI hrA hrV hkk hkb H
  case isub => exact st_isub X hd hx1 hn hrI hrA hrV hkk hkb H
  case imul => exact st_imul X hd hx1 hn hrI hrA hrV hkk hkb H
  case iand => exact st_iand X hd hx1 hn hrI hrA hrV hkk hkb H
  case ixor => exact st_ixor X hd hx1 hn hrI hrA hrV hkk hkb H
  case land => exact st_land X hd hx1 hn hrI hrA hrV hkk hkb H
  case lor => exact st_lor X hd hx1 hn hrI hrA hrV hkk hkb H
  case lshl => exact st_lshl X hd hx1 hn hrI hrA hrV hkk hkb H
  case lshr => exact st_lshr X hd hx1 hn hrI hrA hrV hkk hkb H
  case lushr => exact st_lushr X hd hx1 hn hrI hrA hrV hkk hkb H
  case i2l => exact st_i2l X hd hx1 hn hrI hrA hrV hkk hkb H
  case l2i => exact st_l2i X hd hx1 hn hrI hrA hrV hkk hkb H
  case ineg => exact st_ineg X hd hx1 hn hrI hrA hrV hkk hkb H
  case idiv => exact st_idiv X hd hx1 hn hrI hrA hrV hkk hkb H
  case irem => exact st_irem X hd hx1 hn hrI hrA hrV hkk hkb H
  case if_icmp => exact st_if_icmp X hd hx1 hn hrI hrA hrV hkk hkb H
  case ifCond => exact st_ifCond X hd hx1 hn hrI hrA hrV hkk hkb H
  case if_acmp => exact st_if_acmp X hd hx1 hn hrI hrA hrV hkk hkb H
  case ifnull => exact st_ifnull X hd hx1 hn hrI hrA hrV hkk hkb H
  case ifnonnull => exact st_ifnonnull X hd hx1 hn hrI hrA hrV hkk hkb H
  case goto => exact st_goto X hd hx1 hn hrI hrA hrV hkk hkb H
  case tableswitch => exact st_tableswitch X hd hx1 hn hrI hrA hrV hkk hkb H
  case lookupswitch => exact st_lookupswitch X hd hx1 hn hrI hrA hrV hkk hkb H
  case getfield => exact st_getfield X hd hx1 hn hrI hrA hrV hkk hkb H
  case putfield => exact st_putfield X hd hx1 hn hrI hrA hrV hkk hkb H
  case getstatic => exact st_getstatic X hd hx1 hn hrI hrA hrV hkk hkb H
  case iaload => exact st_iaload X hd hx1 hn hrI hrA hrV hkk hkb H
  case baload => exact st_baload X hd hx1 hn hrI hrA hrV hkk hkb H
  case aaload => exact st_aaload X hd hx1 hn hrI hrA hrV hkk hkb H
  case iastore => exact st_iastore X hd hx1 hn hrI hrA hrV hkk hkb H
  case bastore => exact st_bastore X hd hx1 hn hrI hrA hrV hkk hkb H
  case aastore => exact st_aastore X hd hx1 hn hrI hrA hrV hkk hkb H
  case arraylength => exact st_arraylength X hd hx1 hn hrI hrA hrV hkk hkb H
  case new => exact st_new X hd hx1 hn hrI hrA hrV hkk hkb H
  case newarray => exact st_newarray X hd hx1 hn hrI hrA hrV hkk hkb H
  case anewarray => exact st_anewarray X hd hx1 hn hrI hrA hrV hkk hkb H
  case invokevirtual => exact st_invokevirtual X hd hx1 hn hrI hrA hrV hkk hkb H
  case invokestatic => exact st_invokestatic X hd hx1 hn hrI hrA hrV hkk hkb H
  case invokespecial => exact st_invokespecial X hd hx1 hn hrI hrA hrV hkk hkb H
  case ireturn => exact st_ireturn X hd hx1 hn hrI hrA hrV hkk hkb H
  case areturn => exact st_areturn X hd hx1 hn hrI hrA hrV hkk hkb H
  case return_ => exact st_return_ X hd hx1 hn hrI hrA hrV hkk hkb H
  all_goals exact False.elim H
end Sound
