/-! the tables hold what the bytes say, by wip/whole/gen/gen3.py -/
def nestW : List Cond := [(Jvm.Cond.methodLinkNest "ClubStrokes" (29 : Nat) ({ cls := "ClubStrokes$Rights", name := "<init>", desc := "()V" } : Jvm.MethodName) "ClubStrokes"),
  (Jvm.Cond.methodLinkNest "ClubStrokes" (36 : Nat) ({ cls := "ClubStrokes$Best", name := "<init>", desc := "()V" } : Jvm.MethodName) "ClubStrokes"),
  (Jvm.Cond.methodLinkNest "ClubStrokes" (58 : Nat) ({ cls := "ClubStrokes$Player", name := "<init>", desc := "()V" } : Jvm.MethodName) "ClubStrokes"),
  (Jvm.Cond.methodLinkNest "ClubStrokes$Course" (28 : Nat) ({ cls := "ClubStrokes", name := "isHole", desc := "(I)Z" } : Jvm.MethodName) "ClubStrokes"),
  (Jvm.Cond.methodLinkNest "ClubStrokes$Course" (36 : Nat) ({ cls := "ClubStrokes", name := "rounded", desc := "(II)I" } : Jvm.MethodName) "ClubStrokes"),
  (Jvm.Cond.methodLinkNest "ClubStrokes$Card" (102 : Nat) ({ cls := "ClubStrokes", name := "rounded", desc := "(II)I" } : Jvm.MethodName) "ClubStrokes"),
  (Jvm.Cond.fieldLinkNest "ClubStrokes$Best" (63 : Nat) "ClubStrokes" "MAKING" "[I" "ClubStrokes"),
  (Jvm.Cond.methodLinkNest "ClubStrokes$Best" (45 : Nat) ({ cls := "ClubStrokes", name := "rounded", desc := "(II)I" } : Jvm.MethodName) "ClubStrokes"),
  (Jvm.Cond.fieldLinkNest "ClubStrokes$Best" (66 : Nat) "ClubStrokes" "TAKEN_OFF" "[I" "ClubStrokes")]
theorem nestW_in : ∀ w ∈ nestW, w ∈ lw_tbl := by decide +kernel
def snm : Nat → String
  | 1 => "NO_HOLES" | 2 => "MAKING" | 3 => "TAKEN_OFF" | _ => "PLACED_FROM"
/-- the class of the elements of an array of references -/
def elc : Nat → Nat
  | 4 => 2 | 5 => 3 | 6 => 1 | _ => 99
def lnI (i : Instr) (b : Nat) : Nat := match i with
  | .iload _ => 2 | .aload _ => 2 | .istore _ => 2 | .astore _ => 2 | .bipush _ => 2 | .sipush _ => 3 | .ldc _ => 2 | .ldc2_w _ => 3 | .iinc _ _ => 3
  | .if_icmp _ _ => 3 | .ifCond _ _ => 3 | .if_acmp _ _ => 3 | .ifnull _ => 3 | .ifnonnull _ => 3 | .goto _ => 3
  | .getfield _ => 3 | .putfield _ => 3 | .getstatic _ => 3 | .new _ => 3 | .newarray _ => 2 | .anewarray _ => 3 | .invokevirtual _ => 3 | .invokestatic _ => 3 | .invokespecial _ => 3
  | .tableswitch _ _ _ _ => b | .lookupswitch _ _ => b
  | _ => 1
def vFld (own : String) (w k a b : Nat) (C : String) (T : u_T) (N : Nat) : Bool := decide (10 ≤ a) && decide (b / 4 < N) && wAt w (.fieldLink own k (T (b / 4)).1 (T (b / 4)).2.1 (T (b / 4)).2.2.1)
def vE (own : String) (cc : ByteArray) (full : List Ez) (nL : Nat) (ini : Bool) (e : Ez) : Bool :=
  decide (decode cc e.1 = .ok (e.2.2.1, lnI e.2.2.1 e.2.2.2.2.1)) && (match e.2.2.1 with
  | .iload_n k => decide (k.val = e.2.2.2.1)
  | .aload_n k => decide (k.val = e.2.2.2.1)
  | .lload_n k => decide (k.val = e.2.2.2.1)
  | .iload k => decide (k = e.2.2.2.1)
  | .aload k => decide (k = e.2.2.2.1)
  | .istore_n k => decide (k.val = e.2.2.2.1 ∧ e.2.2.2.1 < nL)
  | .astore_n k => decide (k.val = e.2.2.2.1 ∧ e.2.2.2.1 < nL)
  | .istore k => decide (k = e.2.2.2.1 ∧ e.2.2.2.1 < nL)
  | .astore k => decide (k = e.2.2.2.1 ∧ e.2.2.2.1 < nL)
  | .iconst n => decide (e.2.2.2.2.2.1 = .int (Int32.ofInt n))
  | .bipush n => decide (e.2.2.2.2.2.1 = .int (Int8.ofInt n).toInt32)
  | .sipush n => decide (e.2.2.2.2.2.1 = .int (Int16.ofInt n).toInt32)
  | .ldc k => (match e.2.2.2.2.2.1 with
    | .int v => wAt e.2.2.2.2.2.2.1 (.constant own k v)
    | _ => false)
  | .ldc2_w k => (match e.2.2.2.2.2.1 with
    | .long v => wAt e.2.2.2.2.2.2.1 (.constantLong own k v)
    | _ => false)
  | .iinc k n => decide (k = e.2.2.2.1 ∧ e.2.2.2.1 < nL ∧ e.2.2.2.2.2.1 = .int (Int32.ofInt n))
  | .if_icmp _ o => decide ((e.1 : Int) + o = (pcA full e.2.2.2.1 : Int))
  | .ifCond _ o => decide ((e.1 : Int) + o = (pcA full e.2.2.2.1 : Int))
  | .if_acmp _ o => decide ((e.1 : Int) + o = (pcA full e.2.2.2.1 : Int))
  | .ifnull o => decide ((e.1 : Int) + o = (pcA full e.2.2.2.1 : Int))
  | .ifnonnull o => decide ((e.1 : Int) + o = (pcA full e.2.2.2.1 : Int))
  | .goto o => decide ((e.1 : Int) + o = (pcA full e.2.2.2.1 : Int))
  | .tableswitch d lo hi offs => decide (hi + 1 = lo + (offs.toList.length : Int)) && (d :: offs.toList).all (fun o => decide ((e.1 : Int) + o = (pcA full (fnd full ((e.1 : Int) + o).toNat 0) : Int)))
  | .lookupswitch d ps => (ps.toList.zip (ps.toList.drop 1)).all (fun (a, next) => a.1 < next.1) && (d :: ps.toList.map (fun q => q.2)).all (fun o => decide ((e.1 : Int) + o = (pcA full (fnd full ((e.1 : Int) + o).toNat 0) : Int)))
  | .getfield k => (match cls[e.2.2.2.1 - 10]? with
    | some (C, T, N) => vFld own e.2.2.2.2.2.2.1 k e.2.2.2.1 e.2.2.2.2.1 C T N && (decide (e.2.2.2.2.1 % 4 = 1 ∨ e.2.2.2.2.1 % 4 = 3) == decide (fk (e.2.2.2.1 - 10) (e.2.2.2.2.1 / 4) = 1))
    | none => false)
  | .putfield k => (match cls[e.2.2.2.1 - 10]? with
    | some (C, T, N) => vFld own e.2.2.2.2.2.2.1 k e.2.2.2.1 e.2.2.2.2.1 C T N && decide (e.2.2.2.2.1 % 4 = fk (e.2.2.2.1 - 10) (e.2.2.2.2.1 / 4)) && (!(T (e.2.2.2.2.1 / 4)).2.2.2 || (ini && decide ((T (e.2.2.2.2.1 / 4)).1 = own)))
    | none => false)
  | .getstatic k => decide (1 ≤ e.2.2.2.1 ∧ e.2.2.2.1 < 5) && (bif Nat.beq e.2.2.2.2.1 1 then decide (Cond.fieldLinkNest own k "ClubStrokes" (snm e.2.2.2.1) "[I" "ClubStrokes" ∈ nestW) else wAt e.2.2.2.2.2.2.1 (.fieldLink own k "ClubStrokes" (snm e.2.2.2.1) "[I"))
  | .iaload => decide (e.2.2.2.1 = 1 ∨ e.2.2.2.1 = 3)
  | .aaload => decide (4 ≤ e.2.2.2.1 ∧ e.2.2.2.1 ≤ 6)
  | .aastore => decide (4 ≤ e.2.2.2.1 ∧ e.2.2.2.1 ≤ 6 ∧ e.2.2.2.2.1 = 10 + elc e.2.2.2.1)
  | .new k => (match cls[e.2.2.2.1 - 10]? with
    | some (C, _, N) => decide (10 ≤ e.2.2.2.1 ∧ e.2.2.2.2.1 = N) && wAt e.2.2.2.2.2.2.1 (.classLink own k C)
    | none => false)
  | .newarray t => decide ((t = .int ∧ e.2.2.2.1 = 1) ∨ (t = .boolean ∧ e.2.2.2.1 = 2))
  | .anewarray k => decide (4 ≤ e.2.2.2.1 ∧ e.2.2.2.1 ≤ 6) && (match cls[elc e.2.2.2.1]? with
    | some (C, _, _) => wAt e.2.2.2.2.2.2.1 (.classLink own k C)
    | none => false)
  | .invokevirtual k => decide (e.2.2.2.1 < 174 ∧ mk3 e.2.2.2.1 = 2 ∧ e.2.2.2.2.1 = mp e.2.2.2.1 + 1) && wAt e.2.2.2.2.2.2.1 (.methodLink own k (my e.2.2.2.1))
  | .invokestatic k => decide (e.2.2.2.1 < 174 ∧ mk3 e.2.2.2.1 = 0 ∧ e.2.2.2.2.1 = mp e.2.2.2.1) && (match e.2.2.2.2.2.1 with
    | .int _ => decide (Cond.methodLinkNest own k (my e.2.2.2.1) "ClubStrokes" ∈ nestW)
    | _ => wAt e.2.2.2.2.2.2.1 (.methodLink own k (my e.2.2.2.1)))
  | .invokespecial k => (bif Nat.beq e.2.2.2.1 9999 then wAt e.2.2.2.2.2.2.1 (.methodLink own k objectInit) else decide (e.2.2.2.1 < 174 ∧ mk3 e.2.2.2.1 = 1 ∧ e.2.2.2.2.1 = mp e.2.2.2.1 + 1) && (match e.2.2.2.2.2.1 with
    | .int _ => decide (Cond.methodLinkNest own k (my e.2.2.2.1) "ClubStrokes" ∈ nestW)
    | _ => wAt e.2.2.2.2.2.2.1 (.methodLink own k (my e.2.2.2.1))))
  | _ => true) && (match e.2.2.1 with
  | .goto _ => true
  | .tableswitch _ _ _ _ => true
  | .lookupswitch _ _ => true
  | .ireturn => true
  | .areturn => true
  | .return_ => true
  | _ => decide (pcA full e.2.2.2.2.2.2.2 = e.1 + lnI e.2.2.1 e.2.2.2.2.1))
set_option maxRecDepth 100000 in
theorem vT_0 : (tb 0).all (vE (my 0).cls (mb 0) (tb 0) (mx 0) false) = true := by decide +kernel
set_option maxRecDepth 100000 in
theorem vT_1 : (tb 1).all (vE (my 1).cls (mb 1) (tb 1) (mx 1) false) = true := by decide +kernel
set_option maxRecDepth 100000 in
theorem vT_2 : (tb 2).all (vE (my 2).cls (mb 2) (tb 2) (mx 2) false) = true := by decide +kernel
set_option maxRecDepth 100000 in
theorem vT_3 : (tb 3).all (vE (my 3).cls (mb 3) (tb 3) (mx 3) false) = true := by decide +kernel
set_option maxRecDepth 100000 in
theorem vT_4 : (tb 4).all (vE (my 4).cls (mb 4) (tb 4) (mx 4) false) = true := by decide +kernel
set_option maxRecDepth 100000 in
theorem vT_5 : (tb 5).all (vE (my 5).cls (mb 5) (tb 5) (mx 5) false) = true := by decide +kernel
set_option maxRecDepth 100000 in
theorem vT_6 : (tb 6).all (vE (my 6).cls (mb 6) (tb 6) (mx 6) true) = true := by decide +kernel
set_option maxRecDepth 100000 in
theorem vT_7 : (tb 7).all (vE (my 7).cls (mb 7) (tb 7) (mx 7) false) = true := by decide +kernel
set_option maxRecDepth 100000 in
theorem vT_8 : (tb 8).all (vE (my 8).cls (mb 8) (tb 8) (mx 8) false) = true := by decide +kernel
set_option maxRecDepth 100000 in
theorem vT_9 : (tb 9).all (vE (my 9).cls (mb 9) (tb 9) (mx 9) false) = true := by decide +kernel
set_option maxRecDepth 100000 in
theorem vT_10 : (tb 10).all (vE (my 10).cls (mb 10) (tb 10) (mx 10) false) = true := by decide +kernel
set_option maxRecDepth 100000 in
theorem vT_11 : (tb 11).all (vE (my 11).cls (mb 11) (tb 11) (mx 11) false) = true := by decide +kernel
set_option maxRecDepth 100000 in
theorem vT_12 : (tb 12).all (vE (my 12).cls (mb 12) (tb 12) (mx 12) true) = true := by decide +kernel
set_option maxRecDepth 100000 in
theorem vT_13 : (tb 13).all (vE (my 13).cls (mb 13) (tb 13) (mx 13) false) = true := by decide +kernel
set_option maxRecDepth 100000 in
theorem vT_14 : (tb 14).all (vE (my 14).cls (mb 14) (tb 14) (mx 14) false) = true := by decide +kernel
set_option maxRecDepth 100000 in
theorem vT_15 : (tb 15).all (vE (my 15).cls (mb 15) (tb 15) (mx 15) false) = true := by decide +kernel
set_option maxRecDepth 100000 in
theorem vT_16 : (tb 16).all (vE (my 16).cls (mb 16) (tb 16) (mx 16) false) = true := by decide +kernel
set_option maxRecDepth 100000 in
theorem vT_17 : (tb 17).all (vE (my 17).cls (mb 17) (tb 17) (mx 17) false) = true := by decide +kernel
set_option maxRecDepth 100000 in
theorem vT_18 : (tb 18).all (vE (my 18).cls (mb 18) (tb 18) (mx 18) false) = true := by decide +kernel
set_option maxRecDepth 100000 in
theorem vT_19 : (tb 19).all (vE (my 19).cls (mb 19) (tb 19) (mx 19) false) = true := by decide +kernel
set_option maxRecDepth 100000 in
theorem vT_20 : (tb 20).all (vE (my 20).cls (mb 20) (tb 20) (mx 20) false) = true := by decide +kernel
set_option maxRecDepth 100000 in
theorem vT_21 : (tb 21).all (vE (my 21).cls (mb 21) (tb 21) (mx 21) false) = true := by decide +kernel
set_option maxRecDepth 100000 in
theorem vT_22 : (tb 22).all (vE (my 22).cls (mb 22) (tb 22) (mx 22) false) = true := by decide +kernel
set_option maxRecDepth 100000 in
theorem vT_23 : (tb 23).all (vE (my 23).cls (mb 23) (tb 23) (mx 23) false) = true := by decide +kernel
set_option maxRecDepth 100000 in
theorem vT_24 : (tb 24).all (vE (my 24).cls (mb 24) (tb 24) (mx 24) false) = true := by decide +kernel
set_option maxRecDepth 100000 in
theorem vT_25 : (tb 25).all (vE (my 25).cls (mb 25) (tb 25) (mx 25) false) = true := by decide +kernel
set_option maxRecDepth 100000 in
theorem vT_26 : (tb 26).all (vE (my 26).cls (mb 26) (tb 26) (mx 26) false) = true := by decide +kernel
set_option maxRecDepth 100000 in
theorem vT_27 : (tb 27).all (vE (my 27).cls (mb 27) (tb 27) (mx 27) false) = true := by decide +kernel
set_option maxRecDepth 100000 in
theorem vT_28 : (tb 28).all (vE (my 28).cls (mb 28) (tb 28) (mx 28) false) = true := by decide +kernel
set_option maxRecDepth 100000 in
theorem vT_29 : (tb 29).all (vE (my 29).cls (mb 29) (tb 29) (mx 29) false) = true := by decide +kernel
set_option maxRecDepth 100000 in
theorem vT_30 : (tb 30).all (vE (my 30).cls (mb 30) (tb 30) (mx 30) true) = true := by decide +kernel
set_option maxRecDepth 100000 in
theorem vT_31 : (tb 31).all (vE (my 31).cls (mb 31) (tb 31) (mx 31) false) = true := by decide +kernel
set_option maxRecDepth 100000 in
theorem vT_32 : (tb 32).all (vE (my 32).cls (mb 32) (tb 32) (mx 32) false) = true := by decide +kernel
set_option maxRecDepth 100000 in
theorem vT_33 : (tb 33).all (vE (my 33).cls (mb 33) (tb 33) (mx 33) false) = true := by decide +kernel
set_option maxRecDepth 100000 in
theorem vT_34 : (tb 34).all (vE (my 34).cls (mb 34) (tb 34) (mx 34) false) = true := by decide +kernel
set_option maxRecDepth 100000 in
theorem vT_35 : (tb 35).all (vE (my 35).cls (mb 35) (tb 35) (mx 35) false) = true := by decide +kernel
set_option maxRecDepth 100000 in
theorem vT_36 : (tb 36).all (vE (my 36).cls (mb 36) (tb 36) (mx 36) false) = true := by decide +kernel
set_option maxRecDepth 100000 in
theorem vT_37 : (tb 37).all (vE (my 37).cls (mb 37) (tb 37) (mx 37) true) = true := by decide +kernel
set_option maxRecDepth 100000 in
theorem vT_38 : (tb 38).all (vE (my 38).cls (mb 38) (tb 38) (mx 38) false) = true := by decide +kernel
set_option maxRecDepth 100000 in
theorem vT_39 : (tb 39).all (vE (my 39).cls (mb 39) (tb 39) (mx 39) false) = true := by decide +kernel
set_option maxRecDepth 100000 in
theorem vT_40 : (tb 40).all (vE (my 40).cls (mb 40) (tb 40) (mx 40) false) = true := by decide +kernel
set_option maxRecDepth 100000 in
theorem vT_41 : (tb 41).all (vE (my 41).cls (mb 41) (tb 41) (mx 41) false) = true := by decide +kernel
set_option maxRecDepth 100000 in
theorem vT_42 : (tb 42).all (vE (my 42).cls (mb 42) (tb 42) (mx 42) false) = true := by decide +kernel
set_option maxRecDepth 100000 in
theorem vT_43 : (tb 43).all (vE (my 43).cls (mb 43) (tb 43) (mx 43) false) = true := by decide +kernel
set_option maxRecDepth 100000 in
theorem vT_44 : (tb 44).all (vE (my 44).cls (mb 44) (tb 44) (mx 44) false) = true := by decide +kernel
set_option maxRecDepth 100000 in
theorem vT_45 : (tb 45).all (vE (my 45).cls (mb 45) (tb 45) (mx 45) false) = true := by decide +kernel
set_option maxRecDepth 100000 in
theorem vT_46 : (tb 46).all (vE (my 46).cls (mb 46) (tb 46) (mx 46) false) = true := by decide +kernel
set_option maxRecDepth 100000 in
theorem vT_47 : (tb 47).all (vE (my 47).cls (mb 47) (tb 47) (mx 47) false) = true := by decide +kernel
set_option maxRecDepth 100000 in
theorem vT_48 : (tb 48).all (vE (my 48).cls (mb 48) (tb 48) (mx 48) false) = true := by decide +kernel
set_option maxRecDepth 100000 in
theorem vT_49 : (tb 49).all (vE (my 49).cls (mb 49) (tb 49) (mx 49) true) = true := by decide +kernel
set_option maxRecDepth 100000 in
theorem vT_50 : (tb 50).all (vE (my 50).cls (mb 50) (tb 50) (mx 50) false) = true := by decide +kernel
set_option maxRecDepth 100000 in
theorem vT_51 : (tb 51).all (vE (my 51).cls (mb 51) (tb 51) (mx 51) false) = true := by decide +kernel
set_option maxRecDepth 100000 in
theorem vT_52 : (tb 52).all (vE (my 52).cls (mb 52) (tb 52) (mx 52) false) = true := by decide +kernel
set_option maxRecDepth 100000 in
theorem vT_53 : (tb 53).all (vE (my 53).cls (mb 53) (tb 53) (mx 53) false) = true := by decide +kernel
set_option maxRecDepth 100000 in
theorem vT_54 : (tb 54).all (vE (my 54).cls (mb 54) (tb 54) (mx 54) false) = true := by decide +kernel
set_option maxRecDepth 100000 in
theorem vT_55 : (tb 55).all (vE (my 55).cls (mb 55) (tb 55) (mx 55) true) = true := by decide +kernel
set_option maxRecDepth 100000 in
theorem vT_56 : (tb 56).all (vE (my 56).cls (mb 56) (tb 56) (mx 56) false) = true := by decide +kernel
set_option maxRecDepth 100000 in
theorem vT_57 : (tb 57).all (vE (my 57).cls (mb 57) (tb 57) (mx 57) false) = true := by decide +kernel
set_option maxRecDepth 100000 in
theorem vT_58 : (tb 58).all (vE (my 58).cls (mb 58) (tb 58) (mx 58) true) = true := by decide +kernel
set_option maxRecDepth 100000 in
theorem vT_59 : (tb 59).all (vE (my 59).cls (mb 59) (tb 59) (mx 59) false) = true := by decide +kernel
set_option maxRecDepth 100000 in
theorem vT_60 : (tb 60).all (vE (my 60).cls (mb 60) (tb 60) (mx 60) false) = true := by decide +kernel
set_option maxRecDepth 100000 in
theorem vT_61 : (tb 61).all (vE (my 61).cls (mb 61) (tb 61) (mx 61) false) = true := by decide +kernel
set_option maxRecDepth 100000 in
theorem vT_62 : (tb 62).all (vE (my 62).cls (mb 62) (tb 62) (mx 62) false) = true := by decide +kernel
set_option maxRecDepth 100000 in
theorem vT_63 : (tb 63).all (vE (my 63).cls (mb 63) (tb 63) (mx 63) false) = true := by decide +kernel
set_option maxRecDepth 100000 in
theorem vT_64 : (tb 64).all (vE (my 64).cls (mb 64) (tb 64) (mx 64) false) = true := by decide +kernel
set_option maxRecDepth 100000 in
theorem vT_65 : (tb 65).all (vE (my 65).cls (mb 65) (tb 65) (mx 65) false) = true := by decide +kernel
set_option maxRecDepth 100000 in
theorem vT_66 : (tb 66).all (vE (my 66).cls (mb 66) (tb 66) (mx 66) false) = true := by decide +kernel
set_option maxRecDepth 100000 in
theorem vT_67 : (tb 67).all (vE (my 67).cls (mb 67) (tb 67) (mx 67) false) = true := by decide +kernel
set_option maxRecDepth 100000 in
theorem vT_68 : (tb 68).all (vE (my 68).cls (mb 68) (tb 68) (mx 68) false) = true := by decide +kernel
set_option maxRecDepth 100000 in
theorem vT_69 : (tb 69).all (vE (my 69).cls (mb 69) (tb 69) (mx 69) false) = true := by decide +kernel
set_option maxRecDepth 100000 in
theorem vT_70 : (tb 70).all (vE (my 70).cls (mb 70) (tb 70) (mx 70) false) = true := by decide +kernel
set_option maxRecDepth 100000 in
theorem vT_71 : (tb 71).all (vE (my 71).cls (mb 71) (tb 71) (mx 71) false) = true := by decide +kernel
set_option maxRecDepth 100000 in
theorem vT_72 : (tb 72).all (vE (my 72).cls (mb 72) (tb 72) (mx 72) false) = true := by decide +kernel
set_option maxRecDepth 100000 in
theorem vT_73 : (tb 73).all (vE (my 73).cls (mb 73) (tb 73) (mx 73) false) = true := by decide +kernel
set_option maxRecDepth 100000 in
theorem vT_74 : (tb 74).all (vE (my 74).cls (mb 74) (tb 74) (mx 74) false) = true := by decide +kernel
set_option maxRecDepth 100000 in
theorem vT_75 : (tb 75).all (vE (my 75).cls (mb 75) (tb 75) (mx 75) false) = true := by decide +kernel
set_option maxRecDepth 100000 in
theorem vT_76 : (tb 76).all (vE (my 76).cls (mb 76) (tb 76) (mx 76) false) = true := by decide +kernel
set_option maxRecDepth 100000 in
theorem vT_77 : (tb 77).all (vE (my 77).cls (mb 77) (tb 77) (mx 77) false) = true := by decide +kernel
set_option maxRecDepth 100000 in
theorem vT_78 : (tb 78).all (vE (my 78).cls (mb 78) (tb 78) (mx 78) false) = true := by decide +kernel
set_option maxRecDepth 100000 in
theorem vT_79 : (tb 79).all (vE (my 79).cls (mb 79) (tb 79) (mx 79) false) = true := by decide +kernel
set_option maxRecDepth 100000 in
theorem vT_80 : (tb 80).all (vE (my 80).cls (mb 80) (tb 80) (mx 80) false) = true := by decide +kernel
set_option maxRecDepth 100000 in
theorem vT_81 : (tb 81).all (vE (my 81).cls (mb 81) (tb 81) (mx 81) false) = true := by decide +kernel
set_option maxRecDepth 100000 in
theorem vT_82 : (tb 82).all (vE (my 82).cls (mb 82) (tb 82) (mx 82) false) = true := by decide +kernel
set_option maxRecDepth 100000 in
theorem vT_83 : (tb 83).all (vE (my 83).cls (mb 83) (tb 83) (mx 83) false) = true := by decide +kernel
set_option maxRecDepth 100000 in
theorem vT_84 : (tb 84).all (vE (my 84).cls (mb 84) (tb 84) (mx 84) false) = true := by decide +kernel
set_option maxRecDepth 100000 in
theorem vT_85 : (tb 85).all (vE (my 85).cls (mb 85) (tb 85) (mx 85) false) = true := by decide +kernel
set_option maxRecDepth 100000 in
theorem vT_86 : (tb 86).all (vE (my 86).cls (mb 86) (tb 86) (mx 86) false) = true := by decide +kernel
set_option maxRecDepth 100000 in
theorem vT_87 : (tb 87).all (vE (my 87).cls (mb 87) (tb 87) (mx 87) false) = true := by decide +kernel
set_option maxRecDepth 100000 in
theorem vT_88 : (tb 88).all (vE (my 88).cls (mb 88) (tb 88) (mx 88) false) = true := by decide +kernel
set_option maxRecDepth 100000 in
theorem vT_89 : (tb 89).all (vE (my 89).cls (mb 89) (tb 89) (mx 89) false) = true := by decide +kernel
set_option maxRecDepth 100000 in
theorem vT_90 : (tb 90).all (vE (my 90).cls (mb 90) (tb 90) (mx 90) false) = true := by decide +kernel
set_option maxRecDepth 100000 in
theorem vT_91 : (tb 91).all (vE (my 91).cls (mb 91) (tb 91) (mx 91) false) = true := by decide +kernel
set_option maxRecDepth 100000 in
theorem vT_92 : (tb 92).all (vE (my 92).cls (mb 92) (tb 92) (mx 92) false) = true := by decide +kernel
set_option maxRecDepth 100000 in
theorem vT_93 : (tb 93).all (vE (my 93).cls (mb 93) (tb 93) (mx 93) false) = true := by decide +kernel
set_option maxRecDepth 100000 in
theorem vT_94 : (tb 94).all (vE (my 94).cls (mb 94) (tb 94) (mx 94) false) = true := by decide +kernel
set_option maxRecDepth 100000 in
theorem vT_95 : (tb 95).all (vE (my 95).cls (mb 95) (tb 95) (mx 95) false) = true := by decide +kernel
set_option maxRecDepth 100000 in
theorem vT_96 : (tb 96).all (vE (my 96).cls (mb 96) (tb 96) (mx 96) false) = true := by decide +kernel
set_option maxRecDepth 100000 in
theorem vT_97 : (tb 97).all (vE (my 97).cls (mb 97) (tb 97) (mx 97) false) = true := by decide +kernel
set_option maxRecDepth 100000 in
theorem vT_98 : (tb 98).all (vE (my 98).cls (mb 98) (tb 98) (mx 98) false) = true := by decide +kernel
set_option maxRecDepth 100000 in
theorem vT_99 : (tb 99).all (vE (my 99).cls (mb 99) (tb 99) (mx 99) false) = true := by decide +kernel
set_option maxRecDepth 100000 in
theorem vT_100 : (tb 100).all (vE (my 100).cls (mb 100) (tb 100) (mx 100) false) = true := by decide +kernel
set_option maxRecDepth 100000 in
theorem vT_101 : (tb 101).all (vE (my 101).cls (mb 101) (tb 101) (mx 101) false) = true := by decide +kernel
set_option maxRecDepth 100000 in
theorem vT_102 : (tb 102).all (vE (my 102).cls (mb 102) (tb 102) (mx 102) false) = true := by decide +kernel
set_option maxRecDepth 100000 in
theorem vT_103 : (tb 103).all (vE (my 103).cls (mb 103) (tb 103) (mx 103) false) = true := by decide +kernel
set_option maxRecDepth 100000 in
theorem vT_104 : (tb 104).all (vE (my 104).cls (mb 104) (tb 104) (mx 104) false) = true := by decide +kernel
set_option maxRecDepth 100000 in
theorem vT_105 : (tb 105).all (vE (my 105).cls (mb 105) (tb 105) (mx 105) true) = true := by decide +kernel
set_option maxRecDepth 100000 in
theorem vT_106 : (tb 106).all (vE (my 106).cls (mb 106) (tb 106) (mx 106) false) = true := by decide +kernel
set_option maxRecDepth 100000 in
theorem vT_107 : (tb 107).all (vE (my 107).cls (mb 107) (tb 107) (mx 107) false) = true := by decide +kernel
set_option maxRecDepth 100000 in
theorem vT_108 : (tb 108).all (vE (my 108).cls (mb 108) (tb 108) (mx 108) false) = true := by decide +kernel
set_option maxRecDepth 100000 in
theorem vT_109 : (tb 109).all (vE (my 109).cls (mb 109) (tb 109) (mx 109) false) = true := by decide +kernel
set_option maxRecDepth 100000 in
theorem vT_110 : (tb 110).all (vE (my 110).cls (mb 110) (tb 110) (mx 110) false) = true := by decide +kernel
set_option maxRecDepth 100000 in
theorem vT_111 : (tb 111).all (vE (my 111).cls (mb 111) (tb 111) (mx 111) false) = true := by decide +kernel
set_option maxRecDepth 100000 in
theorem vT_112 : (tb 112).all (vE (my 112).cls (mb 112) (tb 112) (mx 112) false) = true := by decide +kernel
set_option maxRecDepth 100000 in
theorem vT_113 : (tb 113).all (vE (my 113).cls (mb 113) (tb 113) (mx 113) false) = true := by decide +kernel
set_option maxRecDepth 100000 in
theorem vT_114 : (tb 114).all (vE (my 114).cls (mb 114) (tb 114) (mx 114) false) = true := by decide +kernel
set_option maxRecDepth 100000 in
theorem vT_115 : (tb 115).all (vE (my 115).cls (mb 115) (tb 115) (mx 115) false) = true := by decide +kernel
set_option maxRecDepth 100000 in
theorem vT_116 : (tb 116).all (vE (my 116).cls (mb 116) (tb 116) (mx 116) false) = true := by decide +kernel
set_option maxRecDepth 100000 in
theorem vT_117 : (tb 117).all (vE (my 117).cls (mb 117) (tb 117) (mx 117) false) = true := by decide +kernel
set_option maxRecDepth 100000 in
theorem vT_118 : (tb 118).all (vE (my 118).cls (mb 118) (tb 118) (mx 118) false) = true := by decide +kernel
set_option maxRecDepth 100000 in
theorem vT_119 : (tb 119).all (vE (my 119).cls (mb 119) (tb 119) (mx 119) false) = true := by decide +kernel
set_option maxRecDepth 100000 in
theorem vT_120 : (tb 120).all (vE (my 120).cls (mb 120) (tb 120) (mx 120) false) = true := by decide +kernel
set_option maxRecDepth 100000 in
theorem vT_121 : (tb 121).all (vE (my 121).cls (mb 121) (tb 121) (mx 121) false) = true := by decide +kernel
set_option maxRecDepth 100000 in
theorem vT_122 : (tb 122).all (vE (my 122).cls (mb 122) (tb 122) (mx 122) false) = true := by decide +kernel
set_option maxRecDepth 100000 in
theorem vT_123 : (tb 123).all (vE (my 123).cls (mb 123) (tb 123) (mx 123) false) = true := by decide +kernel
set_option maxRecDepth 100000 in
theorem vT_124 : (tb 124).all (vE (my 124).cls (mb 124) (tb 124) (mx 124) false) = true := by decide +kernel
set_option maxRecDepth 100000 in
theorem vT_125 : (tb 125).all (vE (my 125).cls (mb 125) (tb 125) (mx 125) false) = true := by decide +kernel
set_option maxRecDepth 100000 in
theorem vT_126 : (tb 126).all (vE (my 126).cls (mb 126) (tb 126) (mx 126) false) = true := by decide +kernel
set_option maxRecDepth 100000 in
theorem vT_127 : (tb 127).all (vE (my 127).cls (mb 127) (tb 127) (mx 127) false) = true := by decide +kernel
set_option maxRecDepth 100000 in
theorem vT_128 : (tb 128).all (vE (my 128).cls (mb 128) (tb 128) (mx 128) false) = true := by decide +kernel
set_option maxRecDepth 100000 in
theorem vT_129 : (tb 129).all (vE (my 129).cls (mb 129) (tb 129) (mx 129) false) = true := by decide +kernel
set_option maxRecDepth 100000 in
theorem vT_130 : (tb 130).all (vE (my 130).cls (mb 130) (tb 130) (mx 130) false) = true := by decide +kernel
set_option maxRecDepth 100000 in
theorem vT_131 : (tb 131).all (vE (my 131).cls (mb 131) (tb 131) (mx 131) false) = true := by decide +kernel
set_option maxRecDepth 100000 in
theorem vT_132 : (tb 132).all (vE (my 132).cls (mb 132) (tb 132) (mx 132) false) = true := by decide +kernel
set_option maxRecDepth 100000 in
theorem vT_133 : (tb 133).all (vE (my 133).cls (mb 133) (tb 133) (mx 133) false) = true := by decide +kernel
set_option maxRecDepth 100000 in
theorem vT_134 : (tb 134).all (vE (my 134).cls (mb 134) (tb 134) (mx 134) false) = true := by decide +kernel
set_option maxRecDepth 100000 in
theorem vT_135 : (tb 135).all (vE (my 135).cls (mb 135) (tb 135) (mx 135) false) = true := by decide +kernel
set_option maxRecDepth 100000 in
theorem vT_136 : (tb 136).all (vE (my 136).cls (mb 136) (tb 136) (mx 136) false) = true := by decide +kernel
set_option maxRecDepth 100000 in
theorem vT_137 : (tb 137).all (vE (my 137).cls (mb 137) (tb 137) (mx 137) false) = true := by decide +kernel
set_option maxRecDepth 100000 in
theorem vT_138 : (tb 138).all (vE (my 138).cls (mb 138) (tb 138) (mx 138) false) = true := by decide +kernel
set_option maxRecDepth 100000 in
theorem vT_139 : (tb 139).all (vE (my 139).cls (mb 139) (tb 139) (mx 139) false) = true := by decide +kernel
set_option maxRecDepth 100000 in
theorem vT_140 : (tb 140).all (vE (my 140).cls (mb 140) (tb 140) (mx 140) false) = true := by decide +kernel
set_option maxRecDepth 100000 in
theorem vT_141 : (tb 141).all (vE (my 141).cls (mb 141) (tb 141) (mx 141) false) = true := by decide +kernel
set_option maxRecDepth 100000 in
theorem vT_142 : (tb 142).all (vE (my 142).cls (mb 142) (tb 142) (mx 142) false) = true := by decide +kernel
set_option maxRecDepth 100000 in
theorem vT_143 : (tb 143).all (vE (my 143).cls (mb 143) (tb 143) (mx 143) false) = true := by decide +kernel
set_option maxRecDepth 100000 in
theorem vT_144 : (tb 144).all (vE (my 144).cls (mb 144) (tb 144) (mx 144) false) = true := by decide +kernel
set_option maxRecDepth 100000 in
theorem vT_145 : (tb 145).all (vE (my 145).cls (mb 145) (tb 145) (mx 145) false) = true := by decide +kernel
set_option maxRecDepth 100000 in
theorem vT_146 : (tb 146).all (vE (my 146).cls (mb 146) (tb 146) (mx 146) false) = true := by decide +kernel
set_option maxRecDepth 100000 in
theorem vT_147 : (tb 147).all (vE (my 147).cls (mb 147) (tb 147) (mx 147) false) = true := by decide +kernel
set_option maxRecDepth 100000 in
theorem vT_148 : (tb 148).all (vE (my 148).cls (mb 148) (tb 148) (mx 148) false) = true := by decide +kernel
set_option maxRecDepth 100000 in
theorem vT_149 : (tb 149).all (vE (my 149).cls (mb 149) (tb 149) (mx 149) false) = true := by decide +kernel
set_option maxRecDepth 100000 in
theorem vT_150 : (tb 150).all (vE (my 150).cls (mb 150) (tb 150) (mx 150) false) = true := by decide +kernel
set_option maxRecDepth 100000 in
theorem vT_151 : (tb 151).all (vE (my 151).cls (mb 151) (tb 151) (mx 151) false) = true := by decide +kernel
set_option maxRecDepth 100000 in
theorem vT_152 : (tb 152).all (vE (my 152).cls (mb 152) (tb 152) (mx 152) false) = true := by decide +kernel
set_option maxRecDepth 100000 in
theorem vT_153 : (tb 153).all (vE (my 153).cls (mb 153) (tb 153) (mx 153) false) = true := by decide +kernel
set_option maxRecDepth 100000 in
theorem vT_154 : (tb 154).all (vE (my 154).cls (mb 154) (tb 154) (mx 154) false) = true := by decide +kernel
set_option maxRecDepth 100000 in
theorem vT_155 : (tb 155).all (vE (my 155).cls (mb 155) (tb 155) (mx 155) false) = true := by decide +kernel
set_option maxRecDepth 100000 in
theorem vT_156 : (tb 156).all (vE (my 156).cls (mb 156) (tb 156) (mx 156) false) = true := by decide +kernel
set_option maxRecDepth 100000 in
theorem vT_157 : (tb 157).all (vE (my 157).cls (mb 157) (tb 157) (mx 157) false) = true := by decide +kernel
set_option maxRecDepth 100000 in
theorem vT_158 : (tb 158).all (vE (my 158).cls (mb 158) (tb 158) (mx 158) false) = true := by decide +kernel
set_option maxRecDepth 100000 in
theorem vT_159 : (tb 159).all (vE (my 159).cls (mb 159) (tb 159) (mx 159) false) = true := by decide +kernel
set_option maxRecDepth 100000 in
theorem vT_160 : (tb 160).all (vE (my 160).cls (mb 160) (tb 160) (mx 160) false) = true := by decide +kernel
set_option maxRecDepth 100000 in
theorem vT_161 : (tb 161).all (vE (my 161).cls (mb 161) (tb 161) (mx 161) false) = true := by decide +kernel
set_option maxRecDepth 100000 in
theorem vT_162 : (tb 162).all (vE (my 162).cls (mb 162) (tb 162) (mx 162) false) = true := by decide +kernel
set_option maxRecDepth 100000 in
theorem vT_163 : (tb 163).all (vE (my 163).cls (mb 163) (tb 163) (mx 163) false) = true := by decide +kernel
set_option maxRecDepth 100000 in
theorem vT_164 : (tb 164).all (vE (my 164).cls (mb 164) (tb 164) (mx 164) false) = true := by decide +kernel
set_option maxRecDepth 100000 in
theorem vT_165 : (tb 165).all (vE (my 165).cls (mb 165) (tb 165) (mx 165) false) = true := by decide +kernel
set_option maxRecDepth 100000 in
theorem vT_166 : (tb 166).all (vE (my 166).cls (mb 166) (tb 166) (mx 166) false) = true := by decide +kernel
set_option maxRecDepth 100000 in
theorem vT_167 : (tb 167).all (vE (my 167).cls (mb 167) (tb 167) (mx 167) false) = true := by decide +kernel
set_option maxRecDepth 100000 in
theorem vT_168 : (tb 168).all (vE (my 168).cls (mb 168) (tb 168) (mx 168) false) = true := by decide +kernel
set_option maxRecDepth 100000 in
theorem vT_169 : (tb 169).all (vE (my 169).cls (mb 169) (tb 169) (mx 169) false) = true := by decide +kernel
set_option maxRecDepth 100000 in
theorem vT_170 : (tb 170).all (vE (my 170).cls (mb 170) (tb 170) (mx 170) false) = true := by decide +kernel
set_option maxRecDepth 100000 in
theorem vT_171 : (tb 171).all (vE (my 171).cls (mb 171) (tb 171) (mx 171) false) = true := by decide +kernel
set_option maxRecDepth 100000 in
theorem vT_172 : (tb 172).all (vE (my 172).cls (mb 172) (tb 172) (mx 172) false) = true := by decide +kernel
set_option maxRecDepth 100000 in
theorem vT_173 : (tb 173).all (vE (my 173).cls (mb 173) (tb 173) (mx 173) false) = true := by decide +kernel
def mini (i : Nat) : Bool := Nat.beq (mk3 i) 1
theorem vTOK : ∀ i, i < 174 → (tb i).all (vE (my i).cls (mb i) (tb i) (mx i) (mini i)) = true
  | 0, _ => vT_0
  | 1, _ => vT_1
  | 2, _ => vT_2
  | 3, _ => vT_3
  | 4, _ => vT_4
  | 5, _ => vT_5
  | 6, _ => vT_6
  | 7, _ => vT_7
  | 8, _ => vT_8
  | 9, _ => vT_9
  | 10, _ => vT_10
  | 11, _ => vT_11
  | 12, _ => vT_12
  | 13, _ => vT_13
  | 14, _ => vT_14
  | 15, _ => vT_15
  | 16, _ => vT_16
  | 17, _ => vT_17
  | 18, _ => vT_18
  | 19, _ => vT_19
  | 20, _ => vT_20
  | 21, _ => vT_21
  | 22, _ => vT_22
  | 23, _ => vT_23
  | 24, _ => vT_24
  | 25, _ => vT_25
  | 26, _ => vT_26
  | 27, _ => vT_27
  | 28, _ => vT_28
  | 29, _ => vT_29
  | 30, _ => vT_30
  | 31, _ => vT_31
  | 32, _ => vT_32
  | 33, _ => vT_33
  | 34, _ => vT_34
  | 35, _ => vT_35
  | 36, _ => vT_36
  | 37, _ => vT_37
  | 38, _ => vT_38
  | 39, _ => vT_39
  | 40, _ => vT_40
  | 41, _ => vT_41
  | 42, _ => vT_42
  | 43, _ => vT_43
  | 44, _ => vT_44
  | 45, _ => vT_45
  | 46, _ => vT_46
  | 47, _ => vT_47
  | 48, _ => vT_48
  | 49, _ => vT_49
  | 50, _ => vT_50
  | 51, _ => vT_51
  | 52, _ => vT_52
  | 53, _ => vT_53
  | 54, _ => vT_54
  | 55, _ => vT_55
  | 56, _ => vT_56
  | 57, _ => vT_57
  | 58, _ => vT_58
  | 59, _ => vT_59
  | 60, _ => vT_60
  | 61, _ => vT_61
  | 62, _ => vT_62
  | 63, _ => vT_63
  | 64, _ => vT_64
  | 65, _ => vT_65
  | 66, _ => vT_66
  | 67, _ => vT_67
  | 68, _ => vT_68
  | 69, _ => vT_69
  | 70, _ => vT_70
  | 71, _ => vT_71
  | 72, _ => vT_72
  | 73, _ => vT_73
  | 74, _ => vT_74
  | 75, _ => vT_75
  | 76, _ => vT_76
  | 77, _ => vT_77
  | 78, _ => vT_78
  | 79, _ => vT_79
  | 80, _ => vT_80
  | 81, _ => vT_81
  | 82, _ => vT_82
  | 83, _ => vT_83
  | 84, _ => vT_84
  | 85, _ => vT_85
  | 86, _ => vT_86
  | 87, _ => vT_87
  | 88, _ => vT_88
  | 89, _ => vT_89
  | 90, _ => vT_90
  | 91, _ => vT_91
  | 92, _ => vT_92
  | 93, _ => vT_93
  | 94, _ => vT_94
  | 95, _ => vT_95
  | 96, _ => vT_96
  | 97, _ => vT_97
  | 98, _ => vT_98
  | 99, _ => vT_99
  | 100, _ => vT_100
  | 101, _ => vT_101
  | 102, _ => vT_102
  | 103, _ => vT_103
  | 104, _ => vT_104
  | 105, _ => vT_105
  | 106, _ => vT_106
  | 107, _ => vT_107
  | 108, _ => vT_108
  | 109, _ => vT_109
  | 110, _ => vT_110
  | 111, _ => vT_111
  | 112, _ => vT_112
  | 113, _ => vT_113
  | 114, _ => vT_114
  | 115, _ => vT_115
  | 116, _ => vT_116
  | 117, _ => vT_117
  | 118, _ => vT_118
  | 119, _ => vT_119
  | 120, _ => vT_120
  | 121, _ => vT_121
  | 122, _ => vT_122
  | 123, _ => vT_123
  | 124, _ => vT_124
  | 125, _ => vT_125
  | 126, _ => vT_126
  | 127, _ => vT_127
  | 128, _ => vT_128
  | 129, _ => vT_129
  | 130, _ => vT_130
  | 131, _ => vT_131
  | 132, _ => vT_132
  | 133, _ => vT_133
  | 134, _ => vT_134
  | 135, _ => vT_135
  | 136, _ => vT_136
  | 137, _ => vT_137
  | 138, _ => vT_138
  | 139, _ => vT_139
  | 140, _ => vT_140
  | 141, _ => vT_141
  | 142, _ => vT_142
  | 143, _ => vT_143
  | 144, _ => vT_144
  | 145, _ => vT_145
  | 146, _ => vT_146
  | 147, _ => vT_147
  | 148, _ => vT_148
  | 149, _ => vT_149
  | 150, _ => vT_150
  | 151, _ => vT_151
  | 152, _ => vT_152
  | 153, _ => vT_153
  | 154, _ => vT_154
  | 155, _ => vT_155
  | 156, _ => vT_156
  | 157, _ => vT_157
  | 158, _ => vT_158
  | 159, _ => vT_159
  | 160, _ => vT_160
  | 161, _ => vT_161
  | 162, _ => vT_162
  | 163, _ => vT_163
  | 164, _ => vT_164
  | 165, _ => vT_165
  | 166, _ => vT_166
  | 167, _ => vT_167
  | 168, _ => vT_168
  | 169, _ => vT_169
  | 170, _ => vT_170
  | 171, _ => vT_171
  | 172, _ => vT_172
  | 173, _ => vT_173
  | k + 174, h => absurd h (by omega)
