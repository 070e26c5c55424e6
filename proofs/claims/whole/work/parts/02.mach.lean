/-! The pure machine: an abstract heap of typed components, one step as data, weakest preconditions. Own work. -/
/-- an instruction of a table: its place, whether a walk is cut there, itself, two numbers, a constant, the place of its word, the next one's number -/
abbrev Ez : Type := Nat × Nat × Instr × Nat × Nat × Value × Nat × Nat
/-- the heap: next id, slots made, tags, lengths, ints, references (0 is null; 1..5 are arrays that were there before) -/
abbrev ZS : Type := Nat × Nat × (Nat → Nat) × (Nat → Nat) × (Nat → Nat → Int32) × (Nat → Nat → Nat)
abbrev Zt : Type := Nat × List Value × List Value × ZS
abbrev Za : Type := Zt ⊕ (Prop × Zt) ⊕ (List (Prop × Zt) × Zt) ⊕ (Nat × List Value × Zt) ⊕ (Option Value × ZS) ⊕ Unit
def zn (z : ZS) : Nat := z.1
def zw (z : ZS) : Nat := z.2.1
def tg (z : ZS) : Nat → Nat := z.2.2.1
def ln (z : ZS) : Nat → Nat := z.2.2.2.1
def zI (z : ZS) : Nat → Nat → Int32 := z.2.2.2.2.1
def zP (z : ZS) : Nat → Nat → Nat := z.2.2.2.2.2
def u2 {α : Type} (f : Nat → Nat → α) (a k : Nat) (x : α) : Nat → Nat → α := fun b j => if b = a ∧ j = k then x else f b j
def sI (z : ZS) (a k : Nat) (x : Int32) : ZS := (z.1, z.2.1, z.2.2.1, z.2.2.2.1, u2 z.2.2.2.2.1 a k x, z.2.2.2.2.2)
def sP (z : ZS) (a k : Nat) (x : Nat) : ZS := (z.1, z.2.1, z.2.2.1, z.2.2.2.1, z.2.2.2.2.1, u2 z.2.2.2.2.2 a k x)
/-- a new cell of tag t, length n, w slots -/
def nw (z : ZS) (t n w : Nat) : ZS := (z.1 + 1, z.2.1 + w, va_up z.2.2.1 z.1 t, va_up z.2.2.2.1 z.1 n, va_up z.2.2.2.2.1 z.1 (fun _ => 0), va_up z.2.2.2.2.2 z.1 (fun _ => 0))
def lk : List Value → Nat → Value
  | [], _ => .null
  | v :: _, 0 => v
  | _ :: r, k + 1 => lk r k
def stl : List Value → Nat → Value → List Value
  | [], _, _ => []
  | _ :: r, 0, v => v :: r
  | u :: r, k + 1, v => u :: stl r k v
/-- the local ahead of k -/
def pv (ls : List Value) : Nat → Value
  | 0 => .null
  | k + 1 => lk ls k
def tk : Nat → List Value → List Value → Option (List Value × List Value)
  | 0, st, acc => some (acc, st)
  | n + 1, v :: st, acc => tk n st (v :: acc)
  | _ + 1, [], _ => none
def scat : List Value → Nat
  | [] => 0
  | v :: r => v.category + scat r
def gt : List Ez → Nat → Option Ez
  | [], _ => none
  | e :: _, 0 => some e
  | _ :: r, k + 1 => gt r k
def fnd : List Ez → Nat → Nat → Nat
  | [], _, i => i
  | e :: r, pc, i => bif Nat.beq e.1 pc then i else fnd r pc (i + 1)
def pcA (full : List Ez) (i : Nat) : Nat := match gt full i with
  | some e => e.1
  | none => 0
def isAr (t : Nat) : Bool := Nat.ble 1 t && Nat.ble t 6
abbrev a_go (s : Zt) : Za := .inl s
abbrev a_ck (c : Prop) (s : Zt) : Za := .inr (.inl (c, s))
abbrev a_br (c : Prop) (s1 s2 : Zt) : Za := .inr (.inr (.inl ([(c, s1)], s2)))
abbrev a_sw (l : List (Prop × Zt)) (s : Zt) : Za := .inr (.inr (.inl (l, s)))
abbrev a_call (mi : Nat) (av : List Value) (s : Zt) : Za := .inr (.inr (.inr (.inl (mi, av, s))))
abbrev a_ret (v : Option Value) (z : ZS) : Za := .inr (.inr (.inr (.inr (.inl (v, z)))))
abbrev a_no : Za := .inr (.inr (.inr (.inr (.inr ()))))
/-- a store of a value of one word -/
def x_sto (ls : List Value) (k : Nat) (v : Value) (rest : Nat) (st : List Value) (z : ZS) : Za := match (pv ls k).category with
  | 1 => a_go (rest, stl ls k v, st, z)
  | _ => a_no
def x_cmp (c : Jvm.ClassFile.Cond) (x y : Int32) (t n : Zt) : Za := match c with
  | .eq => a_br (x = y) t n
  | .ne => a_br (x = y) n t
  | .lt => a_br (x < y) t n
  | .ge => a_br (y ≤ x) t n
  | .gt => a_br (y < x) t n
  | .le => a_br (x ≤ y) t n
def x_tab (full : List Ez) (pc : Nat) (x : Int32) (ls st : List Value) (z : ZS) : List Int → Int → List (Prop × Zt)
  | [], _ => []
  | o :: os, lo => (x.toInt = lo, (fnd full ((pc : Int) + o).toNat 0, ls, st, z)) :: x_tab full pc x ls st z os (lo + 1)
def x_look (full : List Ez) (pc : Nat) (x : Int32) (ls st : List Value) (z : ZS) : List (Int × Int) → List (Prop × Zt)
  | [] => []
  | o :: os => (x.toInt = o.1, (fnd full ((pc : Int) + o.2).toNat 0, ls, st, z)) :: x_look full pc x ls st z os
def x_get (t b : Nat) (c : Value) (rest : Nat) (ls st : List Value) (z : ZS) (x : Nat) : Za := match b % 4 with
  | 3 => (match c with
    | .ref y => a_ck (tg z x = t ∧ zP z x (b / 4) = y) (rest, ls, .ref y :: st, z)
    | _ => a_no)
  | 1 => a_ck (tg z x = t) (rest, ls, .ref (zP z x (b / 4)) :: st, z)
  | _ => a_ck (tg z x = t) (rest, ls, .int (zI z x (b / 4)) :: st, z)
def x_put (t b : Nat) (rest : Nat) (ls st : List Value) (z : ZS) : Za := match b % 4, st with
  | 0, .int v :: .ref x :: st => a_ck (tg z x = t) (rest, ls, st, sI z x (b / 4) v)
  | 1, .ref v :: .ref x :: st => a_ck (tg z x = t) (rest, ls, st, sP z x (b / 4) v)
  | 2, .int v :: .ref x :: st => a_ck (tg z x = t ∧ (v = 0 ∨ v = 1)) (rest, ls, st, sI z x (b / 4) v)
  | _, _ => a_no
def x_ld (ls : List Value) (k : Nat) (rest : Nat) (st : List Value) (z : ZS) : Za := match lk ls k with
  | .int x => a_go (rest, ls, .int x :: st, z)
  | .ref x => a_go (rest, ls, .ref x :: st, z)
  | .long x => a_go (rest, ls, .long x :: st, z)
  | _ => a_no
def x_st (ls : List Value) (k : Nat) (rest : Nat) (st : List Value) (z : ZS) : Za := match st with
  | .int x :: st => x_sto ls k (.int x) rest st z
  | .ref x :: st => x_sto ls k (.ref x) rest st z
  | _ => a_no
/-- one step -/
def nx (full : List Ez) (e : Ez) (rest : Nat) (ls st : List Value) (z : ZS) : Za := match e.2.2.1 with
  | .iload_n _ => (match lk ls e.2.2.2.1 with
    | .int x => a_go (rest, ls, .int x :: st, z)
    | _ => a_no)
  | .iload _ => (match lk ls e.2.2.2.1 with
    | .int x => a_go (rest, ls, .int x :: st, z)
    | _ => a_no)
  | .aload_n _ => (match lk ls e.2.2.2.1 with
    | .ref x => a_go (rest, ls, .ref x :: st, z)
    | _ => a_no)
  | .aload _ => (match lk ls e.2.2.2.1 with
    | .ref x => a_go (rest, ls, .ref x :: st, z)
    | _ => a_no)
  | .lload_n _ => (match lk ls e.2.2.2.1 with
    | .long x => a_go (rest, ls, .long x :: st, z)
    | _ => a_no)
  | .istore_n _ => (match st with
    | .int x :: st => x_sto ls e.2.2.2.1 (.int x) rest st z
    | _ => a_no)
  | .istore _ => (match st with
    | .int x :: st => x_sto ls e.2.2.2.1 (.int x) rest st z
    | _ => a_no)
  | .astore_n _ => (match st with
    | .ref x :: st => x_sto ls e.2.2.2.1 (.ref x) rest st z
    | _ => a_no)
  | .astore _ => (match st with
    | .ref x :: st => x_sto ls e.2.2.2.1 (.ref x) rest st z
    | _ => a_no)
  | .iconst _ => a_go (rest, ls, e.2.2.2.2.2.1 :: st, z)
  | .bipush _ => a_go (rest, ls, e.2.2.2.2.2.1 :: st, z)
  | .sipush _ => a_go (rest, ls, e.2.2.2.2.2.1 :: st, z)
  | .ldc _ => a_go (rest, ls, e.2.2.2.2.2.1 :: st, z)
  | .ldc2_w _ => a_go (rest, ls, e.2.2.2.2.2.1 :: st, z)
  | .aconst_null => a_go (rest, ls, .ref 0 :: st, z)
  | .iinc _ _ => (match lk ls e.2.2.2.1, e.2.2.2.2.2.1 with
    | .int x, .int n => x_sto ls e.2.2.2.1 (.int (x + n)) rest st z
    | _, _ => a_no)
  | .dup => (match st with
    | .int x :: st => a_go (rest, ls, .int x :: .int x :: st, z)
    | .ref x :: st => a_go (rest, ls, .ref x :: .ref x :: st, z)
    | _ => a_no)
  | .dup2 => (match st with
    | .int y :: .ref x :: st => a_go (rest, ls, .int y :: .ref x :: .int y :: .ref x :: st, z)
    | _ => a_no)
  | .iadd => (match st with
    | .int y :: .int x :: st => a_go (rest, ls, .int (x + y) :: st, z)
    | _ => a_no)
  | .isub => (match st with
    | .int y :: .int x :: st => a_go (rest, ls, .int (x - y) :: st, z)
    | _ => a_no)
  | .imul => (match st with
    | .int y :: .int x :: st => a_go (rest, ls, .int (x * y) :: st, z)
    | _ => a_no)
  | .iand => (match st with
    | .int y :: .int x :: st => a_go (rest, ls, .int (x &&& y) :: st, z)
    | _ => a_no)
  | .ixor => (match st with
    | .int y :: .int x :: st => a_go (rest, ls, .int (x ^^^ y) :: st, z)
    | _ => a_no)
  | .idiv => (match st with
    | .int y :: .int x :: st => a_ck (¬ y = 0) (rest, ls, .int (x / y) :: st, z)
    | _ => a_no)
  | .irem => (match st with
    | .int y :: .int x :: st => a_ck (¬ y = 0) (rest, ls, .int (x - x / y * y) :: st, z)
    | _ => a_no)
  | .ineg => (match st with
    | .int x :: st => a_go (rest, ls, .int (-x) :: st, z)
    | _ => a_no)
  | .land => (match st with
    | .long y :: .long x :: st => a_go (rest, ls, .long (x &&& y) :: st, z)
    | _ => a_no)
  | .lor => (match st with
    | .long y :: .long x :: st => a_go (rest, ls, .long (x ||| y) :: st, z)
    | _ => a_no)
  | .lshl => (match st with
    | .int y :: .long x :: st => a_go (rest, ls, .long (x <<< (y.toInt64 &&& 63)) :: st, z)
    | _ => a_no)
  | .lshr => (match st with
    | .int y :: .long x :: st => a_go (rest, ls, .long (x >>> (y.toInt64 &&& 63)) :: st, z)
    | _ => a_no)
  | .lushr => (match st with
    | .int y :: .long x :: st => a_go (rest, ls, .long (x.toUInt64 >>> (y.toInt64.toUInt64 &&& Int64.toUInt64 63)).toInt64 :: st, z)
    | _ => a_no)
  | .i2l => (match st with
    | .int x :: st => a_go (rest, ls, .long x.toInt64 :: st, z)
    | _ => a_no)
  | .l2i => (match st with
    | .long x :: st => a_go (rest, ls, .int x.toInt32 :: st, z)
    | _ => a_no)
  | .if_icmp c _ => (match st with
    | .int y :: .int x :: st => x_cmp c x y (e.2.2.2.1, ls, st, z) (rest, ls, st, z)
    | _ => a_no)
  | .ifCond c _ => (match st with
    | .int x :: st => x_cmp c x 0 (e.2.2.2.1, ls, st, z) (rest, ls, st, z)
    | _ => a_no)
  | .if_acmp c _ => (match st with
    | .ref y :: .ref x :: st => (match c with
      | .eq => a_sw [(x = y, (e.2.2.2.1, ls, st, z)), (¬ ((x = 0 ∨ 6 ≤ x) ∧ (y = 0 ∨ 6 ≤ y)), (99999, ls, st, z))] (rest, ls, st, z)
      | .ne => a_sw [(x = y, (rest, ls, st, z)), (¬ ((x = 0 ∨ 6 ≤ x) ∧ (y = 0 ∨ 6 ≤ y)), (99999, ls, st, z))] (e.2.2.2.1, ls, st, z))
    | _ => a_no)
  | .ifnull _ => (match st with
    | .ref x :: st => a_br (x = 0) (e.2.2.2.1, ls, st, z) (rest, ls, st, z)
    | _ => a_no)
  | .ifnonnull _ => (match st with
    | .ref x :: st => a_br (x = 0) (rest, ls, st, z) (e.2.2.2.1, ls, st, z)
    | _ => a_no)
  | .goto _ => a_go (e.2.2.2.1, ls, st, z)
  | .tableswitch d lo _ offs => (match st with
    | .int x :: st => a_sw (x_tab full e.1 x ls st z offs.toList lo) (fnd full ((e.1 : Int) + d).toNat 0, ls, st, z)
    | _ => a_no)
  | .lookupswitch d ps => (match st with
    | .int x :: st => a_sw (x_look full e.1 x ls st z ps.toList) (fnd full ((e.1 : Int) + d).toNat 0, ls, st, z)
    | _ => a_no)
  | .getfield _ => (match st with
    | .ref x :: st => x_get e.2.2.2.1 e.2.2.2.2.1 e.2.2.2.2.2.1 rest ls st z x
    | _ => a_no)
  | .putfield _ => x_put e.2.2.2.1 e.2.2.2.2.1 rest ls st z
  | .getstatic _ => a_go (rest, ls, .ref e.2.2.2.1 :: st, z)
  | .iaload => (match st with
    | .int i :: .ref x :: st => a_ck (tg z x = e.2.2.2.1 ∧ vp_in i (ln z x)) (rest, ls, .int (zI z x i.toNatClampNeg) :: st, z)
    | _ => a_no)
  | .baload => (match st with
    | .int i :: .ref x :: st => a_ck (tg z x = 2 ∧ vp_in i (ln z x)) (rest, ls, .int (zI z x i.toNatClampNeg) :: st, z)
    | _ => a_no)
  | .aaload => (match st with
    | .int i :: .ref x :: st => a_ck (tg z x = e.2.2.2.1 ∧ vp_in i (ln z x)) (rest, ls, .ref (zP z x i.toNatClampNeg) :: st, z)
    | _ => a_no)
  | .iastore => (match st with
    | .int v :: .int i :: .ref x :: st => a_ck (tg z x = 1 ∧ vp_in i (ln z x)) (rest, ls, st, sI z x i.toNatClampNeg v)
    | _ => a_no)
  | .bastore => (match st with
    | .int v :: .int i :: .ref x :: st => a_ck (tg z x = 2 ∧ vp_in i (ln z x) ∧ (v = 0 ∨ v = 1)) (rest, ls, st, sI z x i.toNatClampNeg v)
    | _ => a_no)
  | .aastore => (match st with
    | .ref y :: .int i :: .ref x :: st => a_ck (tg z x = e.2.2.2.1 ∧ vp_in i (ln z x) ∧ (y = 0 ∨ tg z y = e.2.2.2.2.1)) (rest, ls, st, sP z x i.toNatClampNeg y)
    | _ => a_no)
  | .arraylength => (match st with
    | .ref x :: st => a_ck (isAr (tg z x) = true) (rest, ls, .int (nI (ln z x)) :: st, z)
    | _ => a_no)
  | .new _ => a_go (rest, ls, .ref (zn z) :: st, nw z e.2.2.2.1 0 e.2.2.2.2.1)
  | .newarray _ => (match st with
    | .int n :: st => a_ck (¬ n < 0 ∧ n.toNatClampNeg ≤ 100000) (rest, ls, .ref (zn z) :: st, nw z e.2.2.2.1 n.toNatClampNeg n.toNatClampNeg)
    | _ => a_no)
  | .anewarray _ => (match st with
    | .int n :: st => a_ck (¬ n < 0 ∧ n.toNatClampNeg ≤ 100000) (rest, ls, .ref (zn z) :: st, nw z e.2.2.2.1 n.toNatClampNeg n.toNatClampNeg)
    | _ => a_no)
  | .invokevirtual _ => (match tk e.2.2.2.2.1 st [] with
    | some (av, st) => bif Nat.ble (scat st) 8 then a_call e.2.2.2.1 av (rest, ls, st, z) else a_no
    | none => a_no)
  | .invokestatic _ => (match tk e.2.2.2.2.1 st [] with
    | some (av, st) => bif Nat.ble (scat st) 8 then a_call e.2.2.2.1 av (rest, ls, st, z) else a_no
    | none => a_no)
  | .invokespecial _ => (bif Nat.beq e.2.2.2.1 9999 then (match st with
      | .ref x :: st => bif Nat.ble (scat st) 8 then a_ck (¬ x = 0) (rest, ls, st, z) else a_no
      | _ => a_no)
    else (match tk e.2.2.2.2.1 st [] with
      | some (av, st) => bif Nat.ble (scat st) 8 then a_call e.2.2.2.1 av (rest, ls, st, z) else a_no
      | none => a_no))
  | .ireturn => (match st with
    | [.int v] => a_ret (some (.int v)) z
    | _ => a_no)
  | .areturn => (match st with
    | [.ref v] => a_ret (some (.ref v)) z
    | _ => a_no)
  | .return_ => (match st with
    | [] => a_ret none z
    | _ => a_no)
  | _ => a_no
def brs (k : Zt → Prop) : List (Prop × Zt) → Zt → Prop
  | [], s => k s
  | q :: l, s => (q.1 → k q.2) ∧ (¬ q.1 → brs k l s)
def stp (C : Nat → List Value → ZS → Option Value → ZS → Prop) (Rt : Option Value → ZS → Prop) (k : Zt → Prop) (a : Za) : Prop := match a with
  | .inl s => k s
  | .inr (.inl (c, s)) => c ∧ k s
  | .inr (.inr (.inl (l, s))) => brs k l s
  | .inr (.inr (.inr (.inl (mi, av, s)))) => ∃ (r : Option Value) (z' : ZS), C mi av s.2.2.2 r z' ∧ k (s.1, s.2.1, r.toList ++ s.2.2.1, z')
  | .inr (.inr (.inr (.inr (.inl (v, z))))) => Rt v z
  | .inr (.inr (.inr (.inr (.inr _)))) => False
abbrev Zk : Type := Nat → List Value → List Value → ZS → Prop
def wq (C : Nat → List Value → ZS → Option Value → ZS → Prop) (full : List Ez) (Rt : Option Value → ZS → Prop) (K : Zk) : Nat → Zt → Prop
  | 0, (i, ls, st, z) => (match gt full i with
    | some e => K e.1 ls st z
    | none => False)
  | n + 1, (i, ls, st, z) => (match gt full i with
    | some e => (bif Nat.beq e.2.1 1 then K e.1 ls st z else stp C Rt (wq C full Rt K n) (nx full e e.2.2.2.2.2.2.2 ls st z))
    | none => False)
def wp (C : Nat → List Value → ZS → Option Value → ZS → Prop) (full : List Ez) (Rt : Option Value → ZS → Prop) (K : Zk) (i : Nat) (ls st : List Value) (z : ZS) : Prop := match gt full i with
  | some e => stp C Rt (wq C full Rt K 400) (nx full e e.2.2.2.2.2.2.2 ls st z)
  | none => False
/-- K is closed under wp: what wp says of a place holds there -/
def Sf (C : Nat → List Value → ZS → Option Value → ZS → Prop) (full : List Ez) (Rt : Option Value → ZS → Prop) (K : Zk) : Prop := ∀ (i : Nat) (ls st : List Value) (z : ZS), wp C full Rt K i ls st z → K (pcA full i) ls st z
/-- the locals at a method's entry -/
def en0 : List Value → List Value
  | [] => []
  | v :: r => (match v.category with
    | 2 => v :: .null :: en0 r
    | _ => v :: en0 r)
def ent (n : Nat) (av : List Value) : List Value := en0 av ++ List.replicate (n - (en0 av).length) .null
