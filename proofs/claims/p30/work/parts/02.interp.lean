/-! ===== an interpreter of the instructions that the program has: cells by their numbers, values with numbers of cells for references ===== -/
abbrev zC : Type := Nat × List Value
abbrev zH : Type := List zC
abbrev zL : Type := List (Nat × Value)
/-- instruction, its length, three numbers -/
abbrev zE : Type := Instr × Nat × Nat × Nat × Nat
/-- arrays that are only read: length and one (0: not there), contents; a reference to one is written retAddr -/
abbrev zF : Type := Nat → Nat × (Nat → Int32)
abbrev zS : Type := Nat × zL × List Value × zH
def zget (lv : zL) (i : Nat) : Option Value := match lv with
  | [] => none
  | q :: r => if q.1 = i then some q.2 else zget r i
def zst1 (lv : zL) (i : Nat) (v : Value) : zL := (i, v) :: lv.filter (fun q => !(q.1 == i) && !(q.1 + 1 == i && q.2.category == 2))
def zst2 (lv : zL) (i : Nat) (v : Value) : zL := (i, v) :: lv.filter (fun q => !(q.1 == i) && (!(q.1 == i + 1) && !(q.1 + 1 == i && q.2.category == 2)))
def zin (i : Int32) (n : Nat) : Bool := !(decide (i < 0)) && decide (i.toNatClampNeg < n)
/-- references within the first n cells -/
def zwf (n : Nat) (v : Value) : Bool := match v with
  | .ref k => decide (k < n)
  | _ => true
def zwfs (n : Nat) (vs : List Value) : Bool := vs.all (zwf n)
def zwfl (n : Nat) (lv : zL) : Bool := lv.all (fun q => zwf n q.2)
def zwfh (n : Nat) (h : zH) : Bool := h.all (fun c => zwfs n c.2)
def zcat (st : List Value) : Nat := (st.map fun v => v.category).sum
-- loads
def zldI (lv : zL) (i pc : Nat) (st : List Value) (h : zH) : Option zS := match zget lv i with
  | some (.int x) => some (pc, lv, .int x :: st, h)
  | _ => none
def zldL (lv : zL) (i pc : Nat) (st : List Value) (h : zH) : Option zS := match zget lv i with
  | some (.long x) => some (pc, lv, .long x :: st, h)
  | _ => none
def zldA (lv : zL) (i pc : Nat) (st : List Value) (h : zH) : Option zS := match zget lv i with
  | some (.ref x) => some (pc, lv, .ref x :: st, h)
  | some (.retAddr x) => some (pc, lv, .retAddr x :: st, h)
  | _ => none
-- stores
def zsI (lv : zL) (i pc : Nat) (st : List Value) (h : zH) : Option zS := match st with
  | .int x :: r => some (pc, zst1 lv i (.int x), r, h)
  | _ => none
def zsL (lv : zL) (i pc : Nat) (st : List Value) (h : zH) : Option zS := match st with
  | .long x :: r => some (pc, zst2 lv i (.long x), r, h)
  | _ => none
def zsA (lv : zL) (i pc : Nat) (st : List Value) (h : zH) : Option zS := match st with
  | .ref x :: r => some (pc, zst1 lv i (.ref x), r, h)
  | _ => none
-- sums
def zII (f : Int32 → Int32 → Int32) (pc : Nat) (lv : zL) (st : List Value) (h : zH) : Option zS := match st with
  | .int y :: .int x :: r => some (pc + 1, lv, .int (f x y) :: r, h)
  | _ => none
def zIIn (f : Int32 → Int32 → Int32) (pc : Nat) (lv : zL) (st : List Value) (h : zH) : Option zS := match st with
  | .int y :: .int x :: r => if y = 0 then none else some (pc + 1, lv, .int (f x y) :: r, h)
  | _ => none
def zLL (f : Int64 → Int64 → Int64) (pc : Nat) (lv : zL) (st : List Value) (h : zH) : Option zS := match st with
  | .long y :: .long x :: r => some (pc + 1, lv, .long (f x y) :: r, h)
  | _ => none
def zLLn (f : Int64 → Int64 → Int64) (pc : Nat) (lv : zL) (st : List Value) (h : zH) : Option zS := match st with
  | .long y :: .long x :: r => if y = 0 then none else some (pc + 1, lv, .long (f x y) :: r, h)
  | _ => none
def zI (f : Int32 → Value) (pc : Nat) (lv : zL) (st : List Value) (h : zH) : Option zS := match st with
  | .int x :: r => some (pc + 1, lv, f x :: r, h)
  | _ => none
def zLo (f : Int64 → Value) (pc : Nat) (lv : zL) (st : List Value) (h : zH) : Option zS := match st with
  | .long x :: r => some (pc + 1, lv, f x :: r, h)
  | _ => none
def zlcmp (pc : Nat) (lv : zL) (st : List Value) (h : zH) : Option zS := match st with
  | .long y :: .long x :: r => some (pc + 1, lv, .int (lg_cmp x y) :: r, h)
  | _ => none
-- branches
def zcI (c : Jvm.ClassFile.Cond) (x y : Int32) : Prop := match c with
  | .eq => x = y
  | .ne => ¬ x = y
  | .lt => x < y
  | .ge => x ≥ y
  | .gt => x > y
  | .le => x ≤ y
def zcB (c : Jvm.ClassFile.Cond) (x y : Int32) : Bool := match c with
  | .eq => decide (x = y)
  | .ne => !decide (x = y)
  | .lt => decide (x < y)
  | .ge => !decide (x < y)
  | .gt => decide (y < x)
  | .le => !decide (y < x)
def zif2 (c : Jvm.ClassFile.Cond) (t pc : Nat) (lv : zL) (st : List Value) (h : zH) : Option zS := match st with
  | .int y :: .int x :: r => some (bif zcB c x y then t else pc + 3, lv, r, h)
  | _ => none
def zif1 (c : Jvm.ClassFile.Cond) (t pc : Nat) (lv : zL) (st : List Value) (h : zH) : Option zS := match st with
  | .int x :: r => some (bif zcB c x 0 then t else pc + 3, lv, r, h)
  | _ => none
def ztgt (pc : Nat) (off : Int) : Option Nat := if 0 ≤ (pc : Int) + off then some ((pc : Int) + off).toNat else none
def ztab (dflt lo hi : Int) (offs : Array Int) (x : Int32) : Option Int := if x.toInt < lo ∨ hi < x.toInt then some dflt else offs[(x.toInt - lo).toNat]?
def zsw (o : Int32 → Option Int) (pc : Nat) (lv : zL) (st : List Value) (h : zH) : Option zS := match st with
  | .int x :: r => match o x with
    | some off => match ztgt pc off with
      | some t => some (t, lv, r, h)
      | none => none
    | none => none
  | _ => none
-- arrays
def zfit (ty : FieldType) (v : Value) : Bool := match ty with
  | .int => (match v with | .int _ => true | _ => false)
  | .long => (match v with | .long _ => true | _ => false)
  | .object _ => (match v with | .ref _ => true | _ => false)
  | .array _ => (match v with | .ref _ => true | _ => false)
  | _ => false
def zty (kind : Nat) : FieldType := match kind with
  | 0 => .int
  | 1 => .long
  | _ => .object ""
def zald (tag kind : Nat) (F : zF) (pc : Nat) (lv : zL) (st : List Value) (h : zH) : Option zS := match st with
  | .int i :: .ref a :: r => match h[a]? with
    | some (t, l) => if t = tag ∧ zin i l.length = true then (match l[i.toNatClampNeg]? with
      | some v => if zfit (zty kind) v = true then some (pc + 1, lv, v :: r, h) else none
      | none => none) else none
    | none => none
  | .int i :: .retAddr a :: r => if tag = 10 ∧ a < 4 ∧ zin i ((F a).1 - 1) = true then some (pc + 1, lv, .int ((F a).2 i.toNatClampNeg) :: r, h) else none
  | _ => none
def zaldq (pc : Nat) (lv : zL) (st : List Value) (h : zH) : Option zS := match st with
  | .int i :: .ref a :: r => match h[a]? with
    | some (t, l) => if (t = 13 ∨ t = 14 ∨ t = 15) ∧ zin i l.length = true then (match l[i.toNatClampNeg]? with
      | some (.ref v) => some (pc + 1, lv, .ref v :: r, h)
      | _ => none) else none
    | none => none
  | _ => none
def zastI (pc : Nat) (lv : zL) (st : List Value) (h : zH) : Option zS := match st with
  | .int x :: .int i :: .ref a :: r => match h[a]? with
    | some (t, l) => if t = 10 ∧ zin i l.length = true then some (pc + 1, lv, r, h.set a (t, l.set i.toNatClampNeg (.int x))) else none
    | none => none
  | _ => none
def zastZ (pc : Nat) (lv : zL) (st : List Value) (h : zH) : Option zS := match st with
  | .int x :: .int i :: .ref a :: r => match h[a]? with
    | some (t, l) => if t = 12 ∧ zin i l.length = true then some (pc + 1, lv, r, h.set a (t, l.set i.toNatClampNeg (.int (vp_nar .boolean x)))) else none
    | none => none
  | _ => none
def zastL (pc : Nat) (lv : zL) (st : List Value) (h : zH) : Option zS := match st with
  | .long x :: .int i :: .ref a :: r => match h[a]? with
    | some (t, l) => if t = 11 ∧ zin i l.length = true then some (pc + 1, lv, r, h.set a (t, l.set i.toNatClampNeg (.long x))) else none
    | none => none
  | _ => none
def zastQ (pc : Nat) (lv : zL) (st : List Value) (h : zH) : Option zS := match st with
  | .ref v :: .int i :: .ref a :: r => match h[a]? with
    | some (t, l) => match h[v]? with
      | some (tv, _) => if ((t = 13 ∧ tv = 3) ∨ (t = 14 ∧ tv = 4)) ∧ zin i l.length = true then some (pc + 1, lv, r, h.set a (t, l.set i.toNatClampNeg (.ref v))) else none
      | none => none
    | none => none
  | _ => none
def zalen (F : zF) (pc : Nat) (lv : zL) (st : List Value) (h : zH) : Option zS := match st with
  | .ref a :: r => match h[a]? with
    | some (t, l) => if 10 ≤ t ∧ t ≤ 15 then some (pc + 1, lv, .int (Int32.ofNat l.length) :: r, h) else none
    | none => none
  | .retAddr a :: r => if a < 4 ∧ 0 < (F a).1 then some (pc + 1, lv, .int (Int32.ofNat ((F a).1 - 1)) :: r, h) else none
  | _ => none
-- fields: a the class's number, b the field's
def zgetf (ci k pc : Nat) (lv : zL) (st : List Value) (h : zH) : Option zS := match st with
  | .ref a :: r => match h[a]? with
    | some (t, l) => if t = ci ∧ t < 7 then (match l[k]? with
      | some v => some (pc + 3, lv, v :: r, h)
      | none => none) else none
    | none => none
  | _ => none
def zputf (ci k kind pc : Nat) (lv : zL) (st : List Value) (h : zH) : Option zS := match st with
  | v :: .ref a :: r => match h[a]? with
    | some (t, l) => if t = ci ∧ t < 7 ∧ k < l.length ∧ zfit (zty kind) v = true then some (pc + 3, lv, r, h.set a (t, l.set k v)) else none
    | none => none
  | _ => none
-- makings
def zdef (kind : Nat) : Value := match kind with
  | 0 => .int 0
  | 1 => .long 0
  | _ => .null
def zNN : Nat → Nat := fun c => match c with
  | 0 => 2 | 1 => 19 | 2 => 3 | 3 => 7 | 4 => 3 | 5 => 15 | _ => 40
/-- the kinds of a class's fields, by the printed types -/
def zkd (ty : FieldType) : Nat := match ty with
  | .int => 0
  | .long => 1
  | _ => 2
def ztyX (c : Nat) : Nat → FieldType := match c with
  | 0 => tyX0 | 1 => tyX1 | 2 => tyX2 | 3 => tyX3 | 4 => tyX4 | 5 => tyX5 | _ => tyX6
def zfresh (c : Nat) : List Value := (List.range (zNN c)).map (fun k => defaultValue (ztyX c k))
def zwfall (lv : zL) (st : List Value) (h : zH) : Bool := zwfl h.length lv && (zwfs h.length st && zwfh h.length h)
def znew (ci pc : Nat) (lv : zL) (st : List Value) (h : zH) : Option zS :=
  if ci < 7 ∧ zwfall lv st h = true then some (pc + 3, lv, .ref h.length :: st, h ++ [(ci, zfresh ci)]) else none
def znewa (tag : Nat) (v : Value) (pc : Nat) (lv : zL) (st : List Value) (h : zH) : Option zS := match st with
  | .int n :: r => if ¬ n < 0 ∧ n.toNatClampNeg ≤ 1000 ∧ zwfall lv st h = true then some (pc, lv, .ref h.length :: r, h ++ [(tag, List.replicate n.toNatClampNeg v)]) else none
  | _ => none
def znewm (pc : Nat) (lv : zL) (st : List Value) (h : zH) : Option zS := match st with
  | .int k :: .int n :: r => if ¬ n < 0 ∧ n.toNatClampNeg ≤ 1000 ∧ ¬ k < 0 ∧ k.toNatClampNeg ≤ 1000 ∧ zwfall lv st h = true then
      some (pc + 4, lv, .ref h.length :: r, (h ++ [(15, (List.range n.toNatClampNeg).map (fun i => .ref (h.length + 1 + i)))]) ++ List.replicate n.toNatClampNeg (11, List.replicate k.toNatClampNeg (.long 0))) else none
  | _ => none
def zcopy (pc : Nat) (lv : zL) (st : List Value) (h : zH) : Option zS := match st with
  | .int n :: .int dp :: .ref a :: .int sp :: .ref a0 :: r => match h[a0]? with
    | some (t0, l0) => match h[a]? with
      | some (t, l) => if t0 = 10 ∧ t = 10 ∧ ¬ sp < 0 ∧ ¬ dp < 0 ∧ ¬ n < 0 ∧ sp.toNatClampNeg + n.toNatClampNeg ≤ l0.length ∧ dp.toNatClampNeg + n.toNatClampNeg ≤ l.length ∧ zcat r ≤ 8 then
          some (pc + 3, lv, r, h.set a (10, (l.take dp.toNatClampNeg ++ (l0.drop sp.toNatClampNeg).take n.toNatClampNeg) ++ l.drop (dp.toNatClampNeg + n.toNatClampNeg))) else none
      | none => none
    | none => none
  | _ => none
def zobji (pc : Nat) (lv : zL) (st : List Value) (h : zH) : Option zS := match st with
  | .ref _ :: r => if zcat r ≤ 8 then some (pc + 3, lv, r, h) else none
  | _ => none
def zabsI (pc : Nat) (lv : zL) (st : List Value) (h : zH) : Option zS := match st with
  | .int x :: r => if zcat r ≤ 8 then some (pc + 3, lv, .int (if 0 ≤ x then x else 0 - x) :: r, h) else none
  | _ => none
def zabsL (pc : Nat) (lv : zL) (st : List Value) (h : zH) : Option zS := match st with
  | .long x :: r => if zcat r ≤ 8 then some (pc + 3, lv, .long (if 0 < x then x else -x) :: r, h) else none
  | _ => none
def zdup (pc : Nat) (lv : zL) (st : List Value) (h : zH) : Option zS := match st with
  | v :: r => if v.category = 1 then some (pc + 1, lv, v :: v :: r, h) else none
  | _ => none
def zdup2 (pc : Nat) (lv : zL) (st : List Value) (h : zH) : Option zS := match st with
  | v :: w :: r => if v.category = 1 ∧ w.category = 1 then some (pc + 1, lv, v :: w :: v :: w :: r, h) else none
  | _ => none
def zpop (pc : Nat) (lv : zL) (st : List Value) (h : zH) : Option zS := match st with
  | v :: r => if v.category = 1 then some (pc + 1, lv, r, h) else none
  | _ => none
def zpop2 (pc : Nat) (lv : zL) (st : List Value) (h : zH) : Option zS := match st with
  | v :: r => if v.category = 2 then some (pc + 1, lv, r, h) else none
  | _ => none
def ziinc (lv : zL) (i : Nat) (n : Int) (pc : Nat) (st : List Value) (h : zH) : Option zS := match zget lv i with
  | some (.int x) => some (pc + 3, zst1 lv i (.int (x + Int32.ofInt n)), st, h)
  | _ => none
/-- one instruction that is no call and no return -/
def zstep (F : zF) (e : zE) (pc : Nat) (lv : zL) (st : List Value) (h : zH) : Option zS := match e.1 with
  | .iconst n => some (pc + 1, lv, .int (Int32.ofInt n) :: st, h)
  | .bipush n => some (pc + 2, lv, .int (Int8.ofInt n).toInt32 :: st, h)
  | .sipush n => some (pc + 3, lv, .int (Int16.ofInt n).toInt32 :: st, h)
  | .lconst n => some (pc + 1, lv, .long (Int64.ofNat (n : Nat)) :: st, h)
  | .ldc2_w _ => some (pc + 3, lv, .long (Int64.ofNat e.2.2.1) :: st, h)
  | .iload_n k => zldI lv k (pc + 1) st h
  | .iload k => zldI lv k (pc + 2) st h
  | .lload_n k => zldL lv k (pc + 1) st h
  | .lload k => zldL lv k (pc + 2) st h
  | .aload_n k => zldA lv k (pc + 1) st h
  | .aload k => zldA lv k (pc + 2) st h
  | .istore_n k => zsI lv k (pc + 1) st h
  | .istore k => zsI lv k (pc + 2) st h
  | .lstore_n k => zsL lv k (pc + 1) st h
  | .lstore k => zsL lv k (pc + 2) st h
  | .astore_n k => zsA lv k (pc + 1) st h
  | .astore k => zsA lv k (pc + 2) st h
  | .iinc i n => ziinc lv i n pc st h
  | .iadd => zII (fun x y => x + y) pc lv st h
  | .isub => zII (fun x y => x - y) pc lv st h
  | .imul => zII (fun x y => x * y) pc lv st h
  | .iand => zII (fun x y => x &&& y) pc lv st h
  | .idiv => zIIn (fun x y => x / y) pc lv st h
  | .irem => zIIn (fun x y => x - x / y * y) pc lv st h
  | .ladd => zLL (fun x y => x + y) pc lv st h
  | .lsub => zLL (fun x y => x - y) pc lv st h
  | .lmul => zLL (fun x y => x * y) pc lv st h
  | .ldiv => zLLn (fun x y => x / y) pc lv st h
  | .lrem => zLLn (fun x y => x - x / y * y) pc lv st h
  | .ineg => zI (fun x => .int (-x)) pc lv st h
  | .i2l => zI (fun x => .long x.toInt64) pc lv st h
  | .i2b => zI (fun x => .int x.toInt8.toInt32) pc lv st h
  | .i2s => zI (fun x => .int x.toInt16.toInt32) pc lv st h
  | .lneg => zLo (fun x => .long (-x)) pc lv st h
  | .l2i => zLo (fun x => .int x.toInt32) pc lv st h
  | .lcmp => zlcmp pc lv st h
  | .if_icmp c _ => zif2 c e.2.2.1 pc lv st h
  | .ifCond c _ => zif1 c e.2.2.1 pc lv st h
  | .goto _ => some (e.2.2.1, lv, st, h)
  | .tableswitch dflt lo hi offs => zsw (ztab dflt lo hi offs) pc lv st h
  | .lookupswitch dflt ps => zsw (fun x => some (Op.lookupswitch.offset ps.toList dflt x.toInt)) pc lv st h
  | .dup => zdup pc lv st h
  | .dup2 => zdup2 pc lv st h
  | .pop => zpop pc lv st h
  | .pop2 => zpop2 pc lv st h
  | .iaload => zald 10 0 F pc lv st h
  | .laload => zald 11 1 F pc lv st h
  | .baload => zald 12 0 F pc lv st h
  | .aaload => zaldq pc lv st h
  | .iastore => zastI pc lv st h
  | .bastore => zastZ pc lv st h
  | .lastore => zastL pc lv st h
  | .aastore => zastQ pc lv st h
  | .arraylength => zalen F pc lv st h
  | .getfield _ => zgetf e.2.2.1 e.2.2.2.1 pc lv st h
  | .putfield _ => zputf (e.2.2.1 % 16) e.2.2.2.1 (e.2.2.1 / 16) pc lv st h
  | .getstatic _ => some (pc + 3, lv, .retAddr e.2.2.1 :: st, h)
  | .new _ => znew e.2.2.1 pc lv st h
  | .newarray t => (match t with
    | .int => znewa 10 (.int 0) (pc + 2) lv st h
    | .long => znewa 11 (.long 0) (pc + 2) lv st h
    | .boolean => znewa 12 (.int 0) (pc + 2) lv st h
    | _ => none)
  | .anewarray _ => znewa (13 + e.2.2.1) .null (pc + 3) lv st h
  | .multianewarray _ _ => znewm pc lv st h
  | .invokespecial _ => zobji pc lv st h
  | .invokestatic _ => (match e.2.2.1 with
    | 901 => zcopy pc lv st h
    | 902 => zabsI pc lv st h
    | _ => zabsL pc lv st h)
  | _ => none
/-- what a return instruction gives -/
def zret (i : Instr) (a : Nat) (st : List Value) : Option (Option Value) := match i with
  | .ireturn => (match st with | [.int x] => if a = 1 ∧ ¬ (x = 0 ∨ x = 1) then none else some (some (.int x)) | _ => none)
  | .lreturn => (match st with | [.long x] => some (some (.long x)) | _ => none)
  | .return_ => (match st with | [] => some none | _ => none)
  | _ => none
/-- 0: a call of a method of the table; 1: a return; 2: another -/
def zcls (e : zE) : Nat := match e.1 with
  | .invokevirtual _ => 0
  | .invokestatic _ => if e.2.2.1 < 900 then 0 else 2
  | .invokespecial _ => if e.2.2.1 = 900 then 2 else 0
  | .ireturn => 1
  | .lreturn => 1
  | .return_ => 1
  | _ => 2
/-- the receiver of a call -/
def zrecv (e : zE) (vs : List Value) (h : zH) : Bool := match e.1 with
  | .invokevirtual _ => (match vs with
    | .ref a :: _ => (match h[a]? with
      | some (t, _) => decide (t = e.2.2.2.1 / 4096) && decide (t < 7)
      | none => false)
    | _ => false)
  | .invokespecial _ => (match vs with
    | .ref _ :: _ => true
    | _ => false)
  | _ => true
def zcallB (e : zE) (lv : zL) (st : List Value) (h : zH) : Bool :=
  decide (e.2.2.2.1 % 16 ≤ st.length) && (decide (zcat (st.take (e.2.2.2.1 % 16)) ≤ e.2.2.2.1 / 16 % 256) && (decide (zcat (st.drop (e.2.2.2.1 % 16)) ≤ 8) && (zwfl h.length lv && (zwfs h.length (st.drop (e.2.2.2.1 % 16)) && zrecv e (st.take (e.2.2.2.1 % 16)).reverse h))))
/-- the run of a method from a place in it, with fuel -/
def zex (P : Nat → Nat → Option zE) (F : zF) : Nat → Nat → Nat → zL → List Value → zH → Option (Option Value × zH)
  | 0, _, _, _, _, _ => none
  | n + 1, k, pc, lv, st, h => match P k pc with
    | none => none
    | some e => match zcls e with
      | 0 => bif zcallB e lv st h then
          (match zex P F n e.2.2.1 0 (lv_args 0 (st.take (e.2.2.2.1 % 16)).reverse) [] h with
          | some (r, h') => zex P F n k (pc + 3) lv (r.toList ++ st.drop (e.2.2.2.1 % 16)) h'
          | none => none) else none
      | 1 => (match zret e.1 e.2.2.1 st with
          | some r => some (r, h)
          | none => none)
      | _ => (match zstep F e pc lv st h with
          | some z => zex P F n k z.1 z.2.1 z.2.2.1 z.2.2.2
          | none => none)
