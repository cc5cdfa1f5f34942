/-! ===== what the code table must say of an instruction: checked by the kernel ===== -/
/-- a method: name, code, locals, what it returns; frames and words of locals that its calls take; 0 static, 1 by its object, 2 a constructor; number of parameters -/
abbrev zM : Type := MethodName × ByteArray × Nat × Option FieldType × Nat × Nat × Nat × Nat
def zlw (i : Nat) (w : Cond) : Bool := decide (lw_tbl[i]? = some w)
def zsn (a : Nat) : String := match a with
  | 0 => "POWER_X"
  | 1 => "POWER_Y"
  | _ => "FACTORIAL"
def zlinkF (own : String) (idx d : Nat) (q : String × String × String × Bool) : Bool := zlw d (.fieldLink own idx q.1 q.2.1 q.2.2.1)
def zkok (kind : Nat) (ty : FieldType) : Bool := match ty with
  | .int => kind == 0
  | .long => kind == 1
  | .object _ => kind == 2
  | .array _ => kind == 2
  | _ => false
def zNm : Nat := 166
def zrty (M : zM) (i : Instr) (a : Nat) : Bool := match i with
  | .ireturn => if a = 1 then decide (M.2.2.2.1 = some .boolean) else decide (M.2.2.2.1 = some .int)
  | .lreturn => decide (M.2.2.2.1 = some .long)
  | .return_ => decide (M.2.2.2.1 = none)
  | _ => true
def zsideB (mt : Nat → zM) (M : zM) (pc : Nat) (e : zE) : Bool := match e.1 with
  | .ldc2_w idx => zlw e.2.2.2.2 (.constantLong M.1.cls idx (Int64.ofNat e.2.2.1))
  | .istore_n k => decide ((k : Nat) < M.2.2.1)
  | .istore k => decide (k < M.2.2.1)
  | .astore_n k => decide ((k : Nat) < M.2.2.1)
  | .astore k => decide (k < M.2.2.1)
  | .lstore_n k => decide ((k : Nat) + 1 < M.2.2.1)
  | .lstore k => decide (k + 1 < M.2.2.1)
  | .iinc i _ => decide (i < M.2.2.1)
  | .if_icmp _ off => decide ((pc : Int) + off = (e.2.2.1 : Int))
  | .ifCond _ off => decide ((pc : Int) + off = (e.2.2.1 : Int))
  | .goto off => decide ((pc : Int) + off = (e.2.2.1 : Int))
  | .lookupswitch _ ps => (ps.toList.zip (ps.toList.drop 1)).all (fun (a, next) => a.1 < next.1)
  | .getfield idx => (match vwCl[e.2.2.1]? with
    | some r => decide (e.2.2.2.1 < r.2.2) && zlinkF M.1.cls idx e.2.2.2.2 (r.2.1 e.2.2.2.1)
    | none => false)
  | .putfield idx => (match vwCl[e.2.2.1 % 16]? with
    | some r => decide (e.2.2.2.1 < r.2.2) && zlinkF M.1.cls idx e.2.2.2.2 (r.2.1 e.2.2.2.1) && ((!(r.2.1 e.2.2.2.1).2.2.2) || (decide ((r.2.1 e.2.2.2.1).1 = M.1.cls) && decide (M.1.name = "<init>"))) && zkok (e.2.2.1 / 16) (ztyX (e.2.2.1 % 16) e.2.2.2.1)
    | none => false)
  | .getstatic idx => decide (e.2.2.1 < 3) && (if e.2.2.2.1 = 0 then zlw e.2.2.2.2 (.fieldLink M.1.cls idx "FewPlaces" (zsn e.2.2.1) "[I") else zlw e.2.2.2.2 (.fieldLinkNest M.1.cls idx "FewPlaces" (zsn e.2.2.1) "[I" "FewPlaces"))
  | .new idx => (match vwCl[e.2.2.1]? with
    | some r => zlw e.2.2.2.2 (.classLink M.1.cls idx r.1)
    | none => false)
  | .anewarray idx => decide (e.2.2.1 < 2) && zlw e.2.2.2.2 (.classLink M.1.cls idx (if e.2.2.1 = 0 then RX3 else RX4))
  | .multianewarray idx dims => decide (dims = 2) && zlw e.2.2.2.2 (.classLink M.1.cls idx "[[J")
  | .invokevirtual idx => decide ((vwCl[e.2.2.2.1 / 4096]?).map (fun r => r.1) = some (mt e.2.2.1).1.cls) && decide (e.2.2.1 < zNm) && decide ((mt e.2.2.1).2.2.2.2.2.2.1 = 1) && decide (e.2.2.2.1 % 16 = (mt e.2.2.1).2.2.2.2.2.2.2 + 1) && decide (e.2.2.2.1 / 16 % 256 = (mt e.2.2.1).2.2.1) && decide ((mt e.2.2.1).2.2.2.2.1 + 1 ≤ M.2.2.2.2.1) && decide (8 + ((mt e.2.2.1).2.2.1 + 11) + (mt e.2.2.1).2.2.2.2.2.1 ≤ M.2.2.2.2.2.1) && (if e.2.2.2.2 % 2 = 0 then zlw (e.2.2.2.2 / 2) (.methodLink M.1.cls idx (mt e.2.2.1).1) else zlw (e.2.2.2.2 / 2) (.methodLinkNest M.1.cls idx (mt e.2.2.1).1 "FewPlaces"))
  | .invokestatic idx => if e.2.2.1 = 902 then zlw e.2.2.2.2 (.methodLink M.1.cls idx Lib.Math.abs.name) && decide (1 ≤ M.2.2.2.2.1) && decide (21 ≤ M.2.2.2.2.2.1) else if e.2.2.1 = 903 then zlw e.2.2.2.2 (.methodLink M.1.cls idx Lib.MathLoose.abs_long.x) && decide (1 ≤ M.2.2.2.2.1) && decide (21 ≤ M.2.2.2.2.2.1) else if e.2.2.1 = 901 then zlw e.2.2.2.2 (.methodLink M.1.cls idx arraycopyName) && decide (1 ≤ M.2.2.2.2.1) && decide (8 + (nativeFrameWords "java/lang/System" "arraycopy" 5 + 11) ≤ M.2.2.2.2.2.1) else
    decide (e.2.2.1 < 900) && decide (e.2.2.1 < zNm) && decide ((mt e.2.2.1).2.2.2.2.2.2.1 = 0) && decide (e.2.2.2.1 % 16 = (mt e.2.2.1).2.2.2.2.2.2.2) && decide (e.2.2.2.1 / 16 % 256 = (mt e.2.2.1).2.2.1) && decide ((mt e.2.2.1).2.2.2.2.1 + 1 ≤ M.2.2.2.2.1) && decide (8 + ((mt e.2.2.1).2.2.1 + 11) + (mt e.2.2.1).2.2.2.2.2.1 ≤ M.2.2.2.2.2.1) && (if e.2.2.2.2 % 2 = 0 then zlw (e.2.2.2.2 / 2) (.methodLink M.1.cls idx (mt e.2.2.1).1) else zlw (e.2.2.2.2 / 2) (.methodLinkNest M.1.cls idx (mt e.2.2.1).1 "FewPlaces"))
  | .invokespecial idx => if e.2.2.1 = 900 then zlw e.2.2.2.2 (.methodLink M.1.cls idx objectInit) && decide (1 ≤ M.2.2.2.2.1) && decide (20 ≤ M.2.2.2.2.2.1) else
    decide (e.2.2.1 < zNm) && decide ((mt e.2.2.1).2.2.2.2.2.2.1 = 2) && decide (e.2.2.2.1 % 16 = (mt e.2.2.1).2.2.2.2.2.2.2 + 1) && decide (e.2.2.2.1 / 16 % 256 = (mt e.2.2.1).2.2.1) && decide ((mt e.2.2.1).2.2.2.2.1 + 1 ≤ M.2.2.2.2.1) && decide (8 + ((mt e.2.2.1).2.2.1 + 11) + (mt e.2.2.1).2.2.2.2.2.1 ≤ M.2.2.2.2.2.1) && (if e.2.2.2.2 % 2 = 0 then zlw (e.2.2.2.2 / 2) (.methodLink M.1.cls idx (mt e.2.2.1).1) else zlw (e.2.2.2.2 / 2) (.methodLinkNest M.1.cls idx (mt e.2.2.1).1 "FewPlaces"))
  | .ireturn => zrty M e.1 e.2.2.1
  | .lreturn => zrty M e.1 e.2.2.1
  | .return_ => zrty M e.1 e.2.2.1
  | _ => true
def zlen (i : Instr) : Nat := match i with
  | .bipush _ => 2
  | .newarray _ => 2
  | .iload _ => 2
  | .lload _ => 2
  | .aload _ => 2
  | .istore _ => 2
  | .lstore _ => 2
  | .astore _ => 2
  | .sipush _ => 3
  | .ldc2_w _ => 3
  | .iinc _ _ => 3
  | .if_icmp _ _ => 3
  | .ifCond _ _ => 3
  | .goto _ => 3
  | .getfield _ => 3
  | .putfield _ => 3
  | .getstatic _ => 3
  | .new _ => 3
  | .anewarray _ => 3
  | .invokevirtual _ => 3
  | .invokestatic _ => 3
  | .invokespecial _ => 3
  | .multianewarray _ _ => 4
  | .tableswitch _ _ _ _ => 0
  | .lookupswitch _ _ => 0
  | _ => 1
def zgood (mt : Nat → zM) (M : zM) (pc : Nat) (e : zE) : Prop := decode M.2.1 pc = .ok (e.1, e.2.1) ∧ (zlen e.1 = e.2.1 ∨ zlen e.1 = 0) ∧ zsideB mt M pc e = true
def zgoodB (mt : Nat → zM) (M : zM) (q : Nat × zE) : Bool := decide (decode M.2.1 q.1 = .ok (q.2.1, q.2.2.1)) && (decide (zlen q.2.1 = q.2.2.1 ∨ zlen q.2.1 = 0) && zsideB mt M q.1 q.2)
-- tables as trees
def zlf (l : List (Nat × zE)) (pc : Nat) : Option zE := match l with
  | [] => none
  | q :: r => bif Nat.beq q.1 pc then some q.2 else zlf r pc
def ztr {α : Type} (m : Nat) (l r : Nat → α) (pc : Nat) : α := bif Nat.blt pc m then l pc else r pc
def zall (Q : Nat → zE → Prop) (f : Nat → Option zE) : Prop := ∀ pc e, f pc = some e → Q pc e
theorem zall_tr {Q : Nat → zE → Prop} {m : Nat} {l r : Nat → Option zE} (hl : zall Q l) (hr : zall Q r) : zall Q (ztr m l r) := by
  intro pc e h
  unfold ztr at h
  cases hb : Nat.blt pc m <;> rw [hb] at h
  · exact hr pc e h
  · exact hl pc e h
theorem zall_lf {mt : Nat → zM} {M : zM} : ∀ (l : List (Nat × zE)), l.all (zgoodB mt M) = true → zall (zgood mt M) (zlf l)
  | [], _ => fun pc e h => by cases h
  | q :: r, hl => fun pc e h => by
    rw [List.all_cons, Bool.and_eq_true] at hl
    unfold zlf at h
    cases hb : Nat.beq q.1 pc <;> rw [hb] at h
    · exact zall_lf r hl.2 pc e h
    · have e1 : q.1 = pc := Nat.eq_of_beq_eq_true hb
      have e2 : q.2 = e := Option.some.inj h
      have h1 := hl.1
      unfold zgoodB at h1
      rw [Bool.and_eq_true, Bool.and_eq_true, decide_eq_true_eq, decide_eq_true_eq, e1, e2] at h1
      exact h1
/-- what is checked of each method -/
def zmokB (M : zM) (i1 i2 i3 : Nat) : Bool := plainName M.1.cls && zlw i1 (.initialized M.1.cls) && decide (M.1.cls ≠ "java/lang/invoke/MethodHandle") && decide (M.1.cls ≠ "java/lang/invoke/VarHandle") && decide ((parseMethodDescriptor M.1.desc).map (fun d => d.parameters.length) = some M.2.2.2.2.2.2.2) && (match M.2.2.2.2.2.2.1 with
  | 0 => zlw i2 (.static M.1)
  | 1 => zlw i2 (.instanceMethod M.1) && zlw i3 (.selects M.1.cls M.1 M.1)
  | _ => zlw i2 (.instanceMethod M.1) && decide (M.1.name = "<init>") && decide (M.2.2.2.1 = none))
def zmok (M : zM) : Prop := Cond.code M.1 M.2.1 M.2.2.1 M.2.2.2.1 ∈ lw_tbl ∧ ∃ i1 i2 i3, zmokB M i1 i2 i3 = true
