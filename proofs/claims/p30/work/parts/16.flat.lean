/-! ===== the interpreter over numbers alone: all cells made, references fixed ===== -/
abbrev zMm : Type := (Nat → Nat → Int32) × (Nat → Nat → Int64)
abbrev zT : Type := Nat × zL × List Value × zMm
def zup (M : zMm) (a i : Nat) (x : Int32) : zMm := (fun a' i' => if a' = a ∧ i' = i then x else M.1 a' i', M.2)
def zupL (M : zMm) (a i : Nat) (x : Int64) : zMm := (M.1, fun a' i' => if a' = a ∧ i' = i then x else M.2 a' i')
def zcpm (M : zMm) (a0 sp a dp n : Nat) : zMm := (fun a' i' => if a' = a ∧ dp ≤ i' ∧ i' < dp + n then M.1 a0 (sp + (i' - dp)) else M.1 a' i', M.2)
/-- what kind a place is -/
def zcd (c : Nat × Nat × List Nat) (i : Nat) : Nat := match c.1 with
  | 10 => 0
  | 11 => 1
  | 12 => 0
  | _ => c.2.2.getD i 0
def zvc (M : zMm) (a i : Nat) (k : Nat) : Value := match k with
  | 0 => .int (M.1 a i)
  | 1 => .long (M.2 a i)
  | r + 2 => .ref r
def zcell (M : zMm) (a : Nat) (c : Nat × Nat × List Nat) : zC := (c.1, (List.range c.2.1).map (fun i => zvc M a i (zcd c i)))
def zHo (M : zMm) : zH := zlay.mapIdx (fun a c => zcell M a c)
-- steps that look at cells
def yald (tag : Nat) (F : zF) (pc : Nat) (lv : zL) (st : List Value) (M : zMm) : Option zT := match st with
  | .int i :: .ref a :: r => match zlay[a]? with
    | some c => bif Nat.beq c.1 tag && zin i c.2.1 then some (pc + 1, lv, (match tag with | 11 => .long (M.2 a i.toNatClampNeg) | _ => .int (M.1 a i.toNatClampNeg)) :: r, M) else none
    | none => none
  | .int i :: .retAddr a :: r => bif Nat.beq tag 10 && (Nat.blt a 4 && zin i ((F a).1 - 1)) then some (pc + 1, lv, .int ((F a).2 i.toNatClampNeg) :: r, M) else none
  | _ => none
def yaldq (pc : Nat) (lv : zL) (st : List Value) (M : zMm) : Option zT := match st with
  | .int i :: .ref a :: r => match zlay[a]? with
    | some c => bif (Nat.beq c.1 13 || (Nat.beq c.1 14 || Nat.beq c.1 15)) && zin i c.2.1 then (match c.2.2.getD i.toNatClampNeg 0 with
      | v + 2 => some (pc + 1, lv, .ref v :: r, M)
      | _ => none) else none
    | none => none
  | _ => none
def yastI (pc : Nat) (lv : zL) (st : List Value) (M : zMm) : Option zT := match st with
  | .int x :: .int i :: .ref a :: r => match zlay[a]? with
    | some c => bif Nat.beq c.1 10 && zin i c.2.1 then some (pc + 1, lv, r, zup M a i.toNatClampNeg x) else none
    | none => none
  | _ => none
def yastZ (pc : Nat) (lv : zL) (st : List Value) (M : zMm) : Option zT := match st with
  | .int x :: .int i :: .ref a :: r => match zlay[a]? with
    | some c => bif Nat.beq c.1 12 && zin i c.2.1 then some (pc + 1, lv, r, zup M a i.toNatClampNeg (vp_nar .boolean x)) else none
    | none => none
  | _ => none
def yastL (pc : Nat) (lv : zL) (st : List Value) (M : zMm) : Option zT := match st with
  | .long x :: .int i :: .ref a :: r => match zlay[a]? with
    | some c => bif Nat.beq c.1 11 && zin i c.2.1 then some (pc + 1, lv, r, zupL M a i.toNatClampNeg x) else none
    | none => none
  | _ => none
def yalen (F : zF) (pc : Nat) (lv : zL) (st : List Value) (M : zMm) : Option zT := match st with
  | .ref a :: r => match zlay[a]? with
    | some c => bif Nat.ble 10 c.1 && Nat.ble c.1 15 then some (pc + 1, lv, .int (Int32.ofNat c.2.1) :: r, M) else none
    | none => none
  | .retAddr a :: r => bif Nat.blt a 4 && Nat.blt 0 (F a).1 then some (pc + 1, lv, .int (Int32.ofNat ((F a).1 - 1)) :: r, M) else none
  | _ => none
def ygetf (ci k pc : Nat) (lv : zL) (st : List Value) (M : zMm) : Option zT := match st with
  | .ref a :: r => match zlay[a]? with
    | some c => bif Nat.beq c.1 ci && (Nat.blt ci 7 && Nat.blt k c.2.1) then some (pc + 3, lv, zvc M a k (c.2.2.getD k 0) :: r, M) else none
    | none => none
  | _ => none
def yputf (ci k kind pc : Nat) (lv : zL) (st : List Value) (M : zMm) : Option zT := match st with
  | .int x :: .ref a :: r => match zlay[a]? with
    | some c => bif Nat.beq c.1 ci && (Nat.blt ci 7 && (Nat.blt k c.2.1 && (Nat.beq (c.2.2.getD k 9) 0 && Nat.beq kind 0))) then some (pc + 3, lv, r, zup M a k x) else none
    | none => none
  | .long x :: .ref a :: r => match zlay[a]? with
    | some c => bif Nat.beq c.1 ci && (Nat.blt ci 7 && (Nat.blt k c.2.1 && (Nat.beq (c.2.2.getD k 9) 1 && Nat.beq kind 1))) then some (pc + 3, lv, r, zupL M a k x) else none
    | none => none
  | _ => none
def ycopy (pc : Nat) (lv : zL) (st : List Value) (M : zMm) : Option zT := match st with
  | .int n :: .int dp :: .ref a :: .int sp :: .ref a0 :: r => match zlay[a0]?, zlay[a]? with
    | some c0, some c => if c0.1 = 10 ∧ c.1 = 10 ∧ ¬ sp < 0 ∧ ¬ dp < 0 ∧ ¬ n < 0 ∧ sp.toNatClampNeg + n.toNatClampNeg ≤ c0.2.1 ∧ dp.toNatClampNeg + n.toNatClampNeg ≤ c.2.1 ∧ zcat r ≤ 8 then
        some (pc + 3, lv, r, zcpm M a0 sp.toNatClampNeg a dp.toNatClampNeg n.toNatClampNeg) else none
    | _, _ => none
  | _ => none
def ylift (M : zMm) (x : Option zS) : Option zT := match x with
  | some z => some (z.1, z.2.1, z.2.2.1, M)
  | none => none
def ystep (F : zF) (e : zE) (pc : Nat) (lv : zL) (st : List Value) (M : zMm) : Option zT := match e.1 with
  | .iaload => yald 10 F pc lv st M
  | .laload => yald 11 F pc lv st M
  | .baload => yald 12 F pc lv st M
  | .aaload => yaldq pc lv st M
  | .iastore => yastI pc lv st M
  | .bastore => yastZ pc lv st M
  | .lastore => yastL pc lv st M
  | .aastore => none
  | .arraylength => yalen F pc lv st M
  | .getfield _ => ygetf e.2.2.1 e.2.2.2.1 pc lv st M
  | .putfield _ => yputf (e.2.2.1 % 16) e.2.2.2.1 (e.2.2.1 / 16) pc lv st M
  | .new _ => none
  | .newarray _ => none
  | .anewarray _ => none
  | .multianewarray _ _ => none
  | .invokestatic _ => (match e.2.2.1 with
    | 901 => ycopy pc lv st M
    | 902 => ylift M (zabsI pc lv st [])
    | _ => ylift M (zabsL pc lv st []))
  | _ => ylift M (zstep F e pc lv st [])
def yrecv (e : zE) (vs : List Value) : Bool := match e.1 with
  | .invokevirtual _ => (match vs with
    | .ref a :: _ => (match zlay[a]? with
      | some c => Nat.beq c.1 (e.2.2.2.1 / 4096) && Nat.blt c.1 7
      | none => false)
    | _ => false)
  | .invokespecial _ => (match vs with
    | .ref _ :: _ => true
    | _ => false)
  | _ => true
def ycallB (e : zE) (lv : zL) (st : List Value) : Bool :=
  Nat.ble (e.2.2.2.1 % 16) st.length && (Nat.ble (zcat (st.take (e.2.2.2.1 % 16))) (e.2.2.2.1 / 16 % 256) && (Nat.ble (zcat (st.drop (e.2.2.2.1 % 16))) 8 && (zwfl 118 lv && (zwfs 118 (st.drop (e.2.2.2.1 % 16)) && yrecv e (st.take (e.2.2.2.1 % 16)).reverse))))
def yex (P : Nat → Nat → Option zE) (F : zF) : Nat → Nat → Nat → zL → List Value → zMm → Option (Option Value × zMm)
  | 0, _, _, _, _, _ => none
  | n + 1, k, pc, lv, st, M => match P k pc with
    | none => none
    | some e => match zcls e with
      | 0 => bif ycallB e lv st then
          (match yex P F n e.2.2.1 0 (lv_args 0 (st.take (e.2.2.2.1 % 16)).reverse) [] M with
          | some (r, M') => yex P F n k (pc + 3) lv (r.toList ++ st.drop (e.2.2.2.1 % 16)) M'
          | none => none) else none
      | 1 => (match zret e.1 e.2.2.1 st with
          | some r => some (r, M)
          | none => none)
      | _ => (match ystep F e pc lv st M with
          | some z => yex P F n k z.1 z.2.1 z.2.2.1 z.2.2.2
          | none => none)
-- and what they are over cells
theorem zHo_get {M : zMm} {a : Nat} {c : Nat × Nat × List Nat} (h : zlay[a]? = some c) : (zHo M)[a]? = some (zcell M a c) := by
  unfold zHo; rw [List.getElem?_mapIdx, h]; rfl
theorem zHo_len (M : zMm) : (zHo M).length = 118 := by unfold zHo; rw [List.length_mapIdx]; rfl
theorem zcell_get {M : zMm} {a i : Nat} {c : Nat × Nat × List Nat} (h : i < c.2.1) : (zcell M a c).2[i]? = some (zvc M a i (zcd c i)) := by
  unfold zcell; rw [List.getElem?_map, List.getElem?_range h]; rfl
theorem zcell_len {M : zMm} {a : Nat} {c : Nat × Nat × List Nat} : (zcell M a c).2.length = c.2.1 := by unfold zcell; rw [List.length_map, List.length_range]
/-- a changed cell -/
theorem zHo_set {M M' : zMm} {a : Nat} {c : Nat × Nat × List Nat} {l : List Value} (h : zlay[a]? = some c) (hl : l.length = c.2.1) (h1 : ∀ i, i < c.2.1 → l[i]? = some (zvc M' a i (zcd c i))) (h2 : ∀ a' i k, a' ≠ a → zvc M' a' i k = zvc M a' i k) : (zHo M).set a (c.1, l) = zHo M' := by
  apply List.ext_getElem?
  intro j
  rw [List.getElem?_set]
  by_cases hj : a = j
  · subst hj
    have hlt := (List.getElem?_eq_some_iff.mp (zHo_get (M := M) h)).1
    rw [if_pos rfl, if_pos hlt, zHo_get h]
    congr 1
    unfold zcell
    congr 1
    apply List.ext_getElem?
    intro i
    by_cases hi : i < c.2.1
    · rw [h1 i hi, List.getElem?_map, List.getElem?_range hi]; rfl
    · rw [List.getElem?_eq_none (by omega), List.getElem?_eq_none (by rw [List.length_map, List.length_range]; omega)]
  · rw [if_neg hj]
    unfold zHo
    rw [List.getElem?_mapIdx, List.getElem?_mapIdx]
    cases hz : zlay[j]? with
    | none => rfl
    | some c' =>
      show some (zcell M j c') = some (zcell M' j c')
      unfold zcell
      congr 2
      apply List.map_congr_left
      intro i _
      exact (h2 j i _ (Ne.symm hj)).symm
theorem zvc_up {M : zMm} {a i a' i' k : Nat} {x : Int32} (h : a' ≠ a) : zvc (zup M a i x) a' i' k = zvc M a' i' k := by
  unfold zvc zup
  split
  · simp [h]
  · rfl
  · rfl
theorem zvc_upL {M : zMm} {a i a' i' k : Nat} {x : Int64} (h : a' ≠ a) : zvc (zupL M a i x) a' i' k = zvc M a' i' k := by
  unfold zvc zupL
  split
  · rfl
  · simp [h]
  · rfl
theorem zset_up {M : zMm} {a i : Nat} {c : Nat × Nat × List Nat} {x : Int32} (h : zlay[a]? = some c) (hi : i < c.2.1) (hk : zcd c i = 0) : (zHo M).set a (c.1, (zcell M a c).2.set i (.int x)) = zHo (zup M a i x) := by
  refine zHo_set h (by rw [List.length_set, zcell_len]) (fun j hj => ?_) (fun a' i' k ha => zvc_up ha)
  rw [List.getElem?_set]
  by_cases hj2 : i = j
  · subst hj2
    rw [if_pos rfl, if_pos (by rw [zcell_len]; exact hi), hk]
    simp [zvc, zup]
  · rw [if_neg hj2, zcell_get hj]
    unfold zvc zup
    split
    · simp [Ne.symm hj2]
    · rfl
    · rfl
theorem zset_upL {M : zMm} {a i : Nat} {c : Nat × Nat × List Nat} {x : Int64} (h : zlay[a]? = some c) (hi : i < c.2.1) (hk : zcd c i = 1) : (zHo M).set a (c.1, (zcell M a c).2.set i (.long x)) = zHo (zupL M a i x) := by
  refine zHo_set h (by rw [List.length_set, zcell_len]) (fun j hj => ?_) (fun a' i' k ha => zvc_upL ha)
  rw [List.getElem?_set]
  by_cases hj2 : i = j
  · subst hj2
    rw [if_pos rfl, if_pos (by rw [zcell_len]; exact hi), hk]
    simp [zvc, zupL]
  · rw [if_neg hj2, zcell_get hj]
    unfold zvc zupL
    split
    · rfl
    · simp [Ne.symm hj2]
    · rfl
