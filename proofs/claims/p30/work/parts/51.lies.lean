/-! ===== whether a place lies in the domain ===== -/
theorem zabsI_ok {x : Int32} (h : x.toInt.natAbs ≤ 2 ^ 20) : (if 0 ≤ x then x else 0 - x).toInt = (x.toInt.natAbs : Int) := by
  have e0 : ((0 : Int32)).toInt = 0 := rfl
  by_cases hx : 0 ≤ x
  · rw [if_pos hx]
    rw [Int32.le_iff_toInt_le, e0] at hx
    omega
  · rw [if_neg hx]
    rw [Int32.le_iff_toInt_le, e0] at hx
    rw [Kit.i32_sub (by rw [e0]; omega) (by rw [e0]; omega), e0]
    omega
/-- in the box, the triangle, the diamond -/
def zdom (d : Nat) (q x y : Int) : Prop := if d = 0 then (x.natAbs : Int) ≤ q ∧ (y.natAbs : Int) ≤ q else if d = 1 then 0 ≤ x ∧ 0 ≤ y ∧ x + y ≤ q else (x.natAbs : Int) + (y.natAbs : Int) ≤ q
theorem m_liesIn_0 (M : zMm) (q x y : Int32) (hx : x.toInt.natAbs ≤ 2 ^ 20) (hy : y.toInt.natAbs ≤ 2 ^ 20) (v : Int32) (hv : (zdom 0 q.toInt x.toInt y.toInt ∧ v = 1) ∨ (¬ zdom 0 q.toInt x.toInt y.toInt ∧ v = 0)) : yOk 72 0 [(0, .int 0), (1, .int q), (2, .int x), (3, .int y)] [] M (some (.int v)) M := by
  have e0 : ((0 : Int32)).toInt = 0 := rfl
  have ax := zabsI_ok hx
  have ay := zabsI_ok hy
  unfold zdom at hv
  rw [if_pos rfl] at hv
  have yes : v = 1 → yOk 72 44 [(0, .int 0), (1, .int q), (2, .int x), (3, .int y)] [] M (some (.int v)) M := by
    intro h
    subst h
    refine yOk.adv 2 (pc' := 49) (lv' := [(0, .int 0), (1, .int q), (2, .int x), (3, .int y)]) (st' := [.int 1]) (M' := M) rfl ?_
    exact yOk.ret _ rfl rfl rfl
  have no : v = 0 → yOk 72 48 [(0, .int 0), (1, .int q), (2, .int x), (3, .int y)] [] M (some (.int v)) M := by
    intro h
    subst h
    refine yOk.adv 1 (pc' := 49) (lv' := [(0, .int 0), (1, .int q), (2, .int x), (3, .int y)]) (st' := [.int 0]) (M' := M) rfl ?_
    exact yOk.ret _ rfl rfl rfl
  refine yOk.adv 5 (pc' := 33) (lv' := [(0, .int 0), (1, .int q), (2, .int x), (3, .int y)]) (st' := [.int q, .int (if 0 ≤ x then x else 0 - x)]) (M' := M) rfl ?_
  refine yOk.if2 .gt _ _ _ _ rfl (fun c1 => ?_) (fun c1 => ?_)
  · have := i32_lt.mp (zgt_t c1)
    rw [ax] at this
    exact no (hv.elim (fun z => absurd z.1.1 (by omega)) (fun z => z.2))
  · have h1 : ¬ q.toInt < (x.toInt.natAbs : Int) := fun h => zgt_f c1 (i32_lt.mpr (by rw [ax]; exact h))
    refine yOk.adv 3 (pc' := 41) (lv' := [(0, .int 0), (1, .int q), (2, .int x), (3, .int y)]) (st' := [.int q, .int (if 0 ≤ y then y else 0 - y)]) (M' := M) rfl ?_
    refine yOk.if2 .gt _ _ _ _ rfl (fun c2 => ?_) (fun c2 => ?_)
    · have := i32_lt.mp (zgt_t c2)
      rw [ay] at this
      exact no (hv.elim (fun z => absurd z.1.2 (by omega)) (fun z => z.2))
    · have h2 : ¬ q.toInt < (y.toInt.natAbs : Int) := fun h => zgt_f c2 (i32_lt.mpr (by rw [ay]; exact h))
      exact yes (hv.elim (fun z => z.2) (fun z => absurd ⟨by omega, by omega⟩ z.1))
theorem m_liesIn_1 (M : zMm) (q x y : Int32) (hx : x.toInt.natAbs ≤ 2 ^ 20) (hy : y.toInt.natAbs ≤ 2 ^ 20) (v : Int32) (hv : (zdom 1 q.toInt x.toInt y.toInt ∧ v = 1) ∨ (¬ zdom 1 q.toInt x.toInt y.toInt ∧ v = 0)) : yOk 72 0 [(0, .int 1), (1, .int q), (2, .int x), (3, .int y)] [] M (some (.int v)) M := by
  have e0 : ((0 : Int32)).toInt = 0 := rfl
  have ax := zabsI_ok hx
  have ay := zabsI_ok hy
  unfold zdom at hv
  rw [if_neg (by decide), if_pos rfl] at hv
  have yes : v = 1 → yOk 72 65 [(0, .int 1), (1, .int q), (2, .int x), (3, .int y)] [] M (some (.int v)) M := by
    intro h
    subst h
    refine yOk.adv 2 (pc' := 70) (lv' := [(0, .int 1), (1, .int q), (2, .int x), (3, .int y)]) (st' := [.int 1]) (M' := M) rfl ?_
    exact yOk.ret _ rfl rfl rfl
  have no : v = 0 → yOk 72 69 [(0, .int 1), (1, .int q), (2, .int x), (3, .int y)] [] M (some (.int v)) M := by
    intro h
    subst h
    refine yOk.adv 1 (pc' := 70) (lv' := [(0, .int 1), (1, .int q), (2, .int x), (3, .int y)]) (st' := [.int 0]) (M' := M) rfl ?_
    exact yOk.ret _ rfl rfl rfl
  have es : (x + y).toInt = x.toInt + y.toInt := Kit.i32_add (by omega) (by omega)
  refine yOk.adv 3 (pc' := 51) (lv' := [(0, .int 1), (1, .int q), (2, .int x), (3, .int y)]) (st' := [.int x]) (M' := M) rfl ?_
  refine yOk.if1 .lt _ _ _ _ rfl (fun c1 => ?_) (fun c1 => ?_)
  · have := i32_lt.mp (zlt_t c1)
    exact no (hv.elim (fun z => absurd z.1.1 (by omega)) (fun z => z.2))
  · have h1 : ¬ x.toInt < 0 := fun h => zlt_f c1 (i32_lt.mpr (by rw [e0]; exact h))
    refine yOk.adv 1 (pc' := 55) (lv' := [(0, .int 1), (1, .int q), (2, .int x), (3, .int y)]) (st' := [.int y]) (M' := M) rfl ?_
    refine yOk.if1 .lt _ _ _ _ rfl (fun c2 => ?_) (fun c2 => ?_)
    · have := i32_lt.mp (zlt_t c2)
      exact no (hv.elim (fun z => absurd z.1.2.1 (by omega)) (fun z => z.2))
    · have h2 : ¬ y.toInt < 0 := fun h => zlt_f c2 (i32_lt.mpr (by rw [e0]; exact h))
      refine yOk.adv 4 (pc' := 62) (lv' := [(0, .int 1), (1, .int q), (2, .int x), (3, .int y)]) (st' := [.int q, .int (x + y)]) (M' := M) rfl ?_
      refine yOk.if2 .gt _ _ _ _ rfl (fun c3 => ?_) (fun c3 => ?_)
      · have := i32_lt.mp (zgt_t c3)
        rw [es] at this
        exact no (hv.elim (fun z => absurd z.1.2.2 (by omega)) (fun z => z.2))
      · have h3 : ¬ q.toInt < x.toInt + y.toInt := fun h => zgt_f c3 (i32_lt.mpr (by rw [es]; exact h))
        exact yes (hv.elim (fun z => z.2) (fun z => absurd ⟨by omega, by omega, by omega⟩ z.1))
theorem m_liesIn_2 (M : zMm) (q x y : Int32) (hx : x.toInt.natAbs ≤ 2 ^ 20) (hy : y.toInt.natAbs ≤ 2 ^ 20) (v : Int32) (hv : (zdom 2 q.toInt x.toInt y.toInt ∧ v = 1) ∨ (¬ zdom 2 q.toInt x.toInt y.toInt ∧ v = 0)) : yOk 72 0 [(0, .int 2), (1, .int q), (2, .int x), (3, .int y)] [] M (some (.int v)) M := by
  have e0 : ((0 : Int32)).toInt = 0 := rfl
  have ax := zabsI_ok hx
  have ay := zabsI_ok hy
  unfold zdom at hv
  rw [if_neg (by decide), if_neg (by decide)] at hv
  have yes : v = 1 → yOk 72 84 [(0, .int 2), (1, .int q), (2, .int x), (3, .int y)] [] M (some (.int v)) M := by
    intro h
    subst h
    refine yOk.adv 2 (pc' := 89) (lv' := [(0, .int 2), (1, .int q), (2, .int x), (3, .int y)]) (st' := [.int 1]) (M' := M) rfl ?_
    exact yOk.ret _ rfl rfl rfl
  have no : v = 0 → yOk 72 88 [(0, .int 2), (1, .int q), (2, .int x), (3, .int y)] [] M (some (.int v)) M := by
    intro h
    subst h
    refine yOk.adv 1 (pc' := 89) (lv' := [(0, .int 2), (1, .int q), (2, .int x), (3, .int y)]) (st' := [.int 0]) (M' := M) rfl ?_
    exact yOk.ret _ rfl rfl rfl
  have es : ((if 0 ≤ x then x else 0 - x) + (if 0 ≤ y then y else 0 - y)).toInt = (x.toInt.natAbs : Int) + (y.toInt.natAbs : Int) := by
    rw [Kit.i32_add (by rw [ax, ay]; omega) (by rw [ax, ay]; omega), ax, ay]
  refine yOk.adv 8 (pc' := 81) (lv' := [(0, .int 2), (1, .int q), (2, .int x), (3, .int y)]) (st' := [.int q, .int ((if 0 ≤ x then x else 0 - x) + (if 0 ≤ y then y else 0 - y))]) (M' := M) rfl ?_
  refine yOk.if2 .gt _ _ _ _ rfl (fun c1 => ?_) (fun c1 => ?_)
  · have := i32_lt.mp (zgt_t c1)
    rw [es] at this
    exact no (hv.elim (fun z => absurd z.1 (by omega)) (fun z => z.2))
  · have h1 : ¬ q.toInt < (x.toInt.natAbs : Int) + (y.toInt.natAbs : Int) := fun h => zgt_f c1 (i32_lt.mpr (by rw [es]; exact h))
    exact yes (hv.elim (fun z => z.2) (fun z => absurd (by omega) z.1))
