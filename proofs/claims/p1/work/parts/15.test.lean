theorem zt_isFrom (n : Nat) (x lo hi : Int32) (h : zH) (F : zF) : zex zP F (n + 10) 67 0 [(0, .int x), (1, .int lo), (2, .int hi)] [] h = some (some (.int (if lo ≤ x ∧ x ≤ hi then 1 else 0)), h) := by
  have e1 : zex zP F (n + 10) 67 0 [(0, .int x), (1, .int lo), (2, .int hi)] [] h = zex zP F (n + 7) 67 (bif zcB .lt x lo then 14 else 5) [(0, .int x), (1, .int lo), (2, .int hi)] [] h := rfl
  rw [e1]
  by_cases h1 : x < lo
  · have hb : zcB .lt x lo = true := by simp [zcB, h1]
    rw [hb, if_neg (fun q => absurd h1 (Int32.not_lt.mpr q.1))]
    rfl
  · have hb : zcB .lt x lo = false := by simp [zcB, h1]
    rw [hb]
    have e2 : zex zP F (n + 7) 67 5 [(0, .int x), (1, .int lo), (2, .int hi)] [] h = zex zP F (n + 4) 67 (bif zcB .gt x hi then 14 else 10) [(0, .int x), (1, .int lo), (2, .int hi)] [] h := rfl
    show zex zP F (n + 7) 67 5 [(0, .int x), (1, .int lo), (2, .int hi)] [] h = _
    rw [e2]
    by_cases h2 : hi < x
    · have hb : zcB .gt x hi = true := by simp [zcB, h2]
      rw [hb, if_neg (fun q => absurd h2 (Int32.not_lt.mpr q.2))]
      rfl
    · have hb : zcB .gt x hi = false := by simp [zcB, h2]
      rw [hb, if_pos ⟨Int32.not_lt.mp h1, Int32.not_lt.mp h2⟩]
      rfl
def zF0 : zF := fun j => match j with
  | 0 => (29, zpx)
  | 1 => (29, zpy)
  | 2 => (10, zfc)
  | _ => (0, fun _ => 0)
set_option maxRecDepth 100000 in
theorem zt_init : (zex zP zF0 2000 37 0 [(0, .ref 0)] [] [(5, zfresh 5)]).isSome = true := by decide +kernel
