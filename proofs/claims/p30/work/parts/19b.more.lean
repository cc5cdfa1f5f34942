/-! ===== more rows: divisions, arrays at a place that is no number yet ===== -/
section YMO
variable {k pc : Nat} {lv : zL} {st : List Value} {M N : zMm} {r : Option Value}
theorem yOk.lrem {x y : Int64} (a b d : Nat) (he : zP k pc = some (.lrem, 1, a, b, d)) (hy : ¬ y = 0) (h2 : yOk k (pc + 1) lv (.long (x - x / y * y) :: st) M r N) : yOk k pc lv (.long y :: .long x :: st) M r N := by
  refine yOk.step _ he rfl (pc + 1, lv, .long (x - x / y * y) :: st, M) ?_ h2
  show ylift M (zLLn (fun x y => x - x / y * y) pc lv (.long y :: .long x :: st) []) = _
  unfold zLLn
  dsimp only
  rw [if_neg hy]
  rfl
theorem yOk.ldiv {x y : Int64} (a b d : Nat) (he : zP k pc = some (.ldiv, 1, a, b, d)) (hy : ¬ y = 0) (h2 : yOk k (pc + 1) lv (.long (x / y) :: st) M r N) : yOk k pc lv (.long y :: .long x :: st) M r N := by
  refine yOk.step _ he rfl (pc + 1, lv, .long (x / y) :: st, M) ?_ h2
  show ylift M (zLLn (fun x y => x / y) pc lv (.long y :: .long x :: st) []) = _
  unfold zLLn
  dsimp only
  rw [if_neg hy]
  rfl
theorem yOk.idiv {x y : Int32} (a b d : Nat) (he : zP k pc = some (.idiv, 1, a, b, d)) (hy : ¬ y = 0) (h2 : yOk k (pc + 1) lv (.int (x / y) :: st) M r N) : yOk k pc lv (.int y :: .int x :: st) M r N := by
  refine yOk.step _ he rfl (pc + 1, lv, .int (x / y) :: st, M) ?_ h2
  show ylift M (zIIn (fun x y => x / y) pc lv (.int y :: .int x :: st) []) = _
  unfold zIIn
  dsimp only
  rw [if_neg hy]
  rfl
theorem yOk.irem {x y : Int32} (a b d : Nat) (he : zP k pc = some (.irem, 1, a, b, d)) (hy : ¬ y = 0) (h2 : yOk k (pc + 1) lv (.int (x - x / y * y) :: st) M r N) : yOk k pc lv (.int y :: .int x :: st) M r N := by
  refine yOk.step _ he rfl (pc + 1, lv, .int (x - x / y * y) :: st, M) ?_ h2
  show ylift M (zIIn (fun x y => x - x / y * y) pc lv (.int y :: .int x :: st) []) = _
  unfold zIIn
  dsimp only
  rw [if_neg hy]
  rfl
theorem yOk.iald {i : Int32} {a n : Nat} (u v w : Nat) (he : zP k pc = some (.iaload, 1, u, v, w)) (hc : zlay[a]? = some (10, n, [])) (hi : zin i n = true) (h2 : yOk k (pc + 1) lv (.int (M.1 a i.toNatClampNeg) :: st) M r N) : yOk k pc lv (.int i :: .ref a :: st) M r N := by
  refine yOk.step _ he rfl (pc + 1, lv, .int (M.1 a i.toNatClampNeg) :: st, M) ?_ h2
  show yald 10 zF0 pc lv (.int i :: .ref a :: st) M = _
  unfold yald
  dsimp only
  rw [hc]
  show (bif Nat.beq 10 10 && zin i n then _ else none) = _
  rw [hi]
  rfl
theorem yOk.bald {i : Int32} {a n : Nat} (u v w : Nat) (he : zP k pc = some (.baload, 1, u, v, w)) (hc : zlay[a]? = some (12, n, [])) (hi : zin i n = true) (h2 : yOk k (pc + 1) lv (.int (M.1 a i.toNatClampNeg) :: st) M r N) : yOk k pc lv (.int i :: .ref a :: st) M r N := by
  refine yOk.step _ he rfl (pc + 1, lv, .int (M.1 a i.toNatClampNeg) :: st, M) ?_ h2
  show yald 12 zF0 pc lv (.int i :: .ref a :: st) M = _
  unfold yald
  dsimp only
  rw [hc]
  show (bif Nat.beq 12 12 && zin i n then _ else none) = _
  rw [hi]
  rfl
theorem yOk.lald {i : Int32} {a n : Nat} (u v w : Nat) (he : zP k pc = some (.laload, 1, u, v, w)) (hc : zlay[a]? = some (11, n, [])) (hi : zin i n = true) (h2 : yOk k (pc + 1) lv (.long (M.2 a i.toNatClampNeg) :: st) M r N) : yOk k pc lv (.int i :: .ref a :: st) M r N := by
  refine yOk.step _ he rfl (pc + 1, lv, .long (M.2 a i.toNatClampNeg) :: st, M) ?_ h2
  show yald 11 zF0 pc lv (.int i :: .ref a :: st) M = _
  unfold yald
  dsimp only
  rw [hc]
  show (bif Nat.beq 11 11 && zin i n then _ else none) = _
  rw [hi]
  rfl
theorem yOk.fald {i : Int32} {a : Nat} (u v w : Nat) (he : zP k pc = some (.iaload, 1, u, v, w)) (ha : Nat.blt a 4 = true) (hi : zin i ((zF0 a).1 - 1) = true) (h2 : yOk k (pc + 1) lv (.int ((zF0 a).2 i.toNatClampNeg) :: st) M r N) : yOk k pc lv (.int i :: .retAddr a :: st) M r N := by
  refine yOk.step _ he rfl (pc + 1, lv, .int ((zF0 a).2 i.toNatClampNeg) :: st, M) ?_ h2
  show yald 10 zF0 pc lv (.int i :: .retAddr a :: st) M = _
  unfold yald
  dsimp only
  rw [ha, hi]
  rfl
theorem yOk.iast {i x : Int32} {a n : Nat} (u v w : Nat) (he : zP k pc = some (.iastore, 1, u, v, w)) (hc : zlay[a]? = some (10, n, [])) (hi : zin i n = true) (h2 : yOk k (pc + 1) lv st (zup M a i.toNatClampNeg x) r N) : yOk k pc lv (.int x :: .int i :: .ref a :: st) M r N := by
  refine yOk.step _ he rfl (pc + 1, lv, st, zup M a i.toNatClampNeg x) ?_ h2
  show yastI pc lv (.int x :: .int i :: .ref a :: st) M = _
  unfold yastI
  dsimp only
  rw [hc]
  show (bif Nat.beq 10 10 && zin i n then _ else none) = _
  rw [hi]
  rfl
theorem yOk.bast {i x : Int32} {a n : Nat} (u v w : Nat) (he : zP k pc = some (.bastore, 1, u, v, w)) (hc : zlay[a]? = some (12, n, [])) (hi : zin i n = true) (h2 : yOk k (pc + 1) lv st (zup M a i.toNatClampNeg (vp_nar .boolean x)) r N) : yOk k pc lv (.int x :: .int i :: .ref a :: st) M r N := by
  refine yOk.step _ he rfl (pc + 1, lv, st, zup M a i.toNatClampNeg (vp_nar .boolean x)) ?_ h2
  show yastZ pc lv (.int x :: .int i :: .ref a :: st) M = _
  unfold yastZ
  dsimp only
  rw [hc]
  show (bif Nat.beq 12 12 && zin i n then _ else none) = _
  rw [hi]
  rfl
theorem yOk.last {i : Int32} {x : Int64} {a n : Nat} (u v w : Nat) (he : zP k pc = some (.lastore, 1, u, v, w)) (hc : zlay[a]? = some (11, n, [])) (hi : zin i n = true) (h2 : yOk k (pc + 1) lv st (zupL M a i.toNatClampNeg x) r N) : yOk k pc lv (.long x :: .int i :: .ref a :: st) M r N := by
  refine yOk.step _ he rfl (pc + 1, lv, st, zupL M a i.toNatClampNeg x) ?_ h2
  show yastL pc lv (.long x :: .int i :: .ref a :: st) M = _
  unfold yastL
  dsimp only
  rw [hc]
  show (bif Nat.beq 11 11 && zin i n then _ else none) = _
  rw [hi]
  rfl
end YMO
theorem zin_nI {i n : Nat} (h : i < n) (hn : n < 2 ^ 31) : zin (nI i) n = true := by
  unfold zin
  rw [nI_clamp (by omega), decide_eq_true h, decide_eq_false (nI_pos (by omega))]
  rfl
