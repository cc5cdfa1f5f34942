/-! ===== a rule copied: copyFrom ===== -/
theorem yOk.copy {k pc : Nat} {lv : zL} {st : List Value} {M N : zMm} {r : Option Value} {n dp sp : Int32} {a a0 na n0 : Nat} (idx b d : Nat) (he : zP k pc = some (.invokestatic idx, 3, 901, b, d)) (hc0 : zlay[a0]? = some (10, n0, [])) (hc : zlay[a]? = some (10, na, [])) (h1 : ¬ sp < 0) (h2 : ¬ dp < 0) (h3 : ¬ n < 0) (h4 : sp.toNatClampNeg + n.toNatClampNeg ≤ n0) (h5 : dp.toNatClampNeg + n.toNatClampNeg ≤ na) (h6 : zcat st ≤ 8)
    (kk : yOk k (pc + 3) lv st (zcpm M a0 sp.toNatClampNeg a dp.toNatClampNeg n.toNatClampNeg) r N) : yOk k pc lv (.int n :: .int dp :: .ref a :: .int sp :: .ref a0 :: st) M r N := by
  refine yOk.step _ he rfl (pc + 3, lv, st, zcpm M a0 sp.toNatClampNeg a dp.toNatClampNeg n.toNatClampNeg) ?_ kk
  show ycopy pc lv (.int n :: .int dp :: .ref a :: .int sp :: .ref a0 :: st) M = _
  unfold ycopy
  dsimp only
  rw [hc0, hc]
  dsimp only
  rw [if_pos ⟨rfl, rfl, h1, h2, h3, h4, h5, h6⟩]
theorem m_startAnew_5 (M : zMm) (d q w : Int32) : yOk 20 0 [(0, .ref 5), (1, .int d), (2, .int q), (3, .int w)] [] M none (zup (zup (zup (zup M 5 0 d) 5 1 q) 5 2 w) 5 3 0) := by
  refine yOk.adv 12 (pc' := 20) (lv' := [(0, .ref 5), (1, .int d), (2, .int q), (3, .int w)]) (st' := []) (M' := zup (zup (zup (zup M 5 0 d) 5 1 q) 5 2 w) 5 3 0) rfl ?_
  exact yOk.ret _ rfl rfl rfl
theorem m_startAnew_61 (M : zMm) (d q w : Int32) : yOk 20 0 [(0, .ref 61), (1, .int d), (2, .int q), (3, .int w)] [] M none (zup (zup (zup (zup M 61 0 d) 61 1 q) 61 2 w) 61 3 0) := by
  refine yOk.adv 12 (pc' := 20) (lv' := [(0, .ref 61), (1, .int d), (2, .int q), (3, .int w)]) (st' := []) (M' := zup (zup (zup (zup M 61 0 d) 61 1 q) 61 2 w) 61 3 0) rfl ?_
  exact yOk.ret _ rfl rfl rfl
theorem m_startAnew_65 (M : zMm) (d q w : Int32) : yOk 20 0 [(0, .ref 65), (1, .int d), (2, .int q), (3, .int w)] [] M none (zup (zup (zup (zup M 65 0 d) 65 1 q) 65 2 w) 65 3 0) := by
  refine yOk.adv 12 (pc' := 20) (lv' := [(0, .ref 65), (1, .int d), (2, .int q), (3, .int w)]) (st' := []) (M' := zup (zup (zup (zup M 65 0 d) 65 1 q) 65 2 w) 65 3 0) rfl ?_
  exact yOk.ret _ rfl rfl rfl
theorem m_startAnew_69 (M : zMm) (d q w : Int32) : yOk 20 0 [(0, .ref 69), (1, .int d), (2, .int q), (3, .int w)] [] M none (zup (zup (zup (zup M 69 0 d) 69 1 q) 69 2 w) 69 3 0) := by
  refine yOk.adv 12 (pc' := 20) (lv' := [(0, .ref 69), (1, .int d), (2, .int q), (3, .int w)]) (st' := []) (M' := zup (zup (zup (zup M 69 0 d) 69 1 q) 69 2 w) 69 3 0) rfl ?_
  exact yOk.ret _ rfl rfl rfl
theorem m_startAnew_73 (M : zMm) (d q w : Int32) : yOk 20 0 [(0, .ref 73), (1, .int d), (2, .int q), (3, .int w)] [] M none (zup (zup (zup (zup M 73 0 d) 73 1 q) 73 2 w) 73 3 0) := by
  refine yOk.adv 12 (pc' := 20) (lv' := [(0, .ref 73), (1, .int d), (2, .int q), (3, .int w)]) (st' := []) (M' := zup (zup (zup (zup M 73 0 d) 73 1 q) 73 2 w) 73 3 0) rfl ?_
  exact yOk.ret _ rfl rfl rfl
theorem m_startAnew_77 (M : zMm) (d q w : Int32) : yOk 20 0 [(0, .ref 77), (1, .int d), (2, .int q), (3, .int w)] [] M none (zup (zup (zup (zup M 77 0 d) 77 1 q) 77 2 w) 77 3 0) := by
  refine yOk.adv 12 (pc' := 20) (lv' := [(0, .ref 77), (1, .int d), (2, .int q), (3, .int w)]) (st' := []) (M' := zup (zup (zup (zup M 77 0 d) 77 1 q) 77 2 w) 77 3 0) rfl ?_
  exact yOk.ret _ rfl rfl rfl
theorem m_startAnew_81 (M : zMm) (d q w : Int32) : yOk 20 0 [(0, .ref 81), (1, .int d), (2, .int q), (3, .int w)] [] M none (zup (zup (zup (zup M 81 0 d) 81 1 q) 81 2 w) 81 3 0) := by
  refine yOk.adv 12 (pc' := 20) (lv' := [(0, .ref 81), (1, .int d), (2, .int q), (3, .int w)]) (st' := []) (M' := zup (zup (zup (zup M 81 0 d) 81 1 q) 81 2 w) 81 3 0) rfl ?_
  exact yOk.ret _ rfl rfl rfl
theorem m_copy_5_1 (M : zMm) (n : Nat) (hs : M.1 1 3 = nI n) (hn : n ≤ 24) : yOk 21 0 [(0, .ref 5), (1, .ref 1)] [] M none (zcpm (zcpm (zcpm (zup (zup (zup (zup (zup M 5 0 (M.1 1 0)) 5 1 (M.1 1 1)) 5 2 (M.1 1 2)) 5 3 0) 5 3 (nI n)) 2 0 6 0 n) 3 0 7 0 n) 4 0 8 0 n) := by
  have z : ¬ (0 : Int32) < 0 := by decide
  have zn : ¬ nI n < 0 := nI_pos (by omega)
  have ck : (nI n).toNatClampNeg = n := nI_clamp (by omega)
  have z0 : (0 : Int32).toNatClampNeg = 0 := rfl
  have hle : (0 : Int32).toNatClampNeg + (nI n).toNatClampNeg ≤ 24 := by rw [ck, z0]; omega
  refine yOk.adv 7 (pc' := 13) (lv' := [(0, .ref 5), (1, .ref 1)]) (st' := [.int (M.1 1 2), .int (M.1 1 1), .int (M.1 1 0), .ref 5]) (M' := M) rfl ?_
  refine yOk.call (M1 := zup (zup (zup (zup M 5 0 (M.1 1 0)) 5 1 (M.1 1 1)) 5 2 (M.1 1 2)) 5 3 0) _ rfl rfl rfl rfl rfl (m_startAnew_5 M (M.1 1 0) (M.1 1 1) (M.1 1 2)) ?_
  show yOk 21 16 [(0, .ref 5), (1, .ref 1)] [] (zup (zup (zup (zup M 5 0 (M.1 1 0)) 5 1 (M.1 1 1)) 5 2 (M.1 1 2)) 5 3 0) _ _
  refine yOk.adv 3 (pc' := 21) (lv' := [(0, .ref 5), (1, .ref 1)]) (st' := [.int ((zup (zup (zup (zup M 5 0 (M.1 1 0)) 5 1 (M.1 1 1)) 5 2 (M.1 1 2)) 5 3 0).1 1 3), .ref 5]) (M' := zup (zup (zup (zup M 5 0 (M.1 1 0)) 5 1 (M.1 1 1)) 5 2 (M.1 1 2)) 5 3 0) rfl ?_
  have e0 : (zup (zup (zup (zup M 5 0 (M.1 1 0)) 5 1 (M.1 1 1)) 5 2 (M.1 1 2)) 5 3 0).1 1 3 = nI n := by rw [← hs]; unfold zup; simp
  rw [e0]
  refine yOk.adv 8 (pc' := 35) (lv' := [(0, .ref 5), (1, .ref 1)]) (st' := [.ref 5, .int 0, .ref 6, .int 0, .ref 2]) (M' := zup (zup (zup (zup (zup M 5 0 (M.1 1 0)) 5 1 (M.1 1 1)) 5 2 (M.1 1 2)) 5 3 0) 5 3 (nI n)) rfl ?_
  have e1 : (zup (zup (zup (zup (zup M 5 0 (M.1 1 0)) 5 1 (M.1 1 1)) 5 2 (M.1 1 2)) 5 3 0) 5 3 (nI n)).1 5 3 = nI n := by unfold zup; simp
  refine yOk.adv 1 (pc' := 38) (lv' := [(0, .ref 5), (1, .ref 1)]) (st' := [.int ((zup (zup (zup (zup (zup M 5 0 (M.1 1 0)) 5 1 (M.1 1 1)) 5 2 (M.1 1 2)) 5 3 0) 5 3 (nI n)).1 5 3), .int 0, .ref 6, .int 0, .ref 2]) (M' := zup (zup (zup (zup (zup M 5 0 (M.1 1 0)) 5 1 (M.1 1 1)) 5 2 (M.1 1 2)) 5 3 0) 5 3 (nI n)) rfl ?_
  rw [e1]
  refine yOk.copy _ _ _ rfl rfl rfl z z zn hle hle (by decide) ?_
  rw [ck, z0]
  refine yOk.adv 8 (pc' := 55) (lv' := [(0, .ref 5), (1, .ref 1)]) (st' := [.int ((zcpm (zup (zup (zup (zup (zup M 5 0 (M.1 1 0)) 5 1 (M.1 1 1)) 5 2 (M.1 1 2)) 5 3 0) 5 3 (nI n)) 2 0 6 0 n).1 5 3), .int 0, .ref 7, .int 0, .ref 3]) (M' := zcpm (zup (zup (zup (zup (zup M 5 0 (M.1 1 0)) 5 1 (M.1 1 1)) 5 2 (M.1 1 2)) 5 3 0) 5 3 (nI n)) 2 0 6 0 n) rfl ?_
  have e2 : (zcpm (zup (zup (zup (zup (zup M 5 0 (M.1 1 0)) 5 1 (M.1 1 1)) 5 2 (M.1 1 2)) 5 3 0) 5 3 (nI n)) 2 0 6 0 n).1 5 3 = nI n := by unfold zcpm zup; simp
  rw [e2]
  refine yOk.copy _ _ _ rfl rfl rfl z z zn hle hle (by decide) ?_
  rw [ck, z0]
  refine yOk.adv 8 (pc' := 72) (lv' := [(0, .ref 5), (1, .ref 1)]) (st' := [.int ((zcpm (zcpm (zup (zup (zup (zup (zup M 5 0 (M.1 1 0)) 5 1 (M.1 1 1)) 5 2 (M.1 1 2)) 5 3 0) 5 3 (nI n)) 2 0 6 0 n) 3 0 7 0 n).1 5 3), .int 0, .ref 8, .int 0, .ref 4]) (M' := zcpm (zcpm (zup (zup (zup (zup (zup M 5 0 (M.1 1 0)) 5 1 (M.1 1 1)) 5 2 (M.1 1 2)) 5 3 0) 5 3 (nI n)) 2 0 6 0 n) 3 0 7 0 n) rfl ?_
  have e3 : (zcpm (zcpm (zup (zup (zup (zup (zup M 5 0 (M.1 1 0)) 5 1 (M.1 1 1)) 5 2 (M.1 1 2)) 5 3 0) 5 3 (nI n)) 2 0 6 0 n) 3 0 7 0 n).1 5 3 = nI n := by unfold zcpm zup; simp
  rw [e3]
  refine yOk.copy _ _ _ rfl rfl rfl z z zn hle hle (by decide) ?_
  rw [ck, z0]
  exact yOk.ret _ rfl rfl rfl
theorem m_copy_1_5 (M : zMm) (n : Nat) (hs : M.1 5 3 = nI n) (hn : n ≤ 24) : yOk 21 0 [(0, .ref 1), (1, .ref 5)] [] M none (zcpm (zcpm (zcpm (zup (zup (zup (zup (zup M 1 0 (M.1 5 0)) 1 1 (M.1 5 1)) 1 2 (M.1 5 2)) 1 3 0) 1 3 (nI n)) 6 0 2 0 n) 7 0 3 0 n) 8 0 4 0 n) := by
  have z : ¬ (0 : Int32) < 0 := by decide
  have zn : ¬ nI n < 0 := nI_pos (by omega)
  have ck : (nI n).toNatClampNeg = n := nI_clamp (by omega)
  have z0 : (0 : Int32).toNatClampNeg = 0 := rfl
  have hle : (0 : Int32).toNatClampNeg + (nI n).toNatClampNeg ≤ 24 := by rw [ck, z0]; omega
  refine yOk.adv 7 (pc' := 13) (lv' := [(0, .ref 1), (1, .ref 5)]) (st' := [.int (M.1 5 2), .int (M.1 5 1), .int (M.1 5 0), .ref 1]) (M' := M) rfl ?_
  refine yOk.call (M1 := zup (zup (zup (zup M 1 0 (M.1 5 0)) 1 1 (M.1 5 1)) 1 2 (M.1 5 2)) 1 3 0) _ rfl rfl rfl rfl rfl (m_startAnew_1 M (M.1 5 0) (M.1 5 1) (M.1 5 2)) ?_
  show yOk 21 16 [(0, .ref 1), (1, .ref 5)] [] (zup (zup (zup (zup M 1 0 (M.1 5 0)) 1 1 (M.1 5 1)) 1 2 (M.1 5 2)) 1 3 0) _ _
  refine yOk.adv 3 (pc' := 21) (lv' := [(0, .ref 1), (1, .ref 5)]) (st' := [.int ((zup (zup (zup (zup M 1 0 (M.1 5 0)) 1 1 (M.1 5 1)) 1 2 (M.1 5 2)) 1 3 0).1 5 3), .ref 1]) (M' := zup (zup (zup (zup M 1 0 (M.1 5 0)) 1 1 (M.1 5 1)) 1 2 (M.1 5 2)) 1 3 0) rfl ?_
  have e0 : (zup (zup (zup (zup M 1 0 (M.1 5 0)) 1 1 (M.1 5 1)) 1 2 (M.1 5 2)) 1 3 0).1 5 3 = nI n := by rw [← hs]; unfold zup; simp
  rw [e0]
  refine yOk.adv 8 (pc' := 35) (lv' := [(0, .ref 1), (1, .ref 5)]) (st' := [.ref 1, .int 0, .ref 2, .int 0, .ref 6]) (M' := zup (zup (zup (zup (zup M 1 0 (M.1 5 0)) 1 1 (M.1 5 1)) 1 2 (M.1 5 2)) 1 3 0) 1 3 (nI n)) rfl ?_
  have e1 : (zup (zup (zup (zup (zup M 1 0 (M.1 5 0)) 1 1 (M.1 5 1)) 1 2 (M.1 5 2)) 1 3 0) 1 3 (nI n)).1 1 3 = nI n := by unfold zup; simp
  refine yOk.adv 1 (pc' := 38) (lv' := [(0, .ref 1), (1, .ref 5)]) (st' := [.int ((zup (zup (zup (zup (zup M 1 0 (M.1 5 0)) 1 1 (M.1 5 1)) 1 2 (M.1 5 2)) 1 3 0) 1 3 (nI n)).1 1 3), .int 0, .ref 2, .int 0, .ref 6]) (M' := zup (zup (zup (zup (zup M 1 0 (M.1 5 0)) 1 1 (M.1 5 1)) 1 2 (M.1 5 2)) 1 3 0) 1 3 (nI n)) rfl ?_
  rw [e1]
  refine yOk.copy _ _ _ rfl rfl rfl z z zn hle hle (by decide) ?_
  rw [ck, z0]
  refine yOk.adv 8 (pc' := 55) (lv' := [(0, .ref 1), (1, .ref 5)]) (st' := [.int ((zcpm (zup (zup (zup (zup (zup M 1 0 (M.1 5 0)) 1 1 (M.1 5 1)) 1 2 (M.1 5 2)) 1 3 0) 1 3 (nI n)) 6 0 2 0 n).1 1 3), .int 0, .ref 3, .int 0, .ref 7]) (M' := zcpm (zup (zup (zup (zup (zup M 1 0 (M.1 5 0)) 1 1 (M.1 5 1)) 1 2 (M.1 5 2)) 1 3 0) 1 3 (nI n)) 6 0 2 0 n) rfl ?_
  have e2 : (zcpm (zup (zup (zup (zup (zup M 1 0 (M.1 5 0)) 1 1 (M.1 5 1)) 1 2 (M.1 5 2)) 1 3 0) 1 3 (nI n)) 6 0 2 0 n).1 1 3 = nI n := by unfold zcpm zup; simp
  rw [e2]
  refine yOk.copy _ _ _ rfl rfl rfl z z zn hle hle (by decide) ?_
  rw [ck, z0]
  refine yOk.adv 8 (pc' := 72) (lv' := [(0, .ref 1), (1, .ref 5)]) (st' := [.int ((zcpm (zcpm (zup (zup (zup (zup (zup M 1 0 (M.1 5 0)) 1 1 (M.1 5 1)) 1 2 (M.1 5 2)) 1 3 0) 1 3 (nI n)) 6 0 2 0 n) 7 0 3 0 n).1 1 3), .int 0, .ref 4, .int 0, .ref 8]) (M' := zcpm (zcpm (zup (zup (zup (zup (zup M 1 0 (M.1 5 0)) 1 1 (M.1 5 1)) 1 2 (M.1 5 2)) 1 3 0) 1 3 (nI n)) 6 0 2 0 n) 7 0 3 0 n) rfl ?_
  have e3 : (zcpm (zcpm (zup (zup (zup (zup (zup M 1 0 (M.1 5 0)) 1 1 (M.1 5 1)) 1 2 (M.1 5 2)) 1 3 0) 1 3 (nI n)) 6 0 2 0 n) 7 0 3 0 n).1 1 3 = nI n := by unfold zcpm zup; simp
  rw [e3]
  refine yOk.copy _ _ _ rfl rfl rfl z z zn hle hle (by decide) ?_
  rw [ck, z0]
  exact yOk.ret _ rfl rfl rfl
theorem m_copy_61_1 (M : zMm) (n : Nat) (hs : M.1 1 3 = nI n) (hn : n ≤ 24) : yOk 21 0 [(0, .ref 61), (1, .ref 1)] [] M none (zcpm (zcpm (zcpm (zup (zup (zup (zup (zup M 61 0 (M.1 1 0)) 61 1 (M.1 1 1)) 61 2 (M.1 1 2)) 61 3 0) 61 3 (nI n)) 2 0 62 0 n) 3 0 63 0 n) 4 0 64 0 n) := by
  have z : ¬ (0 : Int32) < 0 := by decide
  have zn : ¬ nI n < 0 := nI_pos (by omega)
  have ck : (nI n).toNatClampNeg = n := nI_clamp (by omega)
  have z0 : (0 : Int32).toNatClampNeg = 0 := rfl
  have hle : (0 : Int32).toNatClampNeg + (nI n).toNatClampNeg ≤ 24 := by rw [ck, z0]; omega
  refine yOk.adv 7 (pc' := 13) (lv' := [(0, .ref 61), (1, .ref 1)]) (st' := [.int (M.1 1 2), .int (M.1 1 1), .int (M.1 1 0), .ref 61]) (M' := M) rfl ?_
  refine yOk.call (M1 := zup (zup (zup (zup M 61 0 (M.1 1 0)) 61 1 (M.1 1 1)) 61 2 (M.1 1 2)) 61 3 0) _ rfl rfl rfl rfl rfl (m_startAnew_61 M (M.1 1 0) (M.1 1 1) (M.1 1 2)) ?_
  show yOk 21 16 [(0, .ref 61), (1, .ref 1)] [] (zup (zup (zup (zup M 61 0 (M.1 1 0)) 61 1 (M.1 1 1)) 61 2 (M.1 1 2)) 61 3 0) _ _
  refine yOk.adv 3 (pc' := 21) (lv' := [(0, .ref 61), (1, .ref 1)]) (st' := [.int ((zup (zup (zup (zup M 61 0 (M.1 1 0)) 61 1 (M.1 1 1)) 61 2 (M.1 1 2)) 61 3 0).1 1 3), .ref 61]) (M' := zup (zup (zup (zup M 61 0 (M.1 1 0)) 61 1 (M.1 1 1)) 61 2 (M.1 1 2)) 61 3 0) rfl ?_
  have e0 : (zup (zup (zup (zup M 61 0 (M.1 1 0)) 61 1 (M.1 1 1)) 61 2 (M.1 1 2)) 61 3 0).1 1 3 = nI n := by rw [← hs]; unfold zup; simp
  rw [e0]
  refine yOk.adv 8 (pc' := 35) (lv' := [(0, .ref 61), (1, .ref 1)]) (st' := [.ref 61, .int 0, .ref 62, .int 0, .ref 2]) (M' := zup (zup (zup (zup (zup M 61 0 (M.1 1 0)) 61 1 (M.1 1 1)) 61 2 (M.1 1 2)) 61 3 0) 61 3 (nI n)) rfl ?_
  have e1 : (zup (zup (zup (zup (zup M 61 0 (M.1 1 0)) 61 1 (M.1 1 1)) 61 2 (M.1 1 2)) 61 3 0) 61 3 (nI n)).1 61 3 = nI n := by unfold zup; simp
  refine yOk.adv 1 (pc' := 38) (lv' := [(0, .ref 61), (1, .ref 1)]) (st' := [.int ((zup (zup (zup (zup (zup M 61 0 (M.1 1 0)) 61 1 (M.1 1 1)) 61 2 (M.1 1 2)) 61 3 0) 61 3 (nI n)).1 61 3), .int 0, .ref 62, .int 0, .ref 2]) (M' := zup (zup (zup (zup (zup M 61 0 (M.1 1 0)) 61 1 (M.1 1 1)) 61 2 (M.1 1 2)) 61 3 0) 61 3 (nI n)) rfl ?_
  rw [e1]
  refine yOk.copy _ _ _ rfl rfl rfl z z zn hle hle (by decide) ?_
  rw [ck, z0]
  refine yOk.adv 8 (pc' := 55) (lv' := [(0, .ref 61), (1, .ref 1)]) (st' := [.int ((zcpm (zup (zup (zup (zup (zup M 61 0 (M.1 1 0)) 61 1 (M.1 1 1)) 61 2 (M.1 1 2)) 61 3 0) 61 3 (nI n)) 2 0 62 0 n).1 61 3), .int 0, .ref 63, .int 0, .ref 3]) (M' := zcpm (zup (zup (zup (zup (zup M 61 0 (M.1 1 0)) 61 1 (M.1 1 1)) 61 2 (M.1 1 2)) 61 3 0) 61 3 (nI n)) 2 0 62 0 n) rfl ?_
  have e2 : (zcpm (zup (zup (zup (zup (zup M 61 0 (M.1 1 0)) 61 1 (M.1 1 1)) 61 2 (M.1 1 2)) 61 3 0) 61 3 (nI n)) 2 0 62 0 n).1 61 3 = nI n := by unfold zcpm zup; simp
  rw [e2]
  refine yOk.copy _ _ _ rfl rfl rfl z z zn hle hle (by decide) ?_
  rw [ck, z0]
  refine yOk.adv 8 (pc' := 72) (lv' := [(0, .ref 61), (1, .ref 1)]) (st' := [.int ((zcpm (zcpm (zup (zup (zup (zup (zup M 61 0 (M.1 1 0)) 61 1 (M.1 1 1)) 61 2 (M.1 1 2)) 61 3 0) 61 3 (nI n)) 2 0 62 0 n) 3 0 63 0 n).1 61 3), .int 0, .ref 64, .int 0, .ref 4]) (M' := zcpm (zcpm (zup (zup (zup (zup (zup M 61 0 (M.1 1 0)) 61 1 (M.1 1 1)) 61 2 (M.1 1 2)) 61 3 0) 61 3 (nI n)) 2 0 62 0 n) 3 0 63 0 n) rfl ?_
  have e3 : (zcpm (zcpm (zup (zup (zup (zup (zup M 61 0 (M.1 1 0)) 61 1 (M.1 1 1)) 61 2 (M.1 1 2)) 61 3 0) 61 3 (nI n)) 2 0 62 0 n) 3 0 63 0 n).1 61 3 = nI n := by unfold zcpm zup; simp
  rw [e3]
  refine yOk.copy _ _ _ rfl rfl rfl z z zn hle hle (by decide) ?_
  rw [ck, z0]
  exact yOk.ret _ rfl rfl rfl
theorem m_copy_65_1 (M : zMm) (n : Nat) (hs : M.1 1 3 = nI n) (hn : n ≤ 24) : yOk 21 0 [(0, .ref 65), (1, .ref 1)] [] M none (zcpm (zcpm (zcpm (zup (zup (zup (zup (zup M 65 0 (M.1 1 0)) 65 1 (M.1 1 1)) 65 2 (M.1 1 2)) 65 3 0) 65 3 (nI n)) 2 0 66 0 n) 3 0 67 0 n) 4 0 68 0 n) := by
  have z : ¬ (0 : Int32) < 0 := by decide
  have zn : ¬ nI n < 0 := nI_pos (by omega)
  have ck : (nI n).toNatClampNeg = n := nI_clamp (by omega)
  have z0 : (0 : Int32).toNatClampNeg = 0 := rfl
  have hle : (0 : Int32).toNatClampNeg + (nI n).toNatClampNeg ≤ 24 := by rw [ck, z0]; omega
  refine yOk.adv 7 (pc' := 13) (lv' := [(0, .ref 65), (1, .ref 1)]) (st' := [.int (M.1 1 2), .int (M.1 1 1), .int (M.1 1 0), .ref 65]) (M' := M) rfl ?_
  refine yOk.call (M1 := zup (zup (zup (zup M 65 0 (M.1 1 0)) 65 1 (M.1 1 1)) 65 2 (M.1 1 2)) 65 3 0) _ rfl rfl rfl rfl rfl (m_startAnew_65 M (M.1 1 0) (M.1 1 1) (M.1 1 2)) ?_
  show yOk 21 16 [(0, .ref 65), (1, .ref 1)] [] (zup (zup (zup (zup M 65 0 (M.1 1 0)) 65 1 (M.1 1 1)) 65 2 (M.1 1 2)) 65 3 0) _ _
  refine yOk.adv 3 (pc' := 21) (lv' := [(0, .ref 65), (1, .ref 1)]) (st' := [.int ((zup (zup (zup (zup M 65 0 (M.1 1 0)) 65 1 (M.1 1 1)) 65 2 (M.1 1 2)) 65 3 0).1 1 3), .ref 65]) (M' := zup (zup (zup (zup M 65 0 (M.1 1 0)) 65 1 (M.1 1 1)) 65 2 (M.1 1 2)) 65 3 0) rfl ?_
  have e0 : (zup (zup (zup (zup M 65 0 (M.1 1 0)) 65 1 (M.1 1 1)) 65 2 (M.1 1 2)) 65 3 0).1 1 3 = nI n := by rw [← hs]; unfold zup; simp
  rw [e0]
  refine yOk.adv 8 (pc' := 35) (lv' := [(0, .ref 65), (1, .ref 1)]) (st' := [.ref 65, .int 0, .ref 66, .int 0, .ref 2]) (M' := zup (zup (zup (zup (zup M 65 0 (M.1 1 0)) 65 1 (M.1 1 1)) 65 2 (M.1 1 2)) 65 3 0) 65 3 (nI n)) rfl ?_
  have e1 : (zup (zup (zup (zup (zup M 65 0 (M.1 1 0)) 65 1 (M.1 1 1)) 65 2 (M.1 1 2)) 65 3 0) 65 3 (nI n)).1 65 3 = nI n := by unfold zup; simp
  refine yOk.adv 1 (pc' := 38) (lv' := [(0, .ref 65), (1, .ref 1)]) (st' := [.int ((zup (zup (zup (zup (zup M 65 0 (M.1 1 0)) 65 1 (M.1 1 1)) 65 2 (M.1 1 2)) 65 3 0) 65 3 (nI n)).1 65 3), .int 0, .ref 66, .int 0, .ref 2]) (M' := zup (zup (zup (zup (zup M 65 0 (M.1 1 0)) 65 1 (M.1 1 1)) 65 2 (M.1 1 2)) 65 3 0) 65 3 (nI n)) rfl ?_
  rw [e1]
  refine yOk.copy _ _ _ rfl rfl rfl z z zn hle hle (by decide) ?_
  rw [ck, z0]
  refine yOk.adv 8 (pc' := 55) (lv' := [(0, .ref 65), (1, .ref 1)]) (st' := [.int ((zcpm (zup (zup (zup (zup (zup M 65 0 (M.1 1 0)) 65 1 (M.1 1 1)) 65 2 (M.1 1 2)) 65 3 0) 65 3 (nI n)) 2 0 66 0 n).1 65 3), .int 0, .ref 67, .int 0, .ref 3]) (M' := zcpm (zup (zup (zup (zup (zup M 65 0 (M.1 1 0)) 65 1 (M.1 1 1)) 65 2 (M.1 1 2)) 65 3 0) 65 3 (nI n)) 2 0 66 0 n) rfl ?_
  have e2 : (zcpm (zup (zup (zup (zup (zup M 65 0 (M.1 1 0)) 65 1 (M.1 1 1)) 65 2 (M.1 1 2)) 65 3 0) 65 3 (nI n)) 2 0 66 0 n).1 65 3 = nI n := by unfold zcpm zup; simp
  rw [e2]
  refine yOk.copy _ _ _ rfl rfl rfl z z zn hle hle (by decide) ?_
  rw [ck, z0]
  refine yOk.adv 8 (pc' := 72) (lv' := [(0, .ref 65), (1, .ref 1)]) (st' := [.int ((zcpm (zcpm (zup (zup (zup (zup (zup M 65 0 (M.1 1 0)) 65 1 (M.1 1 1)) 65 2 (M.1 1 2)) 65 3 0) 65 3 (nI n)) 2 0 66 0 n) 3 0 67 0 n).1 65 3), .int 0, .ref 68, .int 0, .ref 4]) (M' := zcpm (zcpm (zup (zup (zup (zup (zup M 65 0 (M.1 1 0)) 65 1 (M.1 1 1)) 65 2 (M.1 1 2)) 65 3 0) 65 3 (nI n)) 2 0 66 0 n) 3 0 67 0 n) rfl ?_
  have e3 : (zcpm (zcpm (zup (zup (zup (zup (zup M 65 0 (M.1 1 0)) 65 1 (M.1 1 1)) 65 2 (M.1 1 2)) 65 3 0) 65 3 (nI n)) 2 0 66 0 n) 3 0 67 0 n).1 65 3 = nI n := by unfold zcpm zup; simp
  rw [e3]
  refine yOk.copy _ _ _ rfl rfl rfl z z zn hle hle (by decide) ?_
  rw [ck, z0]
  exact yOk.ret _ rfl rfl rfl
theorem m_copy_69_1 (M : zMm) (n : Nat) (hs : M.1 1 3 = nI n) (hn : n ≤ 24) : yOk 21 0 [(0, .ref 69), (1, .ref 1)] [] M none (zcpm (zcpm (zcpm (zup (zup (zup (zup (zup M 69 0 (M.1 1 0)) 69 1 (M.1 1 1)) 69 2 (M.1 1 2)) 69 3 0) 69 3 (nI n)) 2 0 70 0 n) 3 0 71 0 n) 4 0 72 0 n) := by
  have z : ¬ (0 : Int32) < 0 := by decide
  have zn : ¬ nI n < 0 := nI_pos (by omega)
  have ck : (nI n).toNatClampNeg = n := nI_clamp (by omega)
  have z0 : (0 : Int32).toNatClampNeg = 0 := rfl
  have hle : (0 : Int32).toNatClampNeg + (nI n).toNatClampNeg ≤ 24 := by rw [ck, z0]; omega
  refine yOk.adv 7 (pc' := 13) (lv' := [(0, .ref 69), (1, .ref 1)]) (st' := [.int (M.1 1 2), .int (M.1 1 1), .int (M.1 1 0), .ref 69]) (M' := M) rfl ?_
  refine yOk.call (M1 := zup (zup (zup (zup M 69 0 (M.1 1 0)) 69 1 (M.1 1 1)) 69 2 (M.1 1 2)) 69 3 0) _ rfl rfl rfl rfl rfl (m_startAnew_69 M (M.1 1 0) (M.1 1 1) (M.1 1 2)) ?_
  show yOk 21 16 [(0, .ref 69), (1, .ref 1)] [] (zup (zup (zup (zup M 69 0 (M.1 1 0)) 69 1 (M.1 1 1)) 69 2 (M.1 1 2)) 69 3 0) _ _
  refine yOk.adv 3 (pc' := 21) (lv' := [(0, .ref 69), (1, .ref 1)]) (st' := [.int ((zup (zup (zup (zup M 69 0 (M.1 1 0)) 69 1 (M.1 1 1)) 69 2 (M.1 1 2)) 69 3 0).1 1 3), .ref 69]) (M' := zup (zup (zup (zup M 69 0 (M.1 1 0)) 69 1 (M.1 1 1)) 69 2 (M.1 1 2)) 69 3 0) rfl ?_
  have e0 : (zup (zup (zup (zup M 69 0 (M.1 1 0)) 69 1 (M.1 1 1)) 69 2 (M.1 1 2)) 69 3 0).1 1 3 = nI n := by rw [← hs]; unfold zup; simp
  rw [e0]
  refine yOk.adv 8 (pc' := 35) (lv' := [(0, .ref 69), (1, .ref 1)]) (st' := [.ref 69, .int 0, .ref 70, .int 0, .ref 2]) (M' := zup (zup (zup (zup (zup M 69 0 (M.1 1 0)) 69 1 (M.1 1 1)) 69 2 (M.1 1 2)) 69 3 0) 69 3 (nI n)) rfl ?_
  have e1 : (zup (zup (zup (zup (zup M 69 0 (M.1 1 0)) 69 1 (M.1 1 1)) 69 2 (M.1 1 2)) 69 3 0) 69 3 (nI n)).1 69 3 = nI n := by unfold zup; simp
  refine yOk.adv 1 (pc' := 38) (lv' := [(0, .ref 69), (1, .ref 1)]) (st' := [.int ((zup (zup (zup (zup (zup M 69 0 (M.1 1 0)) 69 1 (M.1 1 1)) 69 2 (M.1 1 2)) 69 3 0) 69 3 (nI n)).1 69 3), .int 0, .ref 70, .int 0, .ref 2]) (M' := zup (zup (zup (zup (zup M 69 0 (M.1 1 0)) 69 1 (M.1 1 1)) 69 2 (M.1 1 2)) 69 3 0) 69 3 (nI n)) rfl ?_
  rw [e1]
  refine yOk.copy _ _ _ rfl rfl rfl z z zn hle hle (by decide) ?_
  rw [ck, z0]
  refine yOk.adv 8 (pc' := 55) (lv' := [(0, .ref 69), (1, .ref 1)]) (st' := [.int ((zcpm (zup (zup (zup (zup (zup M 69 0 (M.1 1 0)) 69 1 (M.1 1 1)) 69 2 (M.1 1 2)) 69 3 0) 69 3 (nI n)) 2 0 70 0 n).1 69 3), .int 0, .ref 71, .int 0, .ref 3]) (M' := zcpm (zup (zup (zup (zup (zup M 69 0 (M.1 1 0)) 69 1 (M.1 1 1)) 69 2 (M.1 1 2)) 69 3 0) 69 3 (nI n)) 2 0 70 0 n) rfl ?_
  have e2 : (zcpm (zup (zup (zup (zup (zup M 69 0 (M.1 1 0)) 69 1 (M.1 1 1)) 69 2 (M.1 1 2)) 69 3 0) 69 3 (nI n)) 2 0 70 0 n).1 69 3 = nI n := by unfold zcpm zup; simp
  rw [e2]
  refine yOk.copy _ _ _ rfl rfl rfl z z zn hle hle (by decide) ?_
  rw [ck, z0]
  refine yOk.adv 8 (pc' := 72) (lv' := [(0, .ref 69), (1, .ref 1)]) (st' := [.int ((zcpm (zcpm (zup (zup (zup (zup (zup M 69 0 (M.1 1 0)) 69 1 (M.1 1 1)) 69 2 (M.1 1 2)) 69 3 0) 69 3 (nI n)) 2 0 70 0 n) 3 0 71 0 n).1 69 3), .int 0, .ref 72, .int 0, .ref 4]) (M' := zcpm (zcpm (zup (zup (zup (zup (zup M 69 0 (M.1 1 0)) 69 1 (M.1 1 1)) 69 2 (M.1 1 2)) 69 3 0) 69 3 (nI n)) 2 0 70 0 n) 3 0 71 0 n) rfl ?_
  have e3 : (zcpm (zcpm (zup (zup (zup (zup (zup M 69 0 (M.1 1 0)) 69 1 (M.1 1 1)) 69 2 (M.1 1 2)) 69 3 0) 69 3 (nI n)) 2 0 70 0 n) 3 0 71 0 n).1 69 3 = nI n := by unfold zcpm zup; simp
  rw [e3]
  refine yOk.copy _ _ _ rfl rfl rfl z z zn hle hle (by decide) ?_
  rw [ck, z0]
  exact yOk.ret _ rfl rfl rfl
theorem m_copy_73_1 (M : zMm) (n : Nat) (hs : M.1 1 3 = nI n) (hn : n ≤ 24) : yOk 21 0 [(0, .ref 73), (1, .ref 1)] [] M none (zcpm (zcpm (zcpm (zup (zup (zup (zup (zup M 73 0 (M.1 1 0)) 73 1 (M.1 1 1)) 73 2 (M.1 1 2)) 73 3 0) 73 3 (nI n)) 2 0 74 0 n) 3 0 75 0 n) 4 0 76 0 n) := by
  have z : ¬ (0 : Int32) < 0 := by decide
  have zn : ¬ nI n < 0 := nI_pos (by omega)
  have ck : (nI n).toNatClampNeg = n := nI_clamp (by omega)
  have z0 : (0 : Int32).toNatClampNeg = 0 := rfl
  have hle : (0 : Int32).toNatClampNeg + (nI n).toNatClampNeg ≤ 24 := by rw [ck, z0]; omega
  refine yOk.adv 7 (pc' := 13) (lv' := [(0, .ref 73), (1, .ref 1)]) (st' := [.int (M.1 1 2), .int (M.1 1 1), .int (M.1 1 0), .ref 73]) (M' := M) rfl ?_
  refine yOk.call (M1 := zup (zup (zup (zup M 73 0 (M.1 1 0)) 73 1 (M.1 1 1)) 73 2 (M.1 1 2)) 73 3 0) _ rfl rfl rfl rfl rfl (m_startAnew_73 M (M.1 1 0) (M.1 1 1) (M.1 1 2)) ?_
  show yOk 21 16 [(0, .ref 73), (1, .ref 1)] [] (zup (zup (zup (zup M 73 0 (M.1 1 0)) 73 1 (M.1 1 1)) 73 2 (M.1 1 2)) 73 3 0) _ _
  refine yOk.adv 3 (pc' := 21) (lv' := [(0, .ref 73), (1, .ref 1)]) (st' := [.int ((zup (zup (zup (zup M 73 0 (M.1 1 0)) 73 1 (M.1 1 1)) 73 2 (M.1 1 2)) 73 3 0).1 1 3), .ref 73]) (M' := zup (zup (zup (zup M 73 0 (M.1 1 0)) 73 1 (M.1 1 1)) 73 2 (M.1 1 2)) 73 3 0) rfl ?_
  have e0 : (zup (zup (zup (zup M 73 0 (M.1 1 0)) 73 1 (M.1 1 1)) 73 2 (M.1 1 2)) 73 3 0).1 1 3 = nI n := by rw [← hs]; unfold zup; simp
  rw [e0]
  refine yOk.adv 8 (pc' := 35) (lv' := [(0, .ref 73), (1, .ref 1)]) (st' := [.ref 73, .int 0, .ref 74, .int 0, .ref 2]) (M' := zup (zup (zup (zup (zup M 73 0 (M.1 1 0)) 73 1 (M.1 1 1)) 73 2 (M.1 1 2)) 73 3 0) 73 3 (nI n)) rfl ?_
  have e1 : (zup (zup (zup (zup (zup M 73 0 (M.1 1 0)) 73 1 (M.1 1 1)) 73 2 (M.1 1 2)) 73 3 0) 73 3 (nI n)).1 73 3 = nI n := by unfold zup; simp
  refine yOk.adv 1 (pc' := 38) (lv' := [(0, .ref 73), (1, .ref 1)]) (st' := [.int ((zup (zup (zup (zup (zup M 73 0 (M.1 1 0)) 73 1 (M.1 1 1)) 73 2 (M.1 1 2)) 73 3 0) 73 3 (nI n)).1 73 3), .int 0, .ref 74, .int 0, .ref 2]) (M' := zup (zup (zup (zup (zup M 73 0 (M.1 1 0)) 73 1 (M.1 1 1)) 73 2 (M.1 1 2)) 73 3 0) 73 3 (nI n)) rfl ?_
  rw [e1]
  refine yOk.copy _ _ _ rfl rfl rfl z z zn hle hle (by decide) ?_
  rw [ck, z0]
  refine yOk.adv 8 (pc' := 55) (lv' := [(0, .ref 73), (1, .ref 1)]) (st' := [.int ((zcpm (zup (zup (zup (zup (zup M 73 0 (M.1 1 0)) 73 1 (M.1 1 1)) 73 2 (M.1 1 2)) 73 3 0) 73 3 (nI n)) 2 0 74 0 n).1 73 3), .int 0, .ref 75, .int 0, .ref 3]) (M' := zcpm (zup (zup (zup (zup (zup M 73 0 (M.1 1 0)) 73 1 (M.1 1 1)) 73 2 (M.1 1 2)) 73 3 0) 73 3 (nI n)) 2 0 74 0 n) rfl ?_
  have e2 : (zcpm (zup (zup (zup (zup (zup M 73 0 (M.1 1 0)) 73 1 (M.1 1 1)) 73 2 (M.1 1 2)) 73 3 0) 73 3 (nI n)) 2 0 74 0 n).1 73 3 = nI n := by unfold zcpm zup; simp
  rw [e2]
  refine yOk.copy _ _ _ rfl rfl rfl z z zn hle hle (by decide) ?_
  rw [ck, z0]
  refine yOk.adv 8 (pc' := 72) (lv' := [(0, .ref 73), (1, .ref 1)]) (st' := [.int ((zcpm (zcpm (zup (zup (zup (zup (zup M 73 0 (M.1 1 0)) 73 1 (M.1 1 1)) 73 2 (M.1 1 2)) 73 3 0) 73 3 (nI n)) 2 0 74 0 n) 3 0 75 0 n).1 73 3), .int 0, .ref 76, .int 0, .ref 4]) (M' := zcpm (zcpm (zup (zup (zup (zup (zup M 73 0 (M.1 1 0)) 73 1 (M.1 1 1)) 73 2 (M.1 1 2)) 73 3 0) 73 3 (nI n)) 2 0 74 0 n) 3 0 75 0 n) rfl ?_
  have e3 : (zcpm (zcpm (zup (zup (zup (zup (zup M 73 0 (M.1 1 0)) 73 1 (M.1 1 1)) 73 2 (M.1 1 2)) 73 3 0) 73 3 (nI n)) 2 0 74 0 n) 3 0 75 0 n).1 73 3 = nI n := by unfold zcpm zup; simp
  rw [e3]
  refine yOk.copy _ _ _ rfl rfl rfl z z zn hle hle (by decide) ?_
  rw [ck, z0]
  exact yOk.ret _ rfl rfl rfl
theorem m_copy_77_1 (M : zMm) (n : Nat) (hs : M.1 1 3 = nI n) (hn : n ≤ 24) : yOk 21 0 [(0, .ref 77), (1, .ref 1)] [] M none (zcpm (zcpm (zcpm (zup (zup (zup (zup (zup M 77 0 (M.1 1 0)) 77 1 (M.1 1 1)) 77 2 (M.1 1 2)) 77 3 0) 77 3 (nI n)) 2 0 78 0 n) 3 0 79 0 n) 4 0 80 0 n) := by
  have z : ¬ (0 : Int32) < 0 := by decide
  have zn : ¬ nI n < 0 := nI_pos (by omega)
  have ck : (nI n).toNatClampNeg = n := nI_clamp (by omega)
  have z0 : (0 : Int32).toNatClampNeg = 0 := rfl
  have hle : (0 : Int32).toNatClampNeg + (nI n).toNatClampNeg ≤ 24 := by rw [ck, z0]; omega
  refine yOk.adv 7 (pc' := 13) (lv' := [(0, .ref 77), (1, .ref 1)]) (st' := [.int (M.1 1 2), .int (M.1 1 1), .int (M.1 1 0), .ref 77]) (M' := M) rfl ?_
  refine yOk.call (M1 := zup (zup (zup (zup M 77 0 (M.1 1 0)) 77 1 (M.1 1 1)) 77 2 (M.1 1 2)) 77 3 0) _ rfl rfl rfl rfl rfl (m_startAnew_77 M (M.1 1 0) (M.1 1 1) (M.1 1 2)) ?_
  show yOk 21 16 [(0, .ref 77), (1, .ref 1)] [] (zup (zup (zup (zup M 77 0 (M.1 1 0)) 77 1 (M.1 1 1)) 77 2 (M.1 1 2)) 77 3 0) _ _
  refine yOk.adv 3 (pc' := 21) (lv' := [(0, .ref 77), (1, .ref 1)]) (st' := [.int ((zup (zup (zup (zup M 77 0 (M.1 1 0)) 77 1 (M.1 1 1)) 77 2 (M.1 1 2)) 77 3 0).1 1 3), .ref 77]) (M' := zup (zup (zup (zup M 77 0 (M.1 1 0)) 77 1 (M.1 1 1)) 77 2 (M.1 1 2)) 77 3 0) rfl ?_
  have e0 : (zup (zup (zup (zup M 77 0 (M.1 1 0)) 77 1 (M.1 1 1)) 77 2 (M.1 1 2)) 77 3 0).1 1 3 = nI n := by rw [← hs]; unfold zup; simp
  rw [e0]
  refine yOk.adv 8 (pc' := 35) (lv' := [(0, .ref 77), (1, .ref 1)]) (st' := [.ref 77, .int 0, .ref 78, .int 0, .ref 2]) (M' := zup (zup (zup (zup (zup M 77 0 (M.1 1 0)) 77 1 (M.1 1 1)) 77 2 (M.1 1 2)) 77 3 0) 77 3 (nI n)) rfl ?_
  have e1 : (zup (zup (zup (zup (zup M 77 0 (M.1 1 0)) 77 1 (M.1 1 1)) 77 2 (M.1 1 2)) 77 3 0) 77 3 (nI n)).1 77 3 = nI n := by unfold zup; simp
  refine yOk.adv 1 (pc' := 38) (lv' := [(0, .ref 77), (1, .ref 1)]) (st' := [.int ((zup (zup (zup (zup (zup M 77 0 (M.1 1 0)) 77 1 (M.1 1 1)) 77 2 (M.1 1 2)) 77 3 0) 77 3 (nI n)).1 77 3), .int 0, .ref 78, .int 0, .ref 2]) (M' := zup (zup (zup (zup (zup M 77 0 (M.1 1 0)) 77 1 (M.1 1 1)) 77 2 (M.1 1 2)) 77 3 0) 77 3 (nI n)) rfl ?_
  rw [e1]
  refine yOk.copy _ _ _ rfl rfl rfl z z zn hle hle (by decide) ?_
  rw [ck, z0]
  refine yOk.adv 8 (pc' := 55) (lv' := [(0, .ref 77), (1, .ref 1)]) (st' := [.int ((zcpm (zup (zup (zup (zup (zup M 77 0 (M.1 1 0)) 77 1 (M.1 1 1)) 77 2 (M.1 1 2)) 77 3 0) 77 3 (nI n)) 2 0 78 0 n).1 77 3), .int 0, .ref 79, .int 0, .ref 3]) (M' := zcpm (zup (zup (zup (zup (zup M 77 0 (M.1 1 0)) 77 1 (M.1 1 1)) 77 2 (M.1 1 2)) 77 3 0) 77 3 (nI n)) 2 0 78 0 n) rfl ?_
  have e2 : (zcpm (zup (zup (zup (zup (zup M 77 0 (M.1 1 0)) 77 1 (M.1 1 1)) 77 2 (M.1 1 2)) 77 3 0) 77 3 (nI n)) 2 0 78 0 n).1 77 3 = nI n := by unfold zcpm zup; simp
  rw [e2]
  refine yOk.copy _ _ _ rfl rfl rfl z z zn hle hle (by decide) ?_
  rw [ck, z0]
  refine yOk.adv 8 (pc' := 72) (lv' := [(0, .ref 77), (1, .ref 1)]) (st' := [.int ((zcpm (zcpm (zup (zup (zup (zup (zup M 77 0 (M.1 1 0)) 77 1 (M.1 1 1)) 77 2 (M.1 1 2)) 77 3 0) 77 3 (nI n)) 2 0 78 0 n) 3 0 79 0 n).1 77 3), .int 0, .ref 80, .int 0, .ref 4]) (M' := zcpm (zcpm (zup (zup (zup (zup (zup M 77 0 (M.1 1 0)) 77 1 (M.1 1 1)) 77 2 (M.1 1 2)) 77 3 0) 77 3 (nI n)) 2 0 78 0 n) 3 0 79 0 n) rfl ?_
  have e3 : (zcpm (zcpm (zup (zup (zup (zup (zup M 77 0 (M.1 1 0)) 77 1 (M.1 1 1)) 77 2 (M.1 1 2)) 77 3 0) 77 3 (nI n)) 2 0 78 0 n) 3 0 79 0 n).1 77 3 = nI n := by unfold zcpm zup; simp
  rw [e3]
  refine yOk.copy _ _ _ rfl rfl rfl z z zn hle hle (by decide) ?_
  rw [ck, z0]
  exact yOk.ret _ rfl rfl rfl
theorem m_copy_81_1 (M : zMm) (n : Nat) (hs : M.1 1 3 = nI n) (hn : n ≤ 24) : yOk 21 0 [(0, .ref 81), (1, .ref 1)] [] M none (zcpm (zcpm (zcpm (zup (zup (zup (zup (zup M 81 0 (M.1 1 0)) 81 1 (M.1 1 1)) 81 2 (M.1 1 2)) 81 3 0) 81 3 (nI n)) 2 0 82 0 n) 3 0 83 0 n) 4 0 84 0 n) := by
  have z : ¬ (0 : Int32) < 0 := by decide
  have zn : ¬ nI n < 0 := nI_pos (by omega)
  have ck : (nI n).toNatClampNeg = n := nI_clamp (by omega)
  have z0 : (0 : Int32).toNatClampNeg = 0 := rfl
  have hle : (0 : Int32).toNatClampNeg + (nI n).toNatClampNeg ≤ 24 := by rw [ck, z0]; omega
  refine yOk.adv 7 (pc' := 13) (lv' := [(0, .ref 81), (1, .ref 1)]) (st' := [.int (M.1 1 2), .int (M.1 1 1), .int (M.1 1 0), .ref 81]) (M' := M) rfl ?_
  refine yOk.call (M1 := zup (zup (zup (zup M 81 0 (M.1 1 0)) 81 1 (M.1 1 1)) 81 2 (M.1 1 2)) 81 3 0) _ rfl rfl rfl rfl rfl (m_startAnew_81 M (M.1 1 0) (M.1 1 1) (M.1 1 2)) ?_
  show yOk 21 16 [(0, .ref 81), (1, .ref 1)] [] (zup (zup (zup (zup M 81 0 (M.1 1 0)) 81 1 (M.1 1 1)) 81 2 (M.1 1 2)) 81 3 0) _ _
  refine yOk.adv 3 (pc' := 21) (lv' := [(0, .ref 81), (1, .ref 1)]) (st' := [.int ((zup (zup (zup (zup M 81 0 (M.1 1 0)) 81 1 (M.1 1 1)) 81 2 (M.1 1 2)) 81 3 0).1 1 3), .ref 81]) (M' := zup (zup (zup (zup M 81 0 (M.1 1 0)) 81 1 (M.1 1 1)) 81 2 (M.1 1 2)) 81 3 0) rfl ?_
  have e0 : (zup (zup (zup (zup M 81 0 (M.1 1 0)) 81 1 (M.1 1 1)) 81 2 (M.1 1 2)) 81 3 0).1 1 3 = nI n := by rw [← hs]; unfold zup; simp
  rw [e0]
  refine yOk.adv 8 (pc' := 35) (lv' := [(0, .ref 81), (1, .ref 1)]) (st' := [.ref 81, .int 0, .ref 82, .int 0, .ref 2]) (M' := zup (zup (zup (zup (zup M 81 0 (M.1 1 0)) 81 1 (M.1 1 1)) 81 2 (M.1 1 2)) 81 3 0) 81 3 (nI n)) rfl ?_
  have e1 : (zup (zup (zup (zup (zup M 81 0 (M.1 1 0)) 81 1 (M.1 1 1)) 81 2 (M.1 1 2)) 81 3 0) 81 3 (nI n)).1 81 3 = nI n := by unfold zup; simp
  refine yOk.adv 1 (pc' := 38) (lv' := [(0, .ref 81), (1, .ref 1)]) (st' := [.int ((zup (zup (zup (zup (zup M 81 0 (M.1 1 0)) 81 1 (M.1 1 1)) 81 2 (M.1 1 2)) 81 3 0) 81 3 (nI n)).1 81 3), .int 0, .ref 82, .int 0, .ref 2]) (M' := zup (zup (zup (zup (zup M 81 0 (M.1 1 0)) 81 1 (M.1 1 1)) 81 2 (M.1 1 2)) 81 3 0) 81 3 (nI n)) rfl ?_
  rw [e1]
  refine yOk.copy _ _ _ rfl rfl rfl z z zn hle hle (by decide) ?_
  rw [ck, z0]
  refine yOk.adv 8 (pc' := 55) (lv' := [(0, .ref 81), (1, .ref 1)]) (st' := [.int ((zcpm (zup (zup (zup (zup (zup M 81 0 (M.1 1 0)) 81 1 (M.1 1 1)) 81 2 (M.1 1 2)) 81 3 0) 81 3 (nI n)) 2 0 82 0 n).1 81 3), .int 0, .ref 83, .int 0, .ref 3]) (M' := zcpm (zup (zup (zup (zup (zup M 81 0 (M.1 1 0)) 81 1 (M.1 1 1)) 81 2 (M.1 1 2)) 81 3 0) 81 3 (nI n)) 2 0 82 0 n) rfl ?_
  have e2 : (zcpm (zup (zup (zup (zup (zup M 81 0 (M.1 1 0)) 81 1 (M.1 1 1)) 81 2 (M.1 1 2)) 81 3 0) 81 3 (nI n)) 2 0 82 0 n).1 81 3 = nI n := by unfold zcpm zup; simp
  rw [e2]
  refine yOk.copy _ _ _ rfl rfl rfl z z zn hle hle (by decide) ?_
  rw [ck, z0]
  refine yOk.adv 8 (pc' := 72) (lv' := [(0, .ref 81), (1, .ref 1)]) (st' := [.int ((zcpm (zcpm (zup (zup (zup (zup (zup M 81 0 (M.1 1 0)) 81 1 (M.1 1 1)) 81 2 (M.1 1 2)) 81 3 0) 81 3 (nI n)) 2 0 82 0 n) 3 0 83 0 n).1 81 3), .int 0, .ref 84, .int 0, .ref 4]) (M' := zcpm (zcpm (zup (zup (zup (zup (zup M 81 0 (M.1 1 0)) 81 1 (M.1 1 1)) 81 2 (M.1 1 2)) 81 3 0) 81 3 (nI n)) 2 0 82 0 n) 3 0 83 0 n) rfl ?_
  have e3 : (zcpm (zcpm (zup (zup (zup (zup (zup M 81 0 (M.1 1 0)) 81 1 (M.1 1 1)) 81 2 (M.1 1 2)) 81 3 0) 81 3 (nI n)) 2 0 82 0 n) 3 0 83 0 n).1 81 3 = nI n := by unfold zcpm zup; simp
  rw [e3]
  refine yOk.copy _ _ _ rfl rfl rfl z z zn hle hle (by decide) ?_
  rw [ck, z0]
  exact yOk.ret _ rfl rfl rfl
theorem m_copy_1_61 (M : zMm) (n : Nat) (hs : M.1 61 3 = nI n) (hn : n ≤ 24) : yOk 21 0 [(0, .ref 1), (1, .ref 61)] [] M none (zcpm (zcpm (zcpm (zup (zup (zup (zup (zup M 1 0 (M.1 61 0)) 1 1 (M.1 61 1)) 1 2 (M.1 61 2)) 1 3 0) 1 3 (nI n)) 62 0 2 0 n) 63 0 3 0 n) 64 0 4 0 n) := by
  have z : ¬ (0 : Int32) < 0 := by decide
  have zn : ¬ nI n < 0 := nI_pos (by omega)
  have ck : (nI n).toNatClampNeg = n := nI_clamp (by omega)
  have z0 : (0 : Int32).toNatClampNeg = 0 := rfl
  have hle : (0 : Int32).toNatClampNeg + (nI n).toNatClampNeg ≤ 24 := by rw [ck, z0]; omega
  refine yOk.adv 7 (pc' := 13) (lv' := [(0, .ref 1), (1, .ref 61)]) (st' := [.int (M.1 61 2), .int (M.1 61 1), .int (M.1 61 0), .ref 1]) (M' := M) rfl ?_
  refine yOk.call (M1 := zup (zup (zup (zup M 1 0 (M.1 61 0)) 1 1 (M.1 61 1)) 1 2 (M.1 61 2)) 1 3 0) _ rfl rfl rfl rfl rfl (m_startAnew_1 M (M.1 61 0) (M.1 61 1) (M.1 61 2)) ?_
  show yOk 21 16 [(0, .ref 1), (1, .ref 61)] [] (zup (zup (zup (zup M 1 0 (M.1 61 0)) 1 1 (M.1 61 1)) 1 2 (M.1 61 2)) 1 3 0) _ _
  refine yOk.adv 3 (pc' := 21) (lv' := [(0, .ref 1), (1, .ref 61)]) (st' := [.int ((zup (zup (zup (zup M 1 0 (M.1 61 0)) 1 1 (M.1 61 1)) 1 2 (M.1 61 2)) 1 3 0).1 61 3), .ref 1]) (M' := zup (zup (zup (zup M 1 0 (M.1 61 0)) 1 1 (M.1 61 1)) 1 2 (M.1 61 2)) 1 3 0) rfl ?_
  have e0 : (zup (zup (zup (zup M 1 0 (M.1 61 0)) 1 1 (M.1 61 1)) 1 2 (M.1 61 2)) 1 3 0).1 61 3 = nI n := by rw [← hs]; unfold zup; simp
  rw [e0]
  refine yOk.adv 8 (pc' := 35) (lv' := [(0, .ref 1), (1, .ref 61)]) (st' := [.ref 1, .int 0, .ref 2, .int 0, .ref 62]) (M' := zup (zup (zup (zup (zup M 1 0 (M.1 61 0)) 1 1 (M.1 61 1)) 1 2 (M.1 61 2)) 1 3 0) 1 3 (nI n)) rfl ?_
  have e1 : (zup (zup (zup (zup (zup M 1 0 (M.1 61 0)) 1 1 (M.1 61 1)) 1 2 (M.1 61 2)) 1 3 0) 1 3 (nI n)).1 1 3 = nI n := by unfold zup; simp
  refine yOk.adv 1 (pc' := 38) (lv' := [(0, .ref 1), (1, .ref 61)]) (st' := [.int ((zup (zup (zup (zup (zup M 1 0 (M.1 61 0)) 1 1 (M.1 61 1)) 1 2 (M.1 61 2)) 1 3 0) 1 3 (nI n)).1 1 3), .int 0, .ref 2, .int 0, .ref 62]) (M' := zup (zup (zup (zup (zup M 1 0 (M.1 61 0)) 1 1 (M.1 61 1)) 1 2 (M.1 61 2)) 1 3 0) 1 3 (nI n)) rfl ?_
  rw [e1]
  refine yOk.copy _ _ _ rfl rfl rfl z z zn hle hle (by decide) ?_
  rw [ck, z0]
  refine yOk.adv 8 (pc' := 55) (lv' := [(0, .ref 1), (1, .ref 61)]) (st' := [.int ((zcpm (zup (zup (zup (zup (zup M 1 0 (M.1 61 0)) 1 1 (M.1 61 1)) 1 2 (M.1 61 2)) 1 3 0) 1 3 (nI n)) 62 0 2 0 n).1 1 3), .int 0, .ref 3, .int 0, .ref 63]) (M' := zcpm (zup (zup (zup (zup (zup M 1 0 (M.1 61 0)) 1 1 (M.1 61 1)) 1 2 (M.1 61 2)) 1 3 0) 1 3 (nI n)) 62 0 2 0 n) rfl ?_
  have e2 : (zcpm (zup (zup (zup (zup (zup M 1 0 (M.1 61 0)) 1 1 (M.1 61 1)) 1 2 (M.1 61 2)) 1 3 0) 1 3 (nI n)) 62 0 2 0 n).1 1 3 = nI n := by unfold zcpm zup; simp
  rw [e2]
  refine yOk.copy _ _ _ rfl rfl rfl z z zn hle hle (by decide) ?_
  rw [ck, z0]
  refine yOk.adv 8 (pc' := 72) (lv' := [(0, .ref 1), (1, .ref 61)]) (st' := [.int ((zcpm (zcpm (zup (zup (zup (zup (zup M 1 0 (M.1 61 0)) 1 1 (M.1 61 1)) 1 2 (M.1 61 2)) 1 3 0) 1 3 (nI n)) 62 0 2 0 n) 63 0 3 0 n).1 1 3), .int 0, .ref 4, .int 0, .ref 64]) (M' := zcpm (zcpm (zup (zup (zup (zup (zup M 1 0 (M.1 61 0)) 1 1 (M.1 61 1)) 1 2 (M.1 61 2)) 1 3 0) 1 3 (nI n)) 62 0 2 0 n) 63 0 3 0 n) rfl ?_
  have e3 : (zcpm (zcpm (zup (zup (zup (zup (zup M 1 0 (M.1 61 0)) 1 1 (M.1 61 1)) 1 2 (M.1 61 2)) 1 3 0) 1 3 (nI n)) 62 0 2 0 n) 63 0 3 0 n).1 1 3 = nI n := by unfold zcpm zup; simp
  rw [e3]
  refine yOk.copy _ _ _ rfl rfl rfl z z zn hle hle (by decide) ?_
  rw [ck, z0]
  exact yOk.ret _ rfl rfl rfl
theorem m_copy_1_65 (M : zMm) (n : Nat) (hs : M.1 65 3 = nI n) (hn : n ≤ 24) : yOk 21 0 [(0, .ref 1), (1, .ref 65)] [] M none (zcpm (zcpm (zcpm (zup (zup (zup (zup (zup M 1 0 (M.1 65 0)) 1 1 (M.1 65 1)) 1 2 (M.1 65 2)) 1 3 0) 1 3 (nI n)) 66 0 2 0 n) 67 0 3 0 n) 68 0 4 0 n) := by
  have z : ¬ (0 : Int32) < 0 := by decide
  have zn : ¬ nI n < 0 := nI_pos (by omega)
  have ck : (nI n).toNatClampNeg = n := nI_clamp (by omega)
  have z0 : (0 : Int32).toNatClampNeg = 0 := rfl
  have hle : (0 : Int32).toNatClampNeg + (nI n).toNatClampNeg ≤ 24 := by rw [ck, z0]; omega
  refine yOk.adv 7 (pc' := 13) (lv' := [(0, .ref 1), (1, .ref 65)]) (st' := [.int (M.1 65 2), .int (M.1 65 1), .int (M.1 65 0), .ref 1]) (M' := M) rfl ?_
  refine yOk.call (M1 := zup (zup (zup (zup M 1 0 (M.1 65 0)) 1 1 (M.1 65 1)) 1 2 (M.1 65 2)) 1 3 0) _ rfl rfl rfl rfl rfl (m_startAnew_1 M (M.1 65 0) (M.1 65 1) (M.1 65 2)) ?_
  show yOk 21 16 [(0, .ref 1), (1, .ref 65)] [] (zup (zup (zup (zup M 1 0 (M.1 65 0)) 1 1 (M.1 65 1)) 1 2 (M.1 65 2)) 1 3 0) _ _
  refine yOk.adv 3 (pc' := 21) (lv' := [(0, .ref 1), (1, .ref 65)]) (st' := [.int ((zup (zup (zup (zup M 1 0 (M.1 65 0)) 1 1 (M.1 65 1)) 1 2 (M.1 65 2)) 1 3 0).1 65 3), .ref 1]) (M' := zup (zup (zup (zup M 1 0 (M.1 65 0)) 1 1 (M.1 65 1)) 1 2 (M.1 65 2)) 1 3 0) rfl ?_
  have e0 : (zup (zup (zup (zup M 1 0 (M.1 65 0)) 1 1 (M.1 65 1)) 1 2 (M.1 65 2)) 1 3 0).1 65 3 = nI n := by rw [← hs]; unfold zup; simp
  rw [e0]
  refine yOk.adv 8 (pc' := 35) (lv' := [(0, .ref 1), (1, .ref 65)]) (st' := [.ref 1, .int 0, .ref 2, .int 0, .ref 66]) (M' := zup (zup (zup (zup (zup M 1 0 (M.1 65 0)) 1 1 (M.1 65 1)) 1 2 (M.1 65 2)) 1 3 0) 1 3 (nI n)) rfl ?_
  have e1 : (zup (zup (zup (zup (zup M 1 0 (M.1 65 0)) 1 1 (M.1 65 1)) 1 2 (M.1 65 2)) 1 3 0) 1 3 (nI n)).1 1 3 = nI n := by unfold zup; simp
  refine yOk.adv 1 (pc' := 38) (lv' := [(0, .ref 1), (1, .ref 65)]) (st' := [.int ((zup (zup (zup (zup (zup M 1 0 (M.1 65 0)) 1 1 (M.1 65 1)) 1 2 (M.1 65 2)) 1 3 0) 1 3 (nI n)).1 1 3), .int 0, .ref 2, .int 0, .ref 66]) (M' := zup (zup (zup (zup (zup M 1 0 (M.1 65 0)) 1 1 (M.1 65 1)) 1 2 (M.1 65 2)) 1 3 0) 1 3 (nI n)) rfl ?_
  rw [e1]
  refine yOk.copy _ _ _ rfl rfl rfl z z zn hle hle (by decide) ?_
  rw [ck, z0]
  refine yOk.adv 8 (pc' := 55) (lv' := [(0, .ref 1), (1, .ref 65)]) (st' := [.int ((zcpm (zup (zup (zup (zup (zup M 1 0 (M.1 65 0)) 1 1 (M.1 65 1)) 1 2 (M.1 65 2)) 1 3 0) 1 3 (nI n)) 66 0 2 0 n).1 1 3), .int 0, .ref 3, .int 0, .ref 67]) (M' := zcpm (zup (zup (zup (zup (zup M 1 0 (M.1 65 0)) 1 1 (M.1 65 1)) 1 2 (M.1 65 2)) 1 3 0) 1 3 (nI n)) 66 0 2 0 n) rfl ?_
  have e2 : (zcpm (zup (zup (zup (zup (zup M 1 0 (M.1 65 0)) 1 1 (M.1 65 1)) 1 2 (M.1 65 2)) 1 3 0) 1 3 (nI n)) 66 0 2 0 n).1 1 3 = nI n := by unfold zcpm zup; simp
  rw [e2]
  refine yOk.copy _ _ _ rfl rfl rfl z z zn hle hle (by decide) ?_
  rw [ck, z0]
  refine yOk.adv 8 (pc' := 72) (lv' := [(0, .ref 1), (1, .ref 65)]) (st' := [.int ((zcpm (zcpm (zup (zup (zup (zup (zup M 1 0 (M.1 65 0)) 1 1 (M.1 65 1)) 1 2 (M.1 65 2)) 1 3 0) 1 3 (nI n)) 66 0 2 0 n) 67 0 3 0 n).1 1 3), .int 0, .ref 4, .int 0, .ref 68]) (M' := zcpm (zcpm (zup (zup (zup (zup (zup M 1 0 (M.1 65 0)) 1 1 (M.1 65 1)) 1 2 (M.1 65 2)) 1 3 0) 1 3 (nI n)) 66 0 2 0 n) 67 0 3 0 n) rfl ?_
  have e3 : (zcpm (zcpm (zup (zup (zup (zup (zup M 1 0 (M.1 65 0)) 1 1 (M.1 65 1)) 1 2 (M.1 65 2)) 1 3 0) 1 3 (nI n)) 66 0 2 0 n) 67 0 3 0 n).1 1 3 = nI n := by unfold zcpm zup; simp
  rw [e3]
  refine yOk.copy _ _ _ rfl rfl rfl z z zn hle hle (by decide) ?_
  rw [ck, z0]
  exact yOk.ret _ rfl rfl rfl
theorem m_copy_1_69 (M : zMm) (n : Nat) (hs : M.1 69 3 = nI n) (hn : n ≤ 24) : yOk 21 0 [(0, .ref 1), (1, .ref 69)] [] M none (zcpm (zcpm (zcpm (zup (zup (zup (zup (zup M 1 0 (M.1 69 0)) 1 1 (M.1 69 1)) 1 2 (M.1 69 2)) 1 3 0) 1 3 (nI n)) 70 0 2 0 n) 71 0 3 0 n) 72 0 4 0 n) := by
  have z : ¬ (0 : Int32) < 0 := by decide
  have zn : ¬ nI n < 0 := nI_pos (by omega)
  have ck : (nI n).toNatClampNeg = n := nI_clamp (by omega)
  have z0 : (0 : Int32).toNatClampNeg = 0 := rfl
  have hle : (0 : Int32).toNatClampNeg + (nI n).toNatClampNeg ≤ 24 := by rw [ck, z0]; omega
  refine yOk.adv 7 (pc' := 13) (lv' := [(0, .ref 1), (1, .ref 69)]) (st' := [.int (M.1 69 2), .int (M.1 69 1), .int (M.1 69 0), .ref 1]) (M' := M) rfl ?_
  refine yOk.call (M1 := zup (zup (zup (zup M 1 0 (M.1 69 0)) 1 1 (M.1 69 1)) 1 2 (M.1 69 2)) 1 3 0) _ rfl rfl rfl rfl rfl (m_startAnew_1 M (M.1 69 0) (M.1 69 1) (M.1 69 2)) ?_
  show yOk 21 16 [(0, .ref 1), (1, .ref 69)] [] (zup (zup (zup (zup M 1 0 (M.1 69 0)) 1 1 (M.1 69 1)) 1 2 (M.1 69 2)) 1 3 0) _ _
  refine yOk.adv 3 (pc' := 21) (lv' := [(0, .ref 1), (1, .ref 69)]) (st' := [.int ((zup (zup (zup (zup M 1 0 (M.1 69 0)) 1 1 (M.1 69 1)) 1 2 (M.1 69 2)) 1 3 0).1 69 3), .ref 1]) (M' := zup (zup (zup (zup M 1 0 (M.1 69 0)) 1 1 (M.1 69 1)) 1 2 (M.1 69 2)) 1 3 0) rfl ?_
  have e0 : (zup (zup (zup (zup M 1 0 (M.1 69 0)) 1 1 (M.1 69 1)) 1 2 (M.1 69 2)) 1 3 0).1 69 3 = nI n := by rw [← hs]; unfold zup; simp
  rw [e0]
  refine yOk.adv 8 (pc' := 35) (lv' := [(0, .ref 1), (1, .ref 69)]) (st' := [.ref 1, .int 0, .ref 2, .int 0, .ref 70]) (M' := zup (zup (zup (zup (zup M 1 0 (M.1 69 0)) 1 1 (M.1 69 1)) 1 2 (M.1 69 2)) 1 3 0) 1 3 (nI n)) rfl ?_
  have e1 : (zup (zup (zup (zup (zup M 1 0 (M.1 69 0)) 1 1 (M.1 69 1)) 1 2 (M.1 69 2)) 1 3 0) 1 3 (nI n)).1 1 3 = nI n := by unfold zup; simp
  refine yOk.adv 1 (pc' := 38) (lv' := [(0, .ref 1), (1, .ref 69)]) (st' := [.int ((zup (zup (zup (zup (zup M 1 0 (M.1 69 0)) 1 1 (M.1 69 1)) 1 2 (M.1 69 2)) 1 3 0) 1 3 (nI n)).1 1 3), .int 0, .ref 2, .int 0, .ref 70]) (M' := zup (zup (zup (zup (zup M 1 0 (M.1 69 0)) 1 1 (M.1 69 1)) 1 2 (M.1 69 2)) 1 3 0) 1 3 (nI n)) rfl ?_
  rw [e1]
  refine yOk.copy _ _ _ rfl rfl rfl z z zn hle hle (by decide) ?_
  rw [ck, z0]
  refine yOk.adv 8 (pc' := 55) (lv' := [(0, .ref 1), (1, .ref 69)]) (st' := [.int ((zcpm (zup (zup (zup (zup (zup M 1 0 (M.1 69 0)) 1 1 (M.1 69 1)) 1 2 (M.1 69 2)) 1 3 0) 1 3 (nI n)) 70 0 2 0 n).1 1 3), .int 0, .ref 3, .int 0, .ref 71]) (M' := zcpm (zup (zup (zup (zup (zup M 1 0 (M.1 69 0)) 1 1 (M.1 69 1)) 1 2 (M.1 69 2)) 1 3 0) 1 3 (nI n)) 70 0 2 0 n) rfl ?_
  have e2 : (zcpm (zup (zup (zup (zup (zup M 1 0 (M.1 69 0)) 1 1 (M.1 69 1)) 1 2 (M.1 69 2)) 1 3 0) 1 3 (nI n)) 70 0 2 0 n).1 1 3 = nI n := by unfold zcpm zup; simp
  rw [e2]
  refine yOk.copy _ _ _ rfl rfl rfl z z zn hle hle (by decide) ?_
  rw [ck, z0]
  refine yOk.adv 8 (pc' := 72) (lv' := [(0, .ref 1), (1, .ref 69)]) (st' := [.int ((zcpm (zcpm (zup (zup (zup (zup (zup M 1 0 (M.1 69 0)) 1 1 (M.1 69 1)) 1 2 (M.1 69 2)) 1 3 0) 1 3 (nI n)) 70 0 2 0 n) 71 0 3 0 n).1 1 3), .int 0, .ref 4, .int 0, .ref 72]) (M' := zcpm (zcpm (zup (zup (zup (zup (zup M 1 0 (M.1 69 0)) 1 1 (M.1 69 1)) 1 2 (M.1 69 2)) 1 3 0) 1 3 (nI n)) 70 0 2 0 n) 71 0 3 0 n) rfl ?_
  have e3 : (zcpm (zcpm (zup (zup (zup (zup (zup M 1 0 (M.1 69 0)) 1 1 (M.1 69 1)) 1 2 (M.1 69 2)) 1 3 0) 1 3 (nI n)) 70 0 2 0 n) 71 0 3 0 n).1 1 3 = nI n := by unfold zcpm zup; simp
  rw [e3]
  refine yOk.copy _ _ _ rfl rfl rfl z z zn hle hle (by decide) ?_
  rw [ck, z0]
  exact yOk.ret _ rfl rfl rfl
theorem m_copy_1_73 (M : zMm) (n : Nat) (hs : M.1 73 3 = nI n) (hn : n ≤ 24) : yOk 21 0 [(0, .ref 1), (1, .ref 73)] [] M none (zcpm (zcpm (zcpm (zup (zup (zup (zup (zup M 1 0 (M.1 73 0)) 1 1 (M.1 73 1)) 1 2 (M.1 73 2)) 1 3 0) 1 3 (nI n)) 74 0 2 0 n) 75 0 3 0 n) 76 0 4 0 n) := by
  have z : ¬ (0 : Int32) < 0 := by decide
  have zn : ¬ nI n < 0 := nI_pos (by omega)
  have ck : (nI n).toNatClampNeg = n := nI_clamp (by omega)
  have z0 : (0 : Int32).toNatClampNeg = 0 := rfl
  have hle : (0 : Int32).toNatClampNeg + (nI n).toNatClampNeg ≤ 24 := by rw [ck, z0]; omega
  refine yOk.adv 7 (pc' := 13) (lv' := [(0, .ref 1), (1, .ref 73)]) (st' := [.int (M.1 73 2), .int (M.1 73 1), .int (M.1 73 0), .ref 1]) (M' := M) rfl ?_
  refine yOk.call (M1 := zup (zup (zup (zup M 1 0 (M.1 73 0)) 1 1 (M.1 73 1)) 1 2 (M.1 73 2)) 1 3 0) _ rfl rfl rfl rfl rfl (m_startAnew_1 M (M.1 73 0) (M.1 73 1) (M.1 73 2)) ?_
  show yOk 21 16 [(0, .ref 1), (1, .ref 73)] [] (zup (zup (zup (zup M 1 0 (M.1 73 0)) 1 1 (M.1 73 1)) 1 2 (M.1 73 2)) 1 3 0) _ _
  refine yOk.adv 3 (pc' := 21) (lv' := [(0, .ref 1), (1, .ref 73)]) (st' := [.int ((zup (zup (zup (zup M 1 0 (M.1 73 0)) 1 1 (M.1 73 1)) 1 2 (M.1 73 2)) 1 3 0).1 73 3), .ref 1]) (M' := zup (zup (zup (zup M 1 0 (M.1 73 0)) 1 1 (M.1 73 1)) 1 2 (M.1 73 2)) 1 3 0) rfl ?_
  have e0 : (zup (zup (zup (zup M 1 0 (M.1 73 0)) 1 1 (M.1 73 1)) 1 2 (M.1 73 2)) 1 3 0).1 73 3 = nI n := by rw [← hs]; unfold zup; simp
  rw [e0]
  refine yOk.adv 8 (pc' := 35) (lv' := [(0, .ref 1), (1, .ref 73)]) (st' := [.ref 1, .int 0, .ref 2, .int 0, .ref 74]) (M' := zup (zup (zup (zup (zup M 1 0 (M.1 73 0)) 1 1 (M.1 73 1)) 1 2 (M.1 73 2)) 1 3 0) 1 3 (nI n)) rfl ?_
  have e1 : (zup (zup (zup (zup (zup M 1 0 (M.1 73 0)) 1 1 (M.1 73 1)) 1 2 (M.1 73 2)) 1 3 0) 1 3 (nI n)).1 1 3 = nI n := by unfold zup; simp
  refine yOk.adv 1 (pc' := 38) (lv' := [(0, .ref 1), (1, .ref 73)]) (st' := [.int ((zup (zup (zup (zup (zup M 1 0 (M.1 73 0)) 1 1 (M.1 73 1)) 1 2 (M.1 73 2)) 1 3 0) 1 3 (nI n)).1 1 3), .int 0, .ref 2, .int 0, .ref 74]) (M' := zup (zup (zup (zup (zup M 1 0 (M.1 73 0)) 1 1 (M.1 73 1)) 1 2 (M.1 73 2)) 1 3 0) 1 3 (nI n)) rfl ?_
  rw [e1]
  refine yOk.copy _ _ _ rfl rfl rfl z z zn hle hle (by decide) ?_
  rw [ck, z0]
  refine yOk.adv 8 (pc' := 55) (lv' := [(0, .ref 1), (1, .ref 73)]) (st' := [.int ((zcpm (zup (zup (zup (zup (zup M 1 0 (M.1 73 0)) 1 1 (M.1 73 1)) 1 2 (M.1 73 2)) 1 3 0) 1 3 (nI n)) 74 0 2 0 n).1 1 3), .int 0, .ref 3, .int 0, .ref 75]) (M' := zcpm (zup (zup (zup (zup (zup M 1 0 (M.1 73 0)) 1 1 (M.1 73 1)) 1 2 (M.1 73 2)) 1 3 0) 1 3 (nI n)) 74 0 2 0 n) rfl ?_
  have e2 : (zcpm (zup (zup (zup (zup (zup M 1 0 (M.1 73 0)) 1 1 (M.1 73 1)) 1 2 (M.1 73 2)) 1 3 0) 1 3 (nI n)) 74 0 2 0 n).1 1 3 = nI n := by unfold zcpm zup; simp
  rw [e2]
  refine yOk.copy _ _ _ rfl rfl rfl z z zn hle hle (by decide) ?_
  rw [ck, z0]
  refine yOk.adv 8 (pc' := 72) (lv' := [(0, .ref 1), (1, .ref 73)]) (st' := [.int ((zcpm (zcpm (zup (zup (zup (zup (zup M 1 0 (M.1 73 0)) 1 1 (M.1 73 1)) 1 2 (M.1 73 2)) 1 3 0) 1 3 (nI n)) 74 0 2 0 n) 75 0 3 0 n).1 1 3), .int 0, .ref 4, .int 0, .ref 76]) (M' := zcpm (zcpm (zup (zup (zup (zup (zup M 1 0 (M.1 73 0)) 1 1 (M.1 73 1)) 1 2 (M.1 73 2)) 1 3 0) 1 3 (nI n)) 74 0 2 0 n) 75 0 3 0 n) rfl ?_
  have e3 : (zcpm (zcpm (zup (zup (zup (zup (zup M 1 0 (M.1 73 0)) 1 1 (M.1 73 1)) 1 2 (M.1 73 2)) 1 3 0) 1 3 (nI n)) 74 0 2 0 n) 75 0 3 0 n).1 1 3 = nI n := by unfold zcpm zup; simp
  rw [e3]
  refine yOk.copy _ _ _ rfl rfl rfl z z zn hle hle (by decide) ?_
  rw [ck, z0]
  exact yOk.ret _ rfl rfl rfl
theorem m_copy_1_77 (M : zMm) (n : Nat) (hs : M.1 77 3 = nI n) (hn : n ≤ 24) : yOk 21 0 [(0, .ref 1), (1, .ref 77)] [] M none (zcpm (zcpm (zcpm (zup (zup (zup (zup (zup M 1 0 (M.1 77 0)) 1 1 (M.1 77 1)) 1 2 (M.1 77 2)) 1 3 0) 1 3 (nI n)) 78 0 2 0 n) 79 0 3 0 n) 80 0 4 0 n) := by
  have z : ¬ (0 : Int32) < 0 := by decide
  have zn : ¬ nI n < 0 := nI_pos (by omega)
  have ck : (nI n).toNatClampNeg = n := nI_clamp (by omega)
  have z0 : (0 : Int32).toNatClampNeg = 0 := rfl
  have hle : (0 : Int32).toNatClampNeg + (nI n).toNatClampNeg ≤ 24 := by rw [ck, z0]; omega
  refine yOk.adv 7 (pc' := 13) (lv' := [(0, .ref 1), (1, .ref 77)]) (st' := [.int (M.1 77 2), .int (M.1 77 1), .int (M.1 77 0), .ref 1]) (M' := M) rfl ?_
  refine yOk.call (M1 := zup (zup (zup (zup M 1 0 (M.1 77 0)) 1 1 (M.1 77 1)) 1 2 (M.1 77 2)) 1 3 0) _ rfl rfl rfl rfl rfl (m_startAnew_1 M (M.1 77 0) (M.1 77 1) (M.1 77 2)) ?_
  show yOk 21 16 [(0, .ref 1), (1, .ref 77)] [] (zup (zup (zup (zup M 1 0 (M.1 77 0)) 1 1 (M.1 77 1)) 1 2 (M.1 77 2)) 1 3 0) _ _
  refine yOk.adv 3 (pc' := 21) (lv' := [(0, .ref 1), (1, .ref 77)]) (st' := [.int ((zup (zup (zup (zup M 1 0 (M.1 77 0)) 1 1 (M.1 77 1)) 1 2 (M.1 77 2)) 1 3 0).1 77 3), .ref 1]) (M' := zup (zup (zup (zup M 1 0 (M.1 77 0)) 1 1 (M.1 77 1)) 1 2 (M.1 77 2)) 1 3 0) rfl ?_
  have e0 : (zup (zup (zup (zup M 1 0 (M.1 77 0)) 1 1 (M.1 77 1)) 1 2 (M.1 77 2)) 1 3 0).1 77 3 = nI n := by rw [← hs]; unfold zup; simp
  rw [e0]
  refine yOk.adv 8 (pc' := 35) (lv' := [(0, .ref 1), (1, .ref 77)]) (st' := [.ref 1, .int 0, .ref 2, .int 0, .ref 78]) (M' := zup (zup (zup (zup (zup M 1 0 (M.1 77 0)) 1 1 (M.1 77 1)) 1 2 (M.1 77 2)) 1 3 0) 1 3 (nI n)) rfl ?_
  have e1 : (zup (zup (zup (zup (zup M 1 0 (M.1 77 0)) 1 1 (M.1 77 1)) 1 2 (M.1 77 2)) 1 3 0) 1 3 (nI n)).1 1 3 = nI n := by unfold zup; simp
  refine yOk.adv 1 (pc' := 38) (lv' := [(0, .ref 1), (1, .ref 77)]) (st' := [.int ((zup (zup (zup (zup (zup M 1 0 (M.1 77 0)) 1 1 (M.1 77 1)) 1 2 (M.1 77 2)) 1 3 0) 1 3 (nI n)).1 1 3), .int 0, .ref 2, .int 0, .ref 78]) (M' := zup (zup (zup (zup (zup M 1 0 (M.1 77 0)) 1 1 (M.1 77 1)) 1 2 (M.1 77 2)) 1 3 0) 1 3 (nI n)) rfl ?_
  rw [e1]
  refine yOk.copy _ _ _ rfl rfl rfl z z zn hle hle (by decide) ?_
  rw [ck, z0]
  refine yOk.adv 8 (pc' := 55) (lv' := [(0, .ref 1), (1, .ref 77)]) (st' := [.int ((zcpm (zup (zup (zup (zup (zup M 1 0 (M.1 77 0)) 1 1 (M.1 77 1)) 1 2 (M.1 77 2)) 1 3 0) 1 3 (nI n)) 78 0 2 0 n).1 1 3), .int 0, .ref 3, .int 0, .ref 79]) (M' := zcpm (zup (zup (zup (zup (zup M 1 0 (M.1 77 0)) 1 1 (M.1 77 1)) 1 2 (M.1 77 2)) 1 3 0) 1 3 (nI n)) 78 0 2 0 n) rfl ?_
  have e2 : (zcpm (zup (zup (zup (zup (zup M 1 0 (M.1 77 0)) 1 1 (M.1 77 1)) 1 2 (M.1 77 2)) 1 3 0) 1 3 (nI n)) 78 0 2 0 n).1 1 3 = nI n := by unfold zcpm zup; simp
  rw [e2]
  refine yOk.copy _ _ _ rfl rfl rfl z z zn hle hle (by decide) ?_
  rw [ck, z0]
  refine yOk.adv 8 (pc' := 72) (lv' := [(0, .ref 1), (1, .ref 77)]) (st' := [.int ((zcpm (zcpm (zup (zup (zup (zup (zup M 1 0 (M.1 77 0)) 1 1 (M.1 77 1)) 1 2 (M.1 77 2)) 1 3 0) 1 3 (nI n)) 78 0 2 0 n) 79 0 3 0 n).1 1 3), .int 0, .ref 4, .int 0, .ref 80]) (M' := zcpm (zcpm (zup (zup (zup (zup (zup M 1 0 (M.1 77 0)) 1 1 (M.1 77 1)) 1 2 (M.1 77 2)) 1 3 0) 1 3 (nI n)) 78 0 2 0 n) 79 0 3 0 n) rfl ?_
  have e3 : (zcpm (zcpm (zup (zup (zup (zup (zup M 1 0 (M.1 77 0)) 1 1 (M.1 77 1)) 1 2 (M.1 77 2)) 1 3 0) 1 3 (nI n)) 78 0 2 0 n) 79 0 3 0 n).1 1 3 = nI n := by unfold zcpm zup; simp
  rw [e3]
  refine yOk.copy _ _ _ rfl rfl rfl z z zn hle hle (by decide) ?_
  rw [ck, z0]
  exact yOk.ret _ rfl rfl rfl
theorem m_copy_1_81 (M : zMm) (n : Nat) (hs : M.1 81 3 = nI n) (hn : n ≤ 24) : yOk 21 0 [(0, .ref 1), (1, .ref 81)] [] M none (zcpm (zcpm (zcpm (zup (zup (zup (zup (zup M 1 0 (M.1 81 0)) 1 1 (M.1 81 1)) 1 2 (M.1 81 2)) 1 3 0) 1 3 (nI n)) 82 0 2 0 n) 83 0 3 0 n) 84 0 4 0 n) := by
  have z : ¬ (0 : Int32) < 0 := by decide
  have zn : ¬ nI n < 0 := nI_pos (by omega)
  have ck : (nI n).toNatClampNeg = n := nI_clamp (by omega)
  have z0 : (0 : Int32).toNatClampNeg = 0 := rfl
  have hle : (0 : Int32).toNatClampNeg + (nI n).toNatClampNeg ≤ 24 := by rw [ck, z0]; omega
  refine yOk.adv 7 (pc' := 13) (lv' := [(0, .ref 1), (1, .ref 81)]) (st' := [.int (M.1 81 2), .int (M.1 81 1), .int (M.1 81 0), .ref 1]) (M' := M) rfl ?_
  refine yOk.call (M1 := zup (zup (zup (zup M 1 0 (M.1 81 0)) 1 1 (M.1 81 1)) 1 2 (M.1 81 2)) 1 3 0) _ rfl rfl rfl rfl rfl (m_startAnew_1 M (M.1 81 0) (M.1 81 1) (M.1 81 2)) ?_
  show yOk 21 16 [(0, .ref 1), (1, .ref 81)] [] (zup (zup (zup (zup M 1 0 (M.1 81 0)) 1 1 (M.1 81 1)) 1 2 (M.1 81 2)) 1 3 0) _ _
  refine yOk.adv 3 (pc' := 21) (lv' := [(0, .ref 1), (1, .ref 81)]) (st' := [.int ((zup (zup (zup (zup M 1 0 (M.1 81 0)) 1 1 (M.1 81 1)) 1 2 (M.1 81 2)) 1 3 0).1 81 3), .ref 1]) (M' := zup (zup (zup (zup M 1 0 (M.1 81 0)) 1 1 (M.1 81 1)) 1 2 (M.1 81 2)) 1 3 0) rfl ?_
  have e0 : (zup (zup (zup (zup M 1 0 (M.1 81 0)) 1 1 (M.1 81 1)) 1 2 (M.1 81 2)) 1 3 0).1 81 3 = nI n := by rw [← hs]; unfold zup; simp
  rw [e0]
  refine yOk.adv 8 (pc' := 35) (lv' := [(0, .ref 1), (1, .ref 81)]) (st' := [.ref 1, .int 0, .ref 2, .int 0, .ref 82]) (M' := zup (zup (zup (zup (zup M 1 0 (M.1 81 0)) 1 1 (M.1 81 1)) 1 2 (M.1 81 2)) 1 3 0) 1 3 (nI n)) rfl ?_
  have e1 : (zup (zup (zup (zup (zup M 1 0 (M.1 81 0)) 1 1 (M.1 81 1)) 1 2 (M.1 81 2)) 1 3 0) 1 3 (nI n)).1 1 3 = nI n := by unfold zup; simp
  refine yOk.adv 1 (pc' := 38) (lv' := [(0, .ref 1), (1, .ref 81)]) (st' := [.int ((zup (zup (zup (zup (zup M 1 0 (M.1 81 0)) 1 1 (M.1 81 1)) 1 2 (M.1 81 2)) 1 3 0) 1 3 (nI n)).1 1 3), .int 0, .ref 2, .int 0, .ref 82]) (M' := zup (zup (zup (zup (zup M 1 0 (M.1 81 0)) 1 1 (M.1 81 1)) 1 2 (M.1 81 2)) 1 3 0) 1 3 (nI n)) rfl ?_
  rw [e1]
  refine yOk.copy _ _ _ rfl rfl rfl z z zn hle hle (by decide) ?_
  rw [ck, z0]
  refine yOk.adv 8 (pc' := 55) (lv' := [(0, .ref 1), (1, .ref 81)]) (st' := [.int ((zcpm (zup (zup (zup (zup (zup M 1 0 (M.1 81 0)) 1 1 (M.1 81 1)) 1 2 (M.1 81 2)) 1 3 0) 1 3 (nI n)) 82 0 2 0 n).1 1 3), .int 0, .ref 3, .int 0, .ref 83]) (M' := zcpm (zup (zup (zup (zup (zup M 1 0 (M.1 81 0)) 1 1 (M.1 81 1)) 1 2 (M.1 81 2)) 1 3 0) 1 3 (nI n)) 82 0 2 0 n) rfl ?_
  have e2 : (zcpm (zup (zup (zup (zup (zup M 1 0 (M.1 81 0)) 1 1 (M.1 81 1)) 1 2 (M.1 81 2)) 1 3 0) 1 3 (nI n)) 82 0 2 0 n).1 1 3 = nI n := by unfold zcpm zup; simp
  rw [e2]
  refine yOk.copy _ _ _ rfl rfl rfl z z zn hle hle (by decide) ?_
  rw [ck, z0]
  refine yOk.adv 8 (pc' := 72) (lv' := [(0, .ref 1), (1, .ref 81)]) (st' := [.int ((zcpm (zcpm (zup (zup (zup (zup (zup M 1 0 (M.1 81 0)) 1 1 (M.1 81 1)) 1 2 (M.1 81 2)) 1 3 0) 1 3 (nI n)) 82 0 2 0 n) 83 0 3 0 n).1 1 3), .int 0, .ref 4, .int 0, .ref 84]) (M' := zcpm (zcpm (zup (zup (zup (zup (zup M 1 0 (M.1 81 0)) 1 1 (M.1 81 1)) 1 2 (M.1 81 2)) 1 3 0) 1 3 (nI n)) 82 0 2 0 n) 83 0 3 0 n) rfl ?_
  have e3 : (zcpm (zcpm (zup (zup (zup (zup (zup M 1 0 (M.1 81 0)) 1 1 (M.1 81 1)) 1 2 (M.1 81 2)) 1 3 0) 1 3 (nI n)) 82 0 2 0 n) 83 0 3 0 n).1 1 3 = nI n := by unfold zcpm zup; simp
  rw [e3]
  refine yOk.copy _ _ _ rfl rfl rfl z z zn hle hle (by decide) ?_
  rw [ck, z0]
  exact yOk.ret _ rfl rfl rfl
