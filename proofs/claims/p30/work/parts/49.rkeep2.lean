/-! ===== keep of the reference, whole ===== -/
theorem r_keep_0 (M : zMm) (n : Nat) (hs : M.1 93 7 = nI n) (hn : n ≤ 24) : yOk 139 0 [(0, .ref 93), (1, .int 0)] [] M (some (.int (nI n))) (zkpM (zup (zup (zup (zup M 103 0 (nI n)) 104 0 (M.1 93 4)) 105 0 (M.1 93 5)) 106 0 (M.1 93 6)) 0 n) := by
  refine yOk.adv 4 (pc' := 6) (lv' := [(0, .ref 93), (1, .int 0)]) (st' := [.long 5, .long 0, .long 0]) (M' := M) rfl ?_
  refine yOk.call (M1 := M) _ rfl rfl rfl rfl rfl (r_withinV M 0 0 5 0 5 rfl rfl 1 (Or.inl ⟨by decide, rfl⟩)) ?_
  show yOk 139 9 [(0, .ref 93), (1, .int 0)] [.int 1] M _ _
  refine yOk.if1 .ne _ _ _ _ rfl (fun c1 => ?_) (fun c1 => ?_)
  · refine yOk.adv 5 (pc' := 23) (lv' := [(0, .ref 93), (1, .int 0)]) (st' := [.int (M.1 93 7), .int 0, .ref 103]) (M' := M) rfl ?_
    rw [hs]
    refine yOk.adv 6 (pc' := 33) (lv' := [(0, .ref 93), (1, .int 0)]) (st' := [.int ((zup M 103 0 (nI n)).1 93 4), .int 0, .ref 104]) (M' := zup M 103 0 (nI n)) rfl ?_
    have e1 : (zup M 103 0 (nI n)).1 93 4 = M.1 93 4 := by unfold zup; simp
    rw [e1]
    refine yOk.adv 6 (pc' := 43) (lv' := [(0, .ref 93), (1, .int 0)]) (st' := [.int ((zup (zup M 103 0 (nI n)) 104 0 (M.1 93 4)).1 93 5), .int 0, .ref 105]) (M' := zup (zup M 103 0 (nI n)) 104 0 (M.1 93 4)) rfl ?_
    have e2 : (zup (zup M 103 0 (nI n)) 104 0 (M.1 93 4)).1 93 5 = M.1 93 5 := by unfold zup; simp
    rw [e2]
    refine yOk.adv 6 (pc' := 53) (lv' := [(0, .ref 93), (1, .int 0)]) (st' := [.int ((zup (zup (zup M 103 0 (nI n)) 104 0 (M.1 93 4)) 105 0 (M.1 93 5)).1 93 6), .int 0, .ref 106]) (M' := zup (zup (zup M 103 0 (nI n)) 104 0 (M.1 93 4)) 105 0 (M.1 93 5)) rfl ?_
    have e3 : (zup (zup (zup M 103 0 (nI n)) 104 0 (M.1 93 4)) 105 0 (M.1 93 5)).1 93 6 = M.1 93 6 := by unfold zup; simp
    rw [e3]
    refine yOk.adv 3 (pc' := 56) (lv' := [(2, .int 0), (0, .ref 93), (1, .int 0)]) (st' := []) (M' := zup (zup (zup (zup M 103 0 (nI n)) 104 0 (M.1 93 4)) 105 0 (M.1 93 5)) 106 0 (M.1 93 6)) rfl ?_
    have e4 : (zup (zup (zup (zup M 103 0 (nI n)) 104 0 (M.1 93 4)) 105 0 (M.1 93 5)) 106 0 (M.1 93 6)).1 93 7 = nI n := by rw [← hs]; unfold zup; simp
    have h := r_keep_0_loop (zup (zup (zup (zup M 103 0 (nI n)) 104 0 (M.1 93 4)) 105 0 (M.1 93 5)) 106 0 (M.1 93 6)) n e4 hn n 0 (by omega)
    rw [zkpM_0] at h
    exact h.drop (by refine ⟨?_, ?_⟩ <;> simp [zget, zwf, nI])
  · exact absurd c1 (by decide)
theorem r_keep_1 (M : zMm) (n : Nat) (hs : M.1 93 7 = nI n) (hn : n ≤ 24) : yOk 139 0 [(0, .ref 93), (1, .int 1)] [] M (some (.int (nI n))) (zkpM (zup (zup (zup (zup M 103 1 (nI n)) 104 1 (M.1 93 4)) 105 1 (M.1 93 5)) 106 1 (M.1 93 6)) 24 n) := by
  refine yOk.adv 4 (pc' := 6) (lv' := [(0, .ref 93), (1, .int 1)]) (st' := [.long 5, .long 0, .long 1]) (M' := M) rfl ?_
  refine yOk.call (M1 := M) _ rfl rfl rfl rfl rfl (r_withinV M 1 0 5 0 5 rfl rfl 1 (Or.inl ⟨by decide, rfl⟩)) ?_
  show yOk 139 9 [(0, .ref 93), (1, .int 1)] [.int 1] M _ _
  refine yOk.if1 .ne _ _ _ _ rfl (fun c1 => ?_) (fun c1 => ?_)
  · refine yOk.adv 5 (pc' := 23) (lv' := [(0, .ref 93), (1, .int 1)]) (st' := [.int (M.1 93 7), .int 1, .ref 103]) (M' := M) rfl ?_
    rw [hs]
    refine yOk.adv 6 (pc' := 33) (lv' := [(0, .ref 93), (1, .int 1)]) (st' := [.int ((zup M 103 1 (nI n)).1 93 4), .int 1, .ref 104]) (M' := zup M 103 1 (nI n)) rfl ?_
    have e1 : (zup M 103 1 (nI n)).1 93 4 = M.1 93 4 := by unfold zup; simp
    rw [e1]
    refine yOk.adv 6 (pc' := 43) (lv' := [(0, .ref 93), (1, .int 1)]) (st' := [.int ((zup (zup M 103 1 (nI n)) 104 1 (M.1 93 4)).1 93 5), .int 1, .ref 105]) (M' := zup (zup M 103 1 (nI n)) 104 1 (M.1 93 4)) rfl ?_
    have e2 : (zup (zup M 103 1 (nI n)) 104 1 (M.1 93 4)).1 93 5 = M.1 93 5 := by unfold zup; simp
    rw [e2]
    refine yOk.adv 6 (pc' := 53) (lv' := [(0, .ref 93), (1, .int 1)]) (st' := [.int ((zup (zup (zup M 103 1 (nI n)) 104 1 (M.1 93 4)) 105 1 (M.1 93 5)).1 93 6), .int 1, .ref 106]) (M' := zup (zup (zup M 103 1 (nI n)) 104 1 (M.1 93 4)) 105 1 (M.1 93 5)) rfl ?_
    have e3 : (zup (zup (zup M 103 1 (nI n)) 104 1 (M.1 93 4)) 105 1 (M.1 93 5)).1 93 6 = M.1 93 6 := by unfold zup; simp
    rw [e3]
    refine yOk.adv 3 (pc' := 56) (lv' := [(2, .int 0), (0, .ref 93), (1, .int 1)]) (st' := []) (M' := zup (zup (zup (zup M 103 1 (nI n)) 104 1 (M.1 93 4)) 105 1 (M.1 93 5)) 106 1 (M.1 93 6)) rfl ?_
    have e4 : (zup (zup (zup (zup M 103 1 (nI n)) 104 1 (M.1 93 4)) 105 1 (M.1 93 5)) 106 1 (M.1 93 6)).1 93 7 = nI n := by rw [← hs]; unfold zup; simp
    have h := r_keep_1_loop (zup (zup (zup (zup M 103 1 (nI n)) 104 1 (M.1 93 4)) 105 1 (M.1 93 5)) 106 1 (M.1 93 6)) n e4 hn n 0 (by omega)
    rw [zkpM_0] at h
    exact h.drop (by refine ⟨?_, ?_⟩ <;> simp [zget, zwf, nI])
  · exact absurd c1 (by decide)
theorem r_keep_2 (M : zMm) (n : Nat) (hs : M.1 93 7 = nI n) (hn : n ≤ 24) : yOk 139 0 [(0, .ref 93), (1, .int 2)] [] M (some (.int (nI n))) (zkpM (zup (zup (zup (zup M 103 2 (nI n)) 104 2 (M.1 93 4)) 105 2 (M.1 93 5)) 106 2 (M.1 93 6)) 48 n) := by
  refine yOk.adv 4 (pc' := 6) (lv' := [(0, .ref 93), (1, .int 2)]) (st' := [.long 5, .long 0, .long 2]) (M' := M) rfl ?_
  refine yOk.call (M1 := M) _ rfl rfl rfl rfl rfl (r_withinV M 2 0 5 0 5 rfl rfl 1 (Or.inl ⟨by decide, rfl⟩)) ?_
  show yOk 139 9 [(0, .ref 93), (1, .int 2)] [.int 1] M _ _
  refine yOk.if1 .ne _ _ _ _ rfl (fun c1 => ?_) (fun c1 => ?_)
  · refine yOk.adv 5 (pc' := 23) (lv' := [(0, .ref 93), (1, .int 2)]) (st' := [.int (M.1 93 7), .int 2, .ref 103]) (M' := M) rfl ?_
    rw [hs]
    refine yOk.adv 6 (pc' := 33) (lv' := [(0, .ref 93), (1, .int 2)]) (st' := [.int ((zup M 103 2 (nI n)).1 93 4), .int 2, .ref 104]) (M' := zup M 103 2 (nI n)) rfl ?_
    have e1 : (zup M 103 2 (nI n)).1 93 4 = M.1 93 4 := by unfold zup; simp
    rw [e1]
    refine yOk.adv 6 (pc' := 43) (lv' := [(0, .ref 93), (1, .int 2)]) (st' := [.int ((zup (zup M 103 2 (nI n)) 104 2 (M.1 93 4)).1 93 5), .int 2, .ref 105]) (M' := zup (zup M 103 2 (nI n)) 104 2 (M.1 93 4)) rfl ?_
    have e2 : (zup (zup M 103 2 (nI n)) 104 2 (M.1 93 4)).1 93 5 = M.1 93 5 := by unfold zup; simp
    rw [e2]
    refine yOk.adv 6 (pc' := 53) (lv' := [(0, .ref 93), (1, .int 2)]) (st' := [.int ((zup (zup (zup M 103 2 (nI n)) 104 2 (M.1 93 4)) 105 2 (M.1 93 5)).1 93 6), .int 2, .ref 106]) (M' := zup (zup (zup M 103 2 (nI n)) 104 2 (M.1 93 4)) 105 2 (M.1 93 5)) rfl ?_
    have e3 : (zup (zup (zup M 103 2 (nI n)) 104 2 (M.1 93 4)) 105 2 (M.1 93 5)).1 93 6 = M.1 93 6 := by unfold zup; simp
    rw [e3]
    refine yOk.adv 3 (pc' := 56) (lv' := [(2, .int 0), (0, .ref 93), (1, .int 2)]) (st' := []) (M' := zup (zup (zup (zup M 103 2 (nI n)) 104 2 (M.1 93 4)) 105 2 (M.1 93 5)) 106 2 (M.1 93 6)) rfl ?_
    have e4 : (zup (zup (zup (zup M 103 2 (nI n)) 104 2 (M.1 93 4)) 105 2 (M.1 93 5)) 106 2 (M.1 93 6)).1 93 7 = nI n := by rw [← hs]; unfold zup; simp
    have h := r_keep_2_loop (zup (zup (zup (zup M 103 2 (nI n)) 104 2 (M.1 93 4)) 105 2 (M.1 93 5)) 106 2 (M.1 93 6)) n e4 hn n 0 (by omega)
    rw [zkpM_0] at h
    exact h.drop (by refine ⟨?_, ?_⟩ <;> simp [zget, zwf, nI])
  · exact absurd c1 (by decide)
theorem r_keep_3 (M : zMm) (n : Nat) (hs : M.1 93 7 = nI n) (hn : n ≤ 24) : yOk 139 0 [(0, .ref 93), (1, .int 3)] [] M (some (.int (nI n))) (zkpM (zup (zup (zup (zup M 103 3 (nI n)) 104 3 (M.1 93 4)) 105 3 (M.1 93 5)) 106 3 (M.1 93 6)) 72 n) := by
  refine yOk.adv 4 (pc' := 6) (lv' := [(0, .ref 93), (1, .int 3)]) (st' := [.long 5, .long 0, .long 3]) (M' := M) rfl ?_
  refine yOk.call (M1 := M) _ rfl rfl rfl rfl rfl (r_withinV M 3 0 5 0 5 rfl rfl 1 (Or.inl ⟨by decide, rfl⟩)) ?_
  show yOk 139 9 [(0, .ref 93), (1, .int 3)] [.int 1] M _ _
  refine yOk.if1 .ne _ _ _ _ rfl (fun c1 => ?_) (fun c1 => ?_)
  · refine yOk.adv 5 (pc' := 23) (lv' := [(0, .ref 93), (1, .int 3)]) (st' := [.int (M.1 93 7), .int 3, .ref 103]) (M' := M) rfl ?_
    rw [hs]
    refine yOk.adv 6 (pc' := 33) (lv' := [(0, .ref 93), (1, .int 3)]) (st' := [.int ((zup M 103 3 (nI n)).1 93 4), .int 3, .ref 104]) (M' := zup M 103 3 (nI n)) rfl ?_
    have e1 : (zup M 103 3 (nI n)).1 93 4 = M.1 93 4 := by unfold zup; simp
    rw [e1]
    refine yOk.adv 6 (pc' := 43) (lv' := [(0, .ref 93), (1, .int 3)]) (st' := [.int ((zup (zup M 103 3 (nI n)) 104 3 (M.1 93 4)).1 93 5), .int 3, .ref 105]) (M' := zup (zup M 103 3 (nI n)) 104 3 (M.1 93 4)) rfl ?_
    have e2 : (zup (zup M 103 3 (nI n)) 104 3 (M.1 93 4)).1 93 5 = M.1 93 5 := by unfold zup; simp
    rw [e2]
    refine yOk.adv 6 (pc' := 53) (lv' := [(0, .ref 93), (1, .int 3)]) (st' := [.int ((zup (zup (zup M 103 3 (nI n)) 104 3 (M.1 93 4)) 105 3 (M.1 93 5)).1 93 6), .int 3, .ref 106]) (M' := zup (zup (zup M 103 3 (nI n)) 104 3 (M.1 93 4)) 105 3 (M.1 93 5)) rfl ?_
    have e3 : (zup (zup (zup M 103 3 (nI n)) 104 3 (M.1 93 4)) 105 3 (M.1 93 5)).1 93 6 = M.1 93 6 := by unfold zup; simp
    rw [e3]
    refine yOk.adv 3 (pc' := 56) (lv' := [(2, .int 0), (0, .ref 93), (1, .int 3)]) (st' := []) (M' := zup (zup (zup (zup M 103 3 (nI n)) 104 3 (M.1 93 4)) 105 3 (M.1 93 5)) 106 3 (M.1 93 6)) rfl ?_
    have e4 : (zup (zup (zup (zup M 103 3 (nI n)) 104 3 (M.1 93 4)) 105 3 (M.1 93 5)) 106 3 (M.1 93 6)).1 93 7 = nI n := by rw [← hs]; unfold zup; simp
    have h := r_keep_3_loop (zup (zup (zup (zup M 103 3 (nI n)) 104 3 (M.1 93 4)) 105 3 (M.1 93 5)) 106 3 (M.1 93 6)) n e4 hn n 0 (by omega)
    rw [zkpM_0] at h
    exact h.drop (by refine ⟨?_, ?_⟩ <;> simp [zget, zwf, nI])
  · exact absurd c1 (by decide)
theorem r_keep_4 (M : zMm) (n : Nat) (hs : M.1 93 7 = nI n) (hn : n ≤ 24) : yOk 139 0 [(0, .ref 93), (1, .int 4)] [] M (some (.int (nI n))) (zkpM (zup (zup (zup (zup M 103 4 (nI n)) 104 4 (M.1 93 4)) 105 4 (M.1 93 5)) 106 4 (M.1 93 6)) 96 n) := by
  refine yOk.adv 4 (pc' := 6) (lv' := [(0, .ref 93), (1, .int 4)]) (st' := [.long 5, .long 0, .long 4]) (M' := M) rfl ?_
  refine yOk.call (M1 := M) _ rfl rfl rfl rfl rfl (r_withinV M 4 0 5 0 5 rfl rfl 1 (Or.inl ⟨by decide, rfl⟩)) ?_
  show yOk 139 9 [(0, .ref 93), (1, .int 4)] [.int 1] M _ _
  refine yOk.if1 .ne _ _ _ _ rfl (fun c1 => ?_) (fun c1 => ?_)
  · refine yOk.adv 5 (pc' := 23) (lv' := [(0, .ref 93), (1, .int 4)]) (st' := [.int (M.1 93 7), .int 4, .ref 103]) (M' := M) rfl ?_
    rw [hs]
    refine yOk.adv 6 (pc' := 33) (lv' := [(0, .ref 93), (1, .int 4)]) (st' := [.int ((zup M 103 4 (nI n)).1 93 4), .int 4, .ref 104]) (M' := zup M 103 4 (nI n)) rfl ?_
    have e1 : (zup M 103 4 (nI n)).1 93 4 = M.1 93 4 := by unfold zup; simp
    rw [e1]
    refine yOk.adv 6 (pc' := 43) (lv' := [(0, .ref 93), (1, .int 4)]) (st' := [.int ((zup (zup M 103 4 (nI n)) 104 4 (M.1 93 4)).1 93 5), .int 4, .ref 105]) (M' := zup (zup M 103 4 (nI n)) 104 4 (M.1 93 4)) rfl ?_
    have e2 : (zup (zup M 103 4 (nI n)) 104 4 (M.1 93 4)).1 93 5 = M.1 93 5 := by unfold zup; simp
    rw [e2]
    refine yOk.adv 6 (pc' := 53) (lv' := [(0, .ref 93), (1, .int 4)]) (st' := [.int ((zup (zup (zup M 103 4 (nI n)) 104 4 (M.1 93 4)) 105 4 (M.1 93 5)).1 93 6), .int 4, .ref 106]) (M' := zup (zup (zup M 103 4 (nI n)) 104 4 (M.1 93 4)) 105 4 (M.1 93 5)) rfl ?_
    have e3 : (zup (zup (zup M 103 4 (nI n)) 104 4 (M.1 93 4)) 105 4 (M.1 93 5)).1 93 6 = M.1 93 6 := by unfold zup; simp
    rw [e3]
    refine yOk.adv 3 (pc' := 56) (lv' := [(2, .int 0), (0, .ref 93), (1, .int 4)]) (st' := []) (M' := zup (zup (zup (zup M 103 4 (nI n)) 104 4 (M.1 93 4)) 105 4 (M.1 93 5)) 106 4 (M.1 93 6)) rfl ?_
    have e4 : (zup (zup (zup (zup M 103 4 (nI n)) 104 4 (M.1 93 4)) 105 4 (M.1 93 5)) 106 4 (M.1 93 6)).1 93 7 = nI n := by rw [← hs]; unfold zup; simp
    have h := r_keep_4_loop (zup (zup (zup (zup M 103 4 (nI n)) 104 4 (M.1 93 4)) 105 4 (M.1 93 5)) 106 4 (M.1 93 6)) n e4 hn n 0 (by omega)
    rw [zkpM_0] at h
    exact h.drop (by refine ⟨?_, ?_⟩ <;> simp [zget, zwf, nI])
  · exact absurd c1 (by decide)
theorem r_keep_5 (M : zMm) (n : Nat) (hs : M.1 93 7 = nI n) (hn : n ≤ 24) : yOk 139 0 [(0, .ref 93), (1, .int 5)] [] M (some (.int (nI n))) (zkpM (zup (zup (zup (zup M 103 5 (nI n)) 104 5 (M.1 93 4)) 105 5 (M.1 93 5)) 106 5 (M.1 93 6)) 120 n) := by
  refine yOk.adv 4 (pc' := 6) (lv' := [(0, .ref 93), (1, .int 5)]) (st' := [.long 5, .long 0, .long 5]) (M' := M) rfl ?_
  refine yOk.call (M1 := M) _ rfl rfl rfl rfl rfl (r_withinV M 5 0 5 0 5 rfl rfl 1 (Or.inl ⟨by decide, rfl⟩)) ?_
  show yOk 139 9 [(0, .ref 93), (1, .int 5)] [.int 1] M _ _
  refine yOk.if1 .ne _ _ _ _ rfl (fun c1 => ?_) (fun c1 => ?_)
  · refine yOk.adv 5 (pc' := 23) (lv' := [(0, .ref 93), (1, .int 5)]) (st' := [.int (M.1 93 7), .int 5, .ref 103]) (M' := M) rfl ?_
    rw [hs]
    refine yOk.adv 6 (pc' := 33) (lv' := [(0, .ref 93), (1, .int 5)]) (st' := [.int ((zup M 103 5 (nI n)).1 93 4), .int 5, .ref 104]) (M' := zup M 103 5 (nI n)) rfl ?_
    have e1 : (zup M 103 5 (nI n)).1 93 4 = M.1 93 4 := by unfold zup; simp
    rw [e1]
    refine yOk.adv 6 (pc' := 43) (lv' := [(0, .ref 93), (1, .int 5)]) (st' := [.int ((zup (zup M 103 5 (nI n)) 104 5 (M.1 93 4)).1 93 5), .int 5, .ref 105]) (M' := zup (zup M 103 5 (nI n)) 104 5 (M.1 93 4)) rfl ?_
    have e2 : (zup (zup M 103 5 (nI n)) 104 5 (M.1 93 4)).1 93 5 = M.1 93 5 := by unfold zup; simp
    rw [e2]
    refine yOk.adv 6 (pc' := 53) (lv' := [(0, .ref 93), (1, .int 5)]) (st' := [.int ((zup (zup (zup M 103 5 (nI n)) 104 5 (M.1 93 4)) 105 5 (M.1 93 5)).1 93 6), .int 5, .ref 106]) (M' := zup (zup (zup M 103 5 (nI n)) 104 5 (M.1 93 4)) 105 5 (M.1 93 5)) rfl ?_
    have e3 : (zup (zup (zup M 103 5 (nI n)) 104 5 (M.1 93 4)) 105 5 (M.1 93 5)).1 93 6 = M.1 93 6 := by unfold zup; simp
    rw [e3]
    refine yOk.adv 3 (pc' := 56) (lv' := [(2, .int 0), (0, .ref 93), (1, .int 5)]) (st' := []) (M' := zup (zup (zup (zup M 103 5 (nI n)) 104 5 (M.1 93 4)) 105 5 (M.1 93 5)) 106 5 (M.1 93 6)) rfl ?_
    have e4 : (zup (zup (zup (zup M 103 5 (nI n)) 104 5 (M.1 93 4)) 105 5 (M.1 93 5)) 106 5 (M.1 93 6)).1 93 7 = nI n := by rw [← hs]; unfold zup; simp
    have h := r_keep_5_loop (zup (zup (zup (zup M 103 5 (nI n)) 104 5 (M.1 93 4)) 105 5 (M.1 93 5)) 106 5 (M.1 93 6)) n e4 hn n 0 (by omega)
    rw [zkpM_0] at h
    exact h.drop (by refine ⟨?_, ?_⟩ <;> simp [zget, zwf, nI])
  · exact absurd c1 (by decide)
