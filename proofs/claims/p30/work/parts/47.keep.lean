/-! ===== keep and load of the class ===== -/
theorem m_keep_no (M : zMm) (k : Int32) (h : ¬ (0 ≤ k.toInt ∧ k.toInt ≤ 5)) : yOk 51 0 [(0, .ref 0), (1, .int k)] [] M (some (.int (-1))) M := by
  refine yOk.adv 3 (pc' := 3) (lv' := [(0, .ref 0), (1, .int k)]) (st' := [.int 5, .int 0, .int k]) (M' := M) rfl ?_
  refine yOk.call (M1 := M) _ rfl rfl rfl rfl rfl (m_fromV M k 0 5 0 5 rfl rfl 0 (Or.inr ⟨h, rfl⟩)) ?_
  show yOk 51 6 [(0, .ref 0), (1, .int k)] [.int 0] M _ _
  refine yOk.if1 .ne _ _ _ _ rfl (fun c1 => ?_) (fun c1 => ?_)
  · exact absurd c1 (by decide)
  · refine yOk.adv 1 (pc' := 10) (lv' := [(0, .ref 0), (1, .int k)]) (st' := [.int (-1)]) (M' := M) rfl ?_
    exact yOk.ret _ rfl rfl rfl
theorem m_load_no (M : zMm) (k : Int32) (h : ¬ (0 ≤ k.toInt ∧ k.toInt ≤ 5)) : yOk 52 0 [(0, .ref 0), (1, .int k)] [] M (some (.int (-1))) M := by
  refine yOk.adv 3 (pc' := 3) (lv' := [(0, .ref 0), (1, .int k)]) (st' := [.int 5, .int 0, .int k]) (M' := M) rfl ?_
  refine yOk.call (M1 := M) _ rfl rfl rfl rfl rfl (m_fromV M k 0 5 0 5 rfl rfl 0 (Or.inr ⟨h, rfl⟩)) ?_
  show yOk 52 6 [(0, .ref 0), (1, .int k)] [.int 0] M _ _
  refine yOk.if1 .eq _ _ _ _ rfl (fun c1 => ?_) (fun c1 => ?_)
  · refine yOk.adv 1 (pc' := 19) (lv' := [(0, .ref 0), (1, .int k)]) (st' := [.int (-1)]) (M' := M) rfl ?_
    exact yOk.ret _ rfl rfl rfl
  · exact absurd c1 (by decide)
theorem m_keep_0 (M : zMm) (n : Nat) (hs : M.1 1 3 = nI n) (hn : n ≤ 24) : yOk 51 0 [(0, .ref 0), (1, .int 0)] [] M (some (.int (nI n))) (zup (zcpm (zcpm (zcpm (zup (zup (zup (zup (zup M 61 0 (M.1 1 0)) 61 1 (M.1 1 1)) 61 2 (M.1 1 2)) 61 3 0) 61 3 (nI n)) 2 0 62 0 n) 3 0 63 0 n) 4 0 64 0 n) 55 0 (vp_nar .boolean 1)) := by
  refine yOk.adv 3 (pc' := 3) (lv' := [(0, .ref 0), (1, .int 0)]) (st' := [.int 5, .int 0, .int 0]) (M' := M) rfl ?_
  refine yOk.call (M1 := M) _ rfl rfl rfl rfl rfl (m_fromV M 0 0 5 0 5 rfl rfl 1 (Or.inl ⟨by decide, rfl⟩)) ?_
  show yOk 51 6 [(0, .ref 0), (1, .int 0)] [.int 1] M _ _
  refine yOk.if1 .ne _ _ _ _ rfl (fun c1 => ?_) (fun c1 => ?_)
  · refine yOk.adv 6 (pc' := 21) (lv' := [(0, .ref 0), (1, .int 0)]) (st' := [.ref 1, .ref 61]) (M' := M) rfl ?_
    refine yOk.call (M1 := zcpm (zcpm (zcpm (zup (zup (zup (zup (zup M 61 0 (M.1 1 0)) 61 1 (M.1 1 1)) 61 2 (M.1 1 2)) 61 3 0) 61 3 (nI n)) 2 0 62 0 n) 3 0 63 0 n) 4 0 64 0 n) _ rfl rfl rfl rfl rfl (m_copy_61_1 M n hs hn) ?_
    show yOk 51 24 [(0, .ref 0), (1, .int 0)] [] (zcpm (zcpm (zcpm (zup (zup (zup (zup (zup M 61 0 (M.1 1 0)) 61 1 (M.1 1 1)) 61 2 (M.1 1 2)) 61 3 0) 61 3 (nI n)) 2 0 62 0 n) 3 0 63 0 n) 4 0 64 0 n) _ _
    refine yOk.adv 8 (pc' := 38) (lv' := [(0, .ref 0), (1, .int 0)]) (st' := [.int ((zup (zcpm (zcpm (zcpm (zup (zup (zup (zup (zup M 61 0 (M.1 1 0)) 61 1 (M.1 1 1)) 61 2 (M.1 1 2)) 61 3 0) 61 3 (nI n)) 2 0 62 0 n) 3 0 63 0 n) 4 0 64 0 n) 55 0 (vp_nar .boolean 1)).1 1 3)]) (M' := zup (zcpm (zcpm (zcpm (zup (zup (zup (zup (zup M 61 0 (M.1 1 0)) 61 1 (M.1 1 1)) 61 2 (M.1 1 2)) 61 3 0) 61 3 (nI n)) 2 0 62 0 n) 3 0 63 0 n) 4 0 64 0 n) 55 0 (vp_nar .boolean 1)) rfl ?_
    have e : (zup (zcpm (zcpm (zcpm (zup (zup (zup (zup (zup M 61 0 (M.1 1 0)) 61 1 (M.1 1 1)) 61 2 (M.1 1 2)) 61 3 0) 61 3 (nI n)) 2 0 62 0 n) 3 0 63 0 n) 4 0 64 0 n) 55 0 (vp_nar .boolean 1)).1 1 3 = nI n := by rw [← hs]; unfold zcpm zup; simp
    rw [e]
    exact yOk.ret _ rfl rfl rfl
  · exact absurd c1 (by decide)
theorem m_load_0_no (M : zMm) (h : M.1 55 0 = 0) : yOk 52 0 [(0, .ref 0), (1, .int 0)] [] M (some (.int (-1))) M := by
  refine yOk.adv 3 (pc' := 3) (lv' := [(0, .ref 0), (1, .int 0)]) (st' := [.int 5, .int 0, .int 0]) (M' := M) rfl ?_
  refine yOk.call (M1 := M) _ rfl rfl rfl rfl rfl (m_fromV M 0 0 5 0 5 rfl rfl 1 (Or.inl ⟨by decide, rfl⟩)) ?_
  show yOk 52 6 [(0, .ref 0), (1, .int 0)] [.int 1] M _ _
  refine yOk.if1 .eq _ _ _ _ rfl (fun c1 => ?_) (fun c1 => ?_)
  · exact absurd c1 (by decide)
  · refine yOk.adv 4 (pc' := 15) (lv' := [(0, .ref 0), (1, .int 0)]) (st' := [.int (M.1 55 0)]) (M' := M) rfl ?_
    rw [h]
    refine yOk.if1 .ne _ _ _ _ rfl (fun c2 => ?_) (fun c2 => ?_)
    · exact absurd c2 (by decide)
    · refine yOk.adv 1 (pc' := 19) (lv' := [(0, .ref 0), (1, .int 0)]) (st' := [.int (-1)]) (M' := M) rfl ?_
      exact yOk.ret _ rfl rfl rfl
theorem m_load_0 (M : zMm) (h : ¬ M.1 55 0 = 0) (n : Nat) (hs : M.1 61 3 = nI n) (hn : n ≤ 24) : yOk 52 0 [(0, .ref 0), (1, .int 0)] [] M (some (.int (nI n))) (zcpm (zcpm (zcpm (zup (zup (zup (zup (zup M 1 0 (M.1 61 0)) 1 1 (M.1 61 1)) 1 2 (M.1 61 2)) 1 3 0) 1 3 (nI n)) 62 0 2 0 n) 63 0 3 0 n) 64 0 4 0 n) := by
  refine yOk.adv 3 (pc' := 3) (lv' := [(0, .ref 0), (1, .int 0)]) (st' := [.int 5, .int 0, .int 0]) (M' := M) rfl ?_
  refine yOk.call (M1 := M) _ rfl rfl rfl rfl rfl (m_fromV M 0 0 5 0 5 rfl rfl 1 (Or.inl ⟨by decide, rfl⟩)) ?_
  show yOk 52 6 [(0, .ref 0), (1, .int 0)] [.int 1] M _ _
  refine yOk.if1 .eq _ _ _ _ rfl (fun c1 => ?_) (fun c1 => ?_)
  · exact absurd c1 (by decide)
  · refine yOk.adv 4 (pc' := 15) (lv' := [(0, .ref 0), (1, .int 0)]) (st' := [.int (M.1 55 0)]) (M' := M) rfl ?_
    refine yOk.if1 .ne _ _ _ _ rfl (fun c2 => ?_) (fun c2 => ?_)
    · refine yOk.adv 6 (pc' := 30) (lv' := [(0, .ref 0), (1, .int 0)]) (st' := [.ref 61, .ref 1]) (M' := M) rfl ?_
      refine yOk.call (M1 := zcpm (zcpm (zcpm (zup (zup (zup (zup (zup M 1 0 (M.1 61 0)) 1 1 (M.1 61 1)) 1 2 (M.1 61 2)) 1 3 0) 1 3 (nI n)) 62 0 2 0 n) 63 0 3 0 n) 64 0 4 0 n) _ rfl rfl rfl rfl rfl (m_copy_1_61 M n hs hn) ?_
      show yOk 52 33 [(0, .ref 0), (1, .int 0)] [] (zcpm (zcpm (zcpm (zup (zup (zup (zup (zup M 1 0 (M.1 61 0)) 1 1 (M.1 61 1)) 1 2 (M.1 61 2)) 1 3 0) 1 3 (nI n)) 62 0 2 0 n) 63 0 3 0 n) 64 0 4 0 n) _ _
      refine yOk.adv 3 (pc' := 40) (lv' := [(0, .ref 0), (1, .int 0)]) (st' := [.int ((zcpm (zcpm (zcpm (zup (zup (zup (zup (zup M 1 0 (M.1 61 0)) 1 1 (M.1 61 1)) 1 2 (M.1 61 2)) 1 3 0) 1 3 (nI n)) 62 0 2 0 n) 63 0 3 0 n) 64 0 4 0 n).1 1 3)]) (M' := zcpm (zcpm (zcpm (zup (zup (zup (zup (zup M 1 0 (M.1 61 0)) 1 1 (M.1 61 1)) 1 2 (M.1 61 2)) 1 3 0) 1 3 (nI n)) 62 0 2 0 n) 63 0 3 0 n) 64 0 4 0 n) rfl ?_
      have e : (zcpm (zcpm (zcpm (zup (zup (zup (zup (zup M 1 0 (M.1 61 0)) 1 1 (M.1 61 1)) 1 2 (M.1 61 2)) 1 3 0) 1 3 (nI n)) 62 0 2 0 n) 63 0 3 0 n) 64 0 4 0 n).1 1 3 = nI n := by unfold zcpm zup; simp
      rw [e]
      exact yOk.ret _ rfl rfl rfl
    · exact absurd (zne_f c2) h
theorem m_keep_1 (M : zMm) (n : Nat) (hs : M.1 1 3 = nI n) (hn : n ≤ 24) : yOk 51 0 [(0, .ref 0), (1, .int 1)] [] M (some (.int (nI n))) (zup (zcpm (zcpm (zcpm (zup (zup (zup (zup (zup M 65 0 (M.1 1 0)) 65 1 (M.1 1 1)) 65 2 (M.1 1 2)) 65 3 0) 65 3 (nI n)) 2 0 66 0 n) 3 0 67 0 n) 4 0 68 0 n) 55 1 (vp_nar .boolean 1)) := by
  refine yOk.adv 3 (pc' := 3) (lv' := [(0, .ref 0), (1, .int 1)]) (st' := [.int 5, .int 0, .int 1]) (M' := M) rfl ?_
  refine yOk.call (M1 := M) _ rfl rfl rfl rfl rfl (m_fromV M 1 0 5 0 5 rfl rfl 1 (Or.inl ⟨by decide, rfl⟩)) ?_
  show yOk 51 6 [(0, .ref 0), (1, .int 1)] [.int 1] M _ _
  refine yOk.if1 .ne _ _ _ _ rfl (fun c1 => ?_) (fun c1 => ?_)
  · refine yOk.adv 6 (pc' := 21) (lv' := [(0, .ref 0), (1, .int 1)]) (st' := [.ref 1, .ref 65]) (M' := M) rfl ?_
    refine yOk.call (M1 := zcpm (zcpm (zcpm (zup (zup (zup (zup (zup M 65 0 (M.1 1 0)) 65 1 (M.1 1 1)) 65 2 (M.1 1 2)) 65 3 0) 65 3 (nI n)) 2 0 66 0 n) 3 0 67 0 n) 4 0 68 0 n) _ rfl rfl rfl rfl rfl (m_copy_65_1 M n hs hn) ?_
    show yOk 51 24 [(0, .ref 0), (1, .int 1)] [] (zcpm (zcpm (zcpm (zup (zup (zup (zup (zup M 65 0 (M.1 1 0)) 65 1 (M.1 1 1)) 65 2 (M.1 1 2)) 65 3 0) 65 3 (nI n)) 2 0 66 0 n) 3 0 67 0 n) 4 0 68 0 n) _ _
    refine yOk.adv 8 (pc' := 38) (lv' := [(0, .ref 0), (1, .int 1)]) (st' := [.int ((zup (zcpm (zcpm (zcpm (zup (zup (zup (zup (zup M 65 0 (M.1 1 0)) 65 1 (M.1 1 1)) 65 2 (M.1 1 2)) 65 3 0) 65 3 (nI n)) 2 0 66 0 n) 3 0 67 0 n) 4 0 68 0 n) 55 1 (vp_nar .boolean 1)).1 1 3)]) (M' := zup (zcpm (zcpm (zcpm (zup (zup (zup (zup (zup M 65 0 (M.1 1 0)) 65 1 (M.1 1 1)) 65 2 (M.1 1 2)) 65 3 0) 65 3 (nI n)) 2 0 66 0 n) 3 0 67 0 n) 4 0 68 0 n) 55 1 (vp_nar .boolean 1)) rfl ?_
    have e : (zup (zcpm (zcpm (zcpm (zup (zup (zup (zup (zup M 65 0 (M.1 1 0)) 65 1 (M.1 1 1)) 65 2 (M.1 1 2)) 65 3 0) 65 3 (nI n)) 2 0 66 0 n) 3 0 67 0 n) 4 0 68 0 n) 55 1 (vp_nar .boolean 1)).1 1 3 = nI n := by rw [← hs]; unfold zcpm zup; simp
    rw [e]
    exact yOk.ret _ rfl rfl rfl
  · exact absurd c1 (by decide)
theorem m_load_1_no (M : zMm) (h : M.1 55 1 = 0) : yOk 52 0 [(0, .ref 0), (1, .int 1)] [] M (some (.int (-1))) M := by
  refine yOk.adv 3 (pc' := 3) (lv' := [(0, .ref 0), (1, .int 1)]) (st' := [.int 5, .int 0, .int 1]) (M' := M) rfl ?_
  refine yOk.call (M1 := M) _ rfl rfl rfl rfl rfl (m_fromV M 1 0 5 0 5 rfl rfl 1 (Or.inl ⟨by decide, rfl⟩)) ?_
  show yOk 52 6 [(0, .ref 0), (1, .int 1)] [.int 1] M _ _
  refine yOk.if1 .eq _ _ _ _ rfl (fun c1 => ?_) (fun c1 => ?_)
  · exact absurd c1 (by decide)
  · refine yOk.adv 4 (pc' := 15) (lv' := [(0, .ref 0), (1, .int 1)]) (st' := [.int (M.1 55 1)]) (M' := M) rfl ?_
    rw [h]
    refine yOk.if1 .ne _ _ _ _ rfl (fun c2 => ?_) (fun c2 => ?_)
    · exact absurd c2 (by decide)
    · refine yOk.adv 1 (pc' := 19) (lv' := [(0, .ref 0), (1, .int 1)]) (st' := [.int (-1)]) (M' := M) rfl ?_
      exact yOk.ret _ rfl rfl rfl
theorem m_load_1 (M : zMm) (h : ¬ M.1 55 1 = 0) (n : Nat) (hs : M.1 65 3 = nI n) (hn : n ≤ 24) : yOk 52 0 [(0, .ref 0), (1, .int 1)] [] M (some (.int (nI n))) (zcpm (zcpm (zcpm (zup (zup (zup (zup (zup M 1 0 (M.1 65 0)) 1 1 (M.1 65 1)) 1 2 (M.1 65 2)) 1 3 0) 1 3 (nI n)) 66 0 2 0 n) 67 0 3 0 n) 68 0 4 0 n) := by
  refine yOk.adv 3 (pc' := 3) (lv' := [(0, .ref 0), (1, .int 1)]) (st' := [.int 5, .int 0, .int 1]) (M' := M) rfl ?_
  refine yOk.call (M1 := M) _ rfl rfl rfl rfl rfl (m_fromV M 1 0 5 0 5 rfl rfl 1 (Or.inl ⟨by decide, rfl⟩)) ?_
  show yOk 52 6 [(0, .ref 0), (1, .int 1)] [.int 1] M _ _
  refine yOk.if1 .eq _ _ _ _ rfl (fun c1 => ?_) (fun c1 => ?_)
  · exact absurd c1 (by decide)
  · refine yOk.adv 4 (pc' := 15) (lv' := [(0, .ref 0), (1, .int 1)]) (st' := [.int (M.1 55 1)]) (M' := M) rfl ?_
    refine yOk.if1 .ne _ _ _ _ rfl (fun c2 => ?_) (fun c2 => ?_)
    · refine yOk.adv 6 (pc' := 30) (lv' := [(0, .ref 0), (1, .int 1)]) (st' := [.ref 65, .ref 1]) (M' := M) rfl ?_
      refine yOk.call (M1 := zcpm (zcpm (zcpm (zup (zup (zup (zup (zup M 1 0 (M.1 65 0)) 1 1 (M.1 65 1)) 1 2 (M.1 65 2)) 1 3 0) 1 3 (nI n)) 66 0 2 0 n) 67 0 3 0 n) 68 0 4 0 n) _ rfl rfl rfl rfl rfl (m_copy_1_65 M n hs hn) ?_
      show yOk 52 33 [(0, .ref 0), (1, .int 1)] [] (zcpm (zcpm (zcpm (zup (zup (zup (zup (zup M 1 0 (M.1 65 0)) 1 1 (M.1 65 1)) 1 2 (M.1 65 2)) 1 3 0) 1 3 (nI n)) 66 0 2 0 n) 67 0 3 0 n) 68 0 4 0 n) _ _
      refine yOk.adv 3 (pc' := 40) (lv' := [(0, .ref 0), (1, .int 1)]) (st' := [.int ((zcpm (zcpm (zcpm (zup (zup (zup (zup (zup M 1 0 (M.1 65 0)) 1 1 (M.1 65 1)) 1 2 (M.1 65 2)) 1 3 0) 1 3 (nI n)) 66 0 2 0 n) 67 0 3 0 n) 68 0 4 0 n).1 1 3)]) (M' := zcpm (zcpm (zcpm (zup (zup (zup (zup (zup M 1 0 (M.1 65 0)) 1 1 (M.1 65 1)) 1 2 (M.1 65 2)) 1 3 0) 1 3 (nI n)) 66 0 2 0 n) 67 0 3 0 n) 68 0 4 0 n) rfl ?_
      have e : (zcpm (zcpm (zcpm (zup (zup (zup (zup (zup M 1 0 (M.1 65 0)) 1 1 (M.1 65 1)) 1 2 (M.1 65 2)) 1 3 0) 1 3 (nI n)) 66 0 2 0 n) 67 0 3 0 n) 68 0 4 0 n).1 1 3 = nI n := by unfold zcpm zup; simp
      rw [e]
      exact yOk.ret _ rfl rfl rfl
    · exact absurd (zne_f c2) h
theorem m_keep_2 (M : zMm) (n : Nat) (hs : M.1 1 3 = nI n) (hn : n ≤ 24) : yOk 51 0 [(0, .ref 0), (1, .int 2)] [] M (some (.int (nI n))) (zup (zcpm (zcpm (zcpm (zup (zup (zup (zup (zup M 69 0 (M.1 1 0)) 69 1 (M.1 1 1)) 69 2 (M.1 1 2)) 69 3 0) 69 3 (nI n)) 2 0 70 0 n) 3 0 71 0 n) 4 0 72 0 n) 55 2 (vp_nar .boolean 1)) := by
  refine yOk.adv 3 (pc' := 3) (lv' := [(0, .ref 0), (1, .int 2)]) (st' := [.int 5, .int 0, .int 2]) (M' := M) rfl ?_
  refine yOk.call (M1 := M) _ rfl rfl rfl rfl rfl (m_fromV M 2 0 5 0 5 rfl rfl 1 (Or.inl ⟨by decide, rfl⟩)) ?_
  show yOk 51 6 [(0, .ref 0), (1, .int 2)] [.int 1] M _ _
  refine yOk.if1 .ne _ _ _ _ rfl (fun c1 => ?_) (fun c1 => ?_)
  · refine yOk.adv 6 (pc' := 21) (lv' := [(0, .ref 0), (1, .int 2)]) (st' := [.ref 1, .ref 69]) (M' := M) rfl ?_
    refine yOk.call (M1 := zcpm (zcpm (zcpm (zup (zup (zup (zup (zup M 69 0 (M.1 1 0)) 69 1 (M.1 1 1)) 69 2 (M.1 1 2)) 69 3 0) 69 3 (nI n)) 2 0 70 0 n) 3 0 71 0 n) 4 0 72 0 n) _ rfl rfl rfl rfl rfl (m_copy_69_1 M n hs hn) ?_
    show yOk 51 24 [(0, .ref 0), (1, .int 2)] [] (zcpm (zcpm (zcpm (zup (zup (zup (zup (zup M 69 0 (M.1 1 0)) 69 1 (M.1 1 1)) 69 2 (M.1 1 2)) 69 3 0) 69 3 (nI n)) 2 0 70 0 n) 3 0 71 0 n) 4 0 72 0 n) _ _
    refine yOk.adv 8 (pc' := 38) (lv' := [(0, .ref 0), (1, .int 2)]) (st' := [.int ((zup (zcpm (zcpm (zcpm (zup (zup (zup (zup (zup M 69 0 (M.1 1 0)) 69 1 (M.1 1 1)) 69 2 (M.1 1 2)) 69 3 0) 69 3 (nI n)) 2 0 70 0 n) 3 0 71 0 n) 4 0 72 0 n) 55 2 (vp_nar .boolean 1)).1 1 3)]) (M' := zup (zcpm (zcpm (zcpm (zup (zup (zup (zup (zup M 69 0 (M.1 1 0)) 69 1 (M.1 1 1)) 69 2 (M.1 1 2)) 69 3 0) 69 3 (nI n)) 2 0 70 0 n) 3 0 71 0 n) 4 0 72 0 n) 55 2 (vp_nar .boolean 1)) rfl ?_
    have e : (zup (zcpm (zcpm (zcpm (zup (zup (zup (zup (zup M 69 0 (M.1 1 0)) 69 1 (M.1 1 1)) 69 2 (M.1 1 2)) 69 3 0) 69 3 (nI n)) 2 0 70 0 n) 3 0 71 0 n) 4 0 72 0 n) 55 2 (vp_nar .boolean 1)).1 1 3 = nI n := by rw [← hs]; unfold zcpm zup; simp
    rw [e]
    exact yOk.ret _ rfl rfl rfl
  · exact absurd c1 (by decide)
theorem m_load_2_no (M : zMm) (h : M.1 55 2 = 0) : yOk 52 0 [(0, .ref 0), (1, .int 2)] [] M (some (.int (-1))) M := by
  refine yOk.adv 3 (pc' := 3) (lv' := [(0, .ref 0), (1, .int 2)]) (st' := [.int 5, .int 0, .int 2]) (M' := M) rfl ?_
  refine yOk.call (M1 := M) _ rfl rfl rfl rfl rfl (m_fromV M 2 0 5 0 5 rfl rfl 1 (Or.inl ⟨by decide, rfl⟩)) ?_
  show yOk 52 6 [(0, .ref 0), (1, .int 2)] [.int 1] M _ _
  refine yOk.if1 .eq _ _ _ _ rfl (fun c1 => ?_) (fun c1 => ?_)
  · exact absurd c1 (by decide)
  · refine yOk.adv 4 (pc' := 15) (lv' := [(0, .ref 0), (1, .int 2)]) (st' := [.int (M.1 55 2)]) (M' := M) rfl ?_
    rw [h]
    refine yOk.if1 .ne _ _ _ _ rfl (fun c2 => ?_) (fun c2 => ?_)
    · exact absurd c2 (by decide)
    · refine yOk.adv 1 (pc' := 19) (lv' := [(0, .ref 0), (1, .int 2)]) (st' := [.int (-1)]) (M' := M) rfl ?_
      exact yOk.ret _ rfl rfl rfl
theorem m_load_2 (M : zMm) (h : ¬ M.1 55 2 = 0) (n : Nat) (hs : M.1 69 3 = nI n) (hn : n ≤ 24) : yOk 52 0 [(0, .ref 0), (1, .int 2)] [] M (some (.int (nI n))) (zcpm (zcpm (zcpm (zup (zup (zup (zup (zup M 1 0 (M.1 69 0)) 1 1 (M.1 69 1)) 1 2 (M.1 69 2)) 1 3 0) 1 3 (nI n)) 70 0 2 0 n) 71 0 3 0 n) 72 0 4 0 n) := by
  refine yOk.adv 3 (pc' := 3) (lv' := [(0, .ref 0), (1, .int 2)]) (st' := [.int 5, .int 0, .int 2]) (M' := M) rfl ?_
  refine yOk.call (M1 := M) _ rfl rfl rfl rfl rfl (m_fromV M 2 0 5 0 5 rfl rfl 1 (Or.inl ⟨by decide, rfl⟩)) ?_
  show yOk 52 6 [(0, .ref 0), (1, .int 2)] [.int 1] M _ _
  refine yOk.if1 .eq _ _ _ _ rfl (fun c1 => ?_) (fun c1 => ?_)
  · exact absurd c1 (by decide)
  · refine yOk.adv 4 (pc' := 15) (lv' := [(0, .ref 0), (1, .int 2)]) (st' := [.int (M.1 55 2)]) (M' := M) rfl ?_
    refine yOk.if1 .ne _ _ _ _ rfl (fun c2 => ?_) (fun c2 => ?_)
    · refine yOk.adv 6 (pc' := 30) (lv' := [(0, .ref 0), (1, .int 2)]) (st' := [.ref 69, .ref 1]) (M' := M) rfl ?_
      refine yOk.call (M1 := zcpm (zcpm (zcpm (zup (zup (zup (zup (zup M 1 0 (M.1 69 0)) 1 1 (M.1 69 1)) 1 2 (M.1 69 2)) 1 3 0) 1 3 (nI n)) 70 0 2 0 n) 71 0 3 0 n) 72 0 4 0 n) _ rfl rfl rfl rfl rfl (m_copy_1_69 M n hs hn) ?_
      show yOk 52 33 [(0, .ref 0), (1, .int 2)] [] (zcpm (zcpm (zcpm (zup (zup (zup (zup (zup M 1 0 (M.1 69 0)) 1 1 (M.1 69 1)) 1 2 (M.1 69 2)) 1 3 0) 1 3 (nI n)) 70 0 2 0 n) 71 0 3 0 n) 72 0 4 0 n) _ _
      refine yOk.adv 3 (pc' := 40) (lv' := [(0, .ref 0), (1, .int 2)]) (st' := [.int ((zcpm (zcpm (zcpm (zup (zup (zup (zup (zup M 1 0 (M.1 69 0)) 1 1 (M.1 69 1)) 1 2 (M.1 69 2)) 1 3 0) 1 3 (nI n)) 70 0 2 0 n) 71 0 3 0 n) 72 0 4 0 n).1 1 3)]) (M' := zcpm (zcpm (zcpm (zup (zup (zup (zup (zup M 1 0 (M.1 69 0)) 1 1 (M.1 69 1)) 1 2 (M.1 69 2)) 1 3 0) 1 3 (nI n)) 70 0 2 0 n) 71 0 3 0 n) 72 0 4 0 n) rfl ?_
      have e : (zcpm (zcpm (zcpm (zup (zup (zup (zup (zup M 1 0 (M.1 69 0)) 1 1 (M.1 69 1)) 1 2 (M.1 69 2)) 1 3 0) 1 3 (nI n)) 70 0 2 0 n) 71 0 3 0 n) 72 0 4 0 n).1 1 3 = nI n := by unfold zcpm zup; simp
      rw [e]
      exact yOk.ret _ rfl rfl rfl
    · exact absurd (zne_f c2) h
theorem m_keep_3 (M : zMm) (n : Nat) (hs : M.1 1 3 = nI n) (hn : n ≤ 24) : yOk 51 0 [(0, .ref 0), (1, .int 3)] [] M (some (.int (nI n))) (zup (zcpm (zcpm (zcpm (zup (zup (zup (zup (zup M 73 0 (M.1 1 0)) 73 1 (M.1 1 1)) 73 2 (M.1 1 2)) 73 3 0) 73 3 (nI n)) 2 0 74 0 n) 3 0 75 0 n) 4 0 76 0 n) 55 3 (vp_nar .boolean 1)) := by
  refine yOk.adv 3 (pc' := 3) (lv' := [(0, .ref 0), (1, .int 3)]) (st' := [.int 5, .int 0, .int 3]) (M' := M) rfl ?_
  refine yOk.call (M1 := M) _ rfl rfl rfl rfl rfl (m_fromV M 3 0 5 0 5 rfl rfl 1 (Or.inl ⟨by decide, rfl⟩)) ?_
  show yOk 51 6 [(0, .ref 0), (1, .int 3)] [.int 1] M _ _
  refine yOk.if1 .ne _ _ _ _ rfl (fun c1 => ?_) (fun c1 => ?_)
  · refine yOk.adv 6 (pc' := 21) (lv' := [(0, .ref 0), (1, .int 3)]) (st' := [.ref 1, .ref 73]) (M' := M) rfl ?_
    refine yOk.call (M1 := zcpm (zcpm (zcpm (zup (zup (zup (zup (zup M 73 0 (M.1 1 0)) 73 1 (M.1 1 1)) 73 2 (M.1 1 2)) 73 3 0) 73 3 (nI n)) 2 0 74 0 n) 3 0 75 0 n) 4 0 76 0 n) _ rfl rfl rfl rfl rfl (m_copy_73_1 M n hs hn) ?_
    show yOk 51 24 [(0, .ref 0), (1, .int 3)] [] (zcpm (zcpm (zcpm (zup (zup (zup (zup (zup M 73 0 (M.1 1 0)) 73 1 (M.1 1 1)) 73 2 (M.1 1 2)) 73 3 0) 73 3 (nI n)) 2 0 74 0 n) 3 0 75 0 n) 4 0 76 0 n) _ _
    refine yOk.adv 8 (pc' := 38) (lv' := [(0, .ref 0), (1, .int 3)]) (st' := [.int ((zup (zcpm (zcpm (zcpm (zup (zup (zup (zup (zup M 73 0 (M.1 1 0)) 73 1 (M.1 1 1)) 73 2 (M.1 1 2)) 73 3 0) 73 3 (nI n)) 2 0 74 0 n) 3 0 75 0 n) 4 0 76 0 n) 55 3 (vp_nar .boolean 1)).1 1 3)]) (M' := zup (zcpm (zcpm (zcpm (zup (zup (zup (zup (zup M 73 0 (M.1 1 0)) 73 1 (M.1 1 1)) 73 2 (M.1 1 2)) 73 3 0) 73 3 (nI n)) 2 0 74 0 n) 3 0 75 0 n) 4 0 76 0 n) 55 3 (vp_nar .boolean 1)) rfl ?_
    have e : (zup (zcpm (zcpm (zcpm (zup (zup (zup (zup (zup M 73 0 (M.1 1 0)) 73 1 (M.1 1 1)) 73 2 (M.1 1 2)) 73 3 0) 73 3 (nI n)) 2 0 74 0 n) 3 0 75 0 n) 4 0 76 0 n) 55 3 (vp_nar .boolean 1)).1 1 3 = nI n := by rw [← hs]; unfold zcpm zup; simp
    rw [e]
    exact yOk.ret _ rfl rfl rfl
  · exact absurd c1 (by decide)
theorem m_load_3_no (M : zMm) (h : M.1 55 3 = 0) : yOk 52 0 [(0, .ref 0), (1, .int 3)] [] M (some (.int (-1))) M := by
  refine yOk.adv 3 (pc' := 3) (lv' := [(0, .ref 0), (1, .int 3)]) (st' := [.int 5, .int 0, .int 3]) (M' := M) rfl ?_
  refine yOk.call (M1 := M) _ rfl rfl rfl rfl rfl (m_fromV M 3 0 5 0 5 rfl rfl 1 (Or.inl ⟨by decide, rfl⟩)) ?_
  show yOk 52 6 [(0, .ref 0), (1, .int 3)] [.int 1] M _ _
  refine yOk.if1 .eq _ _ _ _ rfl (fun c1 => ?_) (fun c1 => ?_)
  · exact absurd c1 (by decide)
  · refine yOk.adv 4 (pc' := 15) (lv' := [(0, .ref 0), (1, .int 3)]) (st' := [.int (M.1 55 3)]) (M' := M) rfl ?_
    rw [h]
    refine yOk.if1 .ne _ _ _ _ rfl (fun c2 => ?_) (fun c2 => ?_)
    · exact absurd c2 (by decide)
    · refine yOk.adv 1 (pc' := 19) (lv' := [(0, .ref 0), (1, .int 3)]) (st' := [.int (-1)]) (M' := M) rfl ?_
      exact yOk.ret _ rfl rfl rfl
theorem m_load_3 (M : zMm) (h : ¬ M.1 55 3 = 0) (n : Nat) (hs : M.1 73 3 = nI n) (hn : n ≤ 24) : yOk 52 0 [(0, .ref 0), (1, .int 3)] [] M (some (.int (nI n))) (zcpm (zcpm (zcpm (zup (zup (zup (zup (zup M 1 0 (M.1 73 0)) 1 1 (M.1 73 1)) 1 2 (M.1 73 2)) 1 3 0) 1 3 (nI n)) 74 0 2 0 n) 75 0 3 0 n) 76 0 4 0 n) := by
  refine yOk.adv 3 (pc' := 3) (lv' := [(0, .ref 0), (1, .int 3)]) (st' := [.int 5, .int 0, .int 3]) (M' := M) rfl ?_
  refine yOk.call (M1 := M) _ rfl rfl rfl rfl rfl (m_fromV M 3 0 5 0 5 rfl rfl 1 (Or.inl ⟨by decide, rfl⟩)) ?_
  show yOk 52 6 [(0, .ref 0), (1, .int 3)] [.int 1] M _ _
  refine yOk.if1 .eq _ _ _ _ rfl (fun c1 => ?_) (fun c1 => ?_)
  · exact absurd c1 (by decide)
  · refine yOk.adv 4 (pc' := 15) (lv' := [(0, .ref 0), (1, .int 3)]) (st' := [.int (M.1 55 3)]) (M' := M) rfl ?_
    refine yOk.if1 .ne _ _ _ _ rfl (fun c2 => ?_) (fun c2 => ?_)
    · refine yOk.adv 6 (pc' := 30) (lv' := [(0, .ref 0), (1, .int 3)]) (st' := [.ref 73, .ref 1]) (M' := M) rfl ?_
      refine yOk.call (M1 := zcpm (zcpm (zcpm (zup (zup (zup (zup (zup M 1 0 (M.1 73 0)) 1 1 (M.1 73 1)) 1 2 (M.1 73 2)) 1 3 0) 1 3 (nI n)) 74 0 2 0 n) 75 0 3 0 n) 76 0 4 0 n) _ rfl rfl rfl rfl rfl (m_copy_1_73 M n hs hn) ?_
      show yOk 52 33 [(0, .ref 0), (1, .int 3)] [] (zcpm (zcpm (zcpm (zup (zup (zup (zup (zup M 1 0 (M.1 73 0)) 1 1 (M.1 73 1)) 1 2 (M.1 73 2)) 1 3 0) 1 3 (nI n)) 74 0 2 0 n) 75 0 3 0 n) 76 0 4 0 n) _ _
      refine yOk.adv 3 (pc' := 40) (lv' := [(0, .ref 0), (1, .int 3)]) (st' := [.int ((zcpm (zcpm (zcpm (zup (zup (zup (zup (zup M 1 0 (M.1 73 0)) 1 1 (M.1 73 1)) 1 2 (M.1 73 2)) 1 3 0) 1 3 (nI n)) 74 0 2 0 n) 75 0 3 0 n) 76 0 4 0 n).1 1 3)]) (M' := zcpm (zcpm (zcpm (zup (zup (zup (zup (zup M 1 0 (M.1 73 0)) 1 1 (M.1 73 1)) 1 2 (M.1 73 2)) 1 3 0) 1 3 (nI n)) 74 0 2 0 n) 75 0 3 0 n) 76 0 4 0 n) rfl ?_
      have e : (zcpm (zcpm (zcpm (zup (zup (zup (zup (zup M 1 0 (M.1 73 0)) 1 1 (M.1 73 1)) 1 2 (M.1 73 2)) 1 3 0) 1 3 (nI n)) 74 0 2 0 n) 75 0 3 0 n) 76 0 4 0 n).1 1 3 = nI n := by unfold zcpm zup; simp
      rw [e]
      exact yOk.ret _ rfl rfl rfl
    · exact absurd (zne_f c2) h
theorem m_keep_4 (M : zMm) (n : Nat) (hs : M.1 1 3 = nI n) (hn : n ≤ 24) : yOk 51 0 [(0, .ref 0), (1, .int 4)] [] M (some (.int (nI n))) (zup (zcpm (zcpm (zcpm (zup (zup (zup (zup (zup M 77 0 (M.1 1 0)) 77 1 (M.1 1 1)) 77 2 (M.1 1 2)) 77 3 0) 77 3 (nI n)) 2 0 78 0 n) 3 0 79 0 n) 4 0 80 0 n) 55 4 (vp_nar .boolean 1)) := by
  refine yOk.adv 3 (pc' := 3) (lv' := [(0, .ref 0), (1, .int 4)]) (st' := [.int 5, .int 0, .int 4]) (M' := M) rfl ?_
  refine yOk.call (M1 := M) _ rfl rfl rfl rfl rfl (m_fromV M 4 0 5 0 5 rfl rfl 1 (Or.inl ⟨by decide, rfl⟩)) ?_
  show yOk 51 6 [(0, .ref 0), (1, .int 4)] [.int 1] M _ _
  refine yOk.if1 .ne _ _ _ _ rfl (fun c1 => ?_) (fun c1 => ?_)
  · refine yOk.adv 6 (pc' := 21) (lv' := [(0, .ref 0), (1, .int 4)]) (st' := [.ref 1, .ref 77]) (M' := M) rfl ?_
    refine yOk.call (M1 := zcpm (zcpm (zcpm (zup (zup (zup (zup (zup M 77 0 (M.1 1 0)) 77 1 (M.1 1 1)) 77 2 (M.1 1 2)) 77 3 0) 77 3 (nI n)) 2 0 78 0 n) 3 0 79 0 n) 4 0 80 0 n) _ rfl rfl rfl rfl rfl (m_copy_77_1 M n hs hn) ?_
    show yOk 51 24 [(0, .ref 0), (1, .int 4)] [] (zcpm (zcpm (zcpm (zup (zup (zup (zup (zup M 77 0 (M.1 1 0)) 77 1 (M.1 1 1)) 77 2 (M.1 1 2)) 77 3 0) 77 3 (nI n)) 2 0 78 0 n) 3 0 79 0 n) 4 0 80 0 n) _ _
    refine yOk.adv 8 (pc' := 38) (lv' := [(0, .ref 0), (1, .int 4)]) (st' := [.int ((zup (zcpm (zcpm (zcpm (zup (zup (zup (zup (zup M 77 0 (M.1 1 0)) 77 1 (M.1 1 1)) 77 2 (M.1 1 2)) 77 3 0) 77 3 (nI n)) 2 0 78 0 n) 3 0 79 0 n) 4 0 80 0 n) 55 4 (vp_nar .boolean 1)).1 1 3)]) (M' := zup (zcpm (zcpm (zcpm (zup (zup (zup (zup (zup M 77 0 (M.1 1 0)) 77 1 (M.1 1 1)) 77 2 (M.1 1 2)) 77 3 0) 77 3 (nI n)) 2 0 78 0 n) 3 0 79 0 n) 4 0 80 0 n) 55 4 (vp_nar .boolean 1)) rfl ?_
    have e : (zup (zcpm (zcpm (zcpm (zup (zup (zup (zup (zup M 77 0 (M.1 1 0)) 77 1 (M.1 1 1)) 77 2 (M.1 1 2)) 77 3 0) 77 3 (nI n)) 2 0 78 0 n) 3 0 79 0 n) 4 0 80 0 n) 55 4 (vp_nar .boolean 1)).1 1 3 = nI n := by rw [← hs]; unfold zcpm zup; simp
    rw [e]
    exact yOk.ret _ rfl rfl rfl
  · exact absurd c1 (by decide)
theorem m_load_4_no (M : zMm) (h : M.1 55 4 = 0) : yOk 52 0 [(0, .ref 0), (1, .int 4)] [] M (some (.int (-1))) M := by
  refine yOk.adv 3 (pc' := 3) (lv' := [(0, .ref 0), (1, .int 4)]) (st' := [.int 5, .int 0, .int 4]) (M' := M) rfl ?_
  refine yOk.call (M1 := M) _ rfl rfl rfl rfl rfl (m_fromV M 4 0 5 0 5 rfl rfl 1 (Or.inl ⟨by decide, rfl⟩)) ?_
  show yOk 52 6 [(0, .ref 0), (1, .int 4)] [.int 1] M _ _
  refine yOk.if1 .eq _ _ _ _ rfl (fun c1 => ?_) (fun c1 => ?_)
  · exact absurd c1 (by decide)
  · refine yOk.adv 4 (pc' := 15) (lv' := [(0, .ref 0), (1, .int 4)]) (st' := [.int (M.1 55 4)]) (M' := M) rfl ?_
    rw [h]
    refine yOk.if1 .ne _ _ _ _ rfl (fun c2 => ?_) (fun c2 => ?_)
    · exact absurd c2 (by decide)
    · refine yOk.adv 1 (pc' := 19) (lv' := [(0, .ref 0), (1, .int 4)]) (st' := [.int (-1)]) (M' := M) rfl ?_
      exact yOk.ret _ rfl rfl rfl
theorem m_load_4 (M : zMm) (h : ¬ M.1 55 4 = 0) (n : Nat) (hs : M.1 77 3 = nI n) (hn : n ≤ 24) : yOk 52 0 [(0, .ref 0), (1, .int 4)] [] M (some (.int (nI n))) (zcpm (zcpm (zcpm (zup (zup (zup (zup (zup M 1 0 (M.1 77 0)) 1 1 (M.1 77 1)) 1 2 (M.1 77 2)) 1 3 0) 1 3 (nI n)) 78 0 2 0 n) 79 0 3 0 n) 80 0 4 0 n) := by
  refine yOk.adv 3 (pc' := 3) (lv' := [(0, .ref 0), (1, .int 4)]) (st' := [.int 5, .int 0, .int 4]) (M' := M) rfl ?_
  refine yOk.call (M1 := M) _ rfl rfl rfl rfl rfl (m_fromV M 4 0 5 0 5 rfl rfl 1 (Or.inl ⟨by decide, rfl⟩)) ?_
  show yOk 52 6 [(0, .ref 0), (1, .int 4)] [.int 1] M _ _
  refine yOk.if1 .eq _ _ _ _ rfl (fun c1 => ?_) (fun c1 => ?_)
  · exact absurd c1 (by decide)
  · refine yOk.adv 4 (pc' := 15) (lv' := [(0, .ref 0), (1, .int 4)]) (st' := [.int (M.1 55 4)]) (M' := M) rfl ?_
    refine yOk.if1 .ne _ _ _ _ rfl (fun c2 => ?_) (fun c2 => ?_)
    · refine yOk.adv 6 (pc' := 30) (lv' := [(0, .ref 0), (1, .int 4)]) (st' := [.ref 77, .ref 1]) (M' := M) rfl ?_
      refine yOk.call (M1 := zcpm (zcpm (zcpm (zup (zup (zup (zup (zup M 1 0 (M.1 77 0)) 1 1 (M.1 77 1)) 1 2 (M.1 77 2)) 1 3 0) 1 3 (nI n)) 78 0 2 0 n) 79 0 3 0 n) 80 0 4 0 n) _ rfl rfl rfl rfl rfl (m_copy_1_77 M n hs hn) ?_
      show yOk 52 33 [(0, .ref 0), (1, .int 4)] [] (zcpm (zcpm (zcpm (zup (zup (zup (zup (zup M 1 0 (M.1 77 0)) 1 1 (M.1 77 1)) 1 2 (M.1 77 2)) 1 3 0) 1 3 (nI n)) 78 0 2 0 n) 79 0 3 0 n) 80 0 4 0 n) _ _
      refine yOk.adv 3 (pc' := 40) (lv' := [(0, .ref 0), (1, .int 4)]) (st' := [.int ((zcpm (zcpm (zcpm (zup (zup (zup (zup (zup M 1 0 (M.1 77 0)) 1 1 (M.1 77 1)) 1 2 (M.1 77 2)) 1 3 0) 1 3 (nI n)) 78 0 2 0 n) 79 0 3 0 n) 80 0 4 0 n).1 1 3)]) (M' := zcpm (zcpm (zcpm (zup (zup (zup (zup (zup M 1 0 (M.1 77 0)) 1 1 (M.1 77 1)) 1 2 (M.1 77 2)) 1 3 0) 1 3 (nI n)) 78 0 2 0 n) 79 0 3 0 n) 80 0 4 0 n) rfl ?_
      have e : (zcpm (zcpm (zcpm (zup (zup (zup (zup (zup M 1 0 (M.1 77 0)) 1 1 (M.1 77 1)) 1 2 (M.1 77 2)) 1 3 0) 1 3 (nI n)) 78 0 2 0 n) 79 0 3 0 n) 80 0 4 0 n).1 1 3 = nI n := by unfold zcpm zup; simp
      rw [e]
      exact yOk.ret _ rfl rfl rfl
    · exact absurd (zne_f c2) h
theorem m_keep_5 (M : zMm) (n : Nat) (hs : M.1 1 3 = nI n) (hn : n ≤ 24) : yOk 51 0 [(0, .ref 0), (1, .int 5)] [] M (some (.int (nI n))) (zup (zcpm (zcpm (zcpm (zup (zup (zup (zup (zup M 81 0 (M.1 1 0)) 81 1 (M.1 1 1)) 81 2 (M.1 1 2)) 81 3 0) 81 3 (nI n)) 2 0 82 0 n) 3 0 83 0 n) 4 0 84 0 n) 55 5 (vp_nar .boolean 1)) := by
  refine yOk.adv 3 (pc' := 3) (lv' := [(0, .ref 0), (1, .int 5)]) (st' := [.int 5, .int 0, .int 5]) (M' := M) rfl ?_
  refine yOk.call (M1 := M) _ rfl rfl rfl rfl rfl (m_fromV M 5 0 5 0 5 rfl rfl 1 (Or.inl ⟨by decide, rfl⟩)) ?_
  show yOk 51 6 [(0, .ref 0), (1, .int 5)] [.int 1] M _ _
  refine yOk.if1 .ne _ _ _ _ rfl (fun c1 => ?_) (fun c1 => ?_)
  · refine yOk.adv 6 (pc' := 21) (lv' := [(0, .ref 0), (1, .int 5)]) (st' := [.ref 1, .ref 81]) (M' := M) rfl ?_
    refine yOk.call (M1 := zcpm (zcpm (zcpm (zup (zup (zup (zup (zup M 81 0 (M.1 1 0)) 81 1 (M.1 1 1)) 81 2 (M.1 1 2)) 81 3 0) 81 3 (nI n)) 2 0 82 0 n) 3 0 83 0 n) 4 0 84 0 n) _ rfl rfl rfl rfl rfl (m_copy_81_1 M n hs hn) ?_
    show yOk 51 24 [(0, .ref 0), (1, .int 5)] [] (zcpm (zcpm (zcpm (zup (zup (zup (zup (zup M 81 0 (M.1 1 0)) 81 1 (M.1 1 1)) 81 2 (M.1 1 2)) 81 3 0) 81 3 (nI n)) 2 0 82 0 n) 3 0 83 0 n) 4 0 84 0 n) _ _
    refine yOk.adv 8 (pc' := 38) (lv' := [(0, .ref 0), (1, .int 5)]) (st' := [.int ((zup (zcpm (zcpm (zcpm (zup (zup (zup (zup (zup M 81 0 (M.1 1 0)) 81 1 (M.1 1 1)) 81 2 (M.1 1 2)) 81 3 0) 81 3 (nI n)) 2 0 82 0 n) 3 0 83 0 n) 4 0 84 0 n) 55 5 (vp_nar .boolean 1)).1 1 3)]) (M' := zup (zcpm (zcpm (zcpm (zup (zup (zup (zup (zup M 81 0 (M.1 1 0)) 81 1 (M.1 1 1)) 81 2 (M.1 1 2)) 81 3 0) 81 3 (nI n)) 2 0 82 0 n) 3 0 83 0 n) 4 0 84 0 n) 55 5 (vp_nar .boolean 1)) rfl ?_
    have e : (zup (zcpm (zcpm (zcpm (zup (zup (zup (zup (zup M 81 0 (M.1 1 0)) 81 1 (M.1 1 1)) 81 2 (M.1 1 2)) 81 3 0) 81 3 (nI n)) 2 0 82 0 n) 3 0 83 0 n) 4 0 84 0 n) 55 5 (vp_nar .boolean 1)).1 1 3 = nI n := by rw [← hs]; unfold zcpm zup; simp
    rw [e]
    exact yOk.ret _ rfl rfl rfl
  · exact absurd c1 (by decide)
theorem m_load_5_no (M : zMm) (h : M.1 55 5 = 0) : yOk 52 0 [(0, .ref 0), (1, .int 5)] [] M (some (.int (-1))) M := by
  refine yOk.adv 3 (pc' := 3) (lv' := [(0, .ref 0), (1, .int 5)]) (st' := [.int 5, .int 0, .int 5]) (M' := M) rfl ?_
  refine yOk.call (M1 := M) _ rfl rfl rfl rfl rfl (m_fromV M 5 0 5 0 5 rfl rfl 1 (Or.inl ⟨by decide, rfl⟩)) ?_
  show yOk 52 6 [(0, .ref 0), (1, .int 5)] [.int 1] M _ _
  refine yOk.if1 .eq _ _ _ _ rfl (fun c1 => ?_) (fun c1 => ?_)
  · exact absurd c1 (by decide)
  · refine yOk.adv 4 (pc' := 15) (lv' := [(0, .ref 0), (1, .int 5)]) (st' := [.int (M.1 55 5)]) (M' := M) rfl ?_
    rw [h]
    refine yOk.if1 .ne _ _ _ _ rfl (fun c2 => ?_) (fun c2 => ?_)
    · exact absurd c2 (by decide)
    · refine yOk.adv 1 (pc' := 19) (lv' := [(0, .ref 0), (1, .int 5)]) (st' := [.int (-1)]) (M' := M) rfl ?_
      exact yOk.ret _ rfl rfl rfl
theorem m_load_5 (M : zMm) (h : ¬ M.1 55 5 = 0) (n : Nat) (hs : M.1 81 3 = nI n) (hn : n ≤ 24) : yOk 52 0 [(0, .ref 0), (1, .int 5)] [] M (some (.int (nI n))) (zcpm (zcpm (zcpm (zup (zup (zup (zup (zup M 1 0 (M.1 81 0)) 1 1 (M.1 81 1)) 1 2 (M.1 81 2)) 1 3 0) 1 3 (nI n)) 82 0 2 0 n) 83 0 3 0 n) 84 0 4 0 n) := by
  refine yOk.adv 3 (pc' := 3) (lv' := [(0, .ref 0), (1, .int 5)]) (st' := [.int 5, .int 0, .int 5]) (M' := M) rfl ?_
  refine yOk.call (M1 := M) _ rfl rfl rfl rfl rfl (m_fromV M 5 0 5 0 5 rfl rfl 1 (Or.inl ⟨by decide, rfl⟩)) ?_
  show yOk 52 6 [(0, .ref 0), (1, .int 5)] [.int 1] M _ _
  refine yOk.if1 .eq _ _ _ _ rfl (fun c1 => ?_) (fun c1 => ?_)
  · exact absurd c1 (by decide)
  · refine yOk.adv 4 (pc' := 15) (lv' := [(0, .ref 0), (1, .int 5)]) (st' := [.int (M.1 55 5)]) (M' := M) rfl ?_
    refine yOk.if1 .ne _ _ _ _ rfl (fun c2 => ?_) (fun c2 => ?_)
    · refine yOk.adv 6 (pc' := 30) (lv' := [(0, .ref 0), (1, .int 5)]) (st' := [.ref 81, .ref 1]) (M' := M) rfl ?_
      refine yOk.call (M1 := zcpm (zcpm (zcpm (zup (zup (zup (zup (zup M 1 0 (M.1 81 0)) 1 1 (M.1 81 1)) 1 2 (M.1 81 2)) 1 3 0) 1 3 (nI n)) 82 0 2 0 n) 83 0 3 0 n) 84 0 4 0 n) _ rfl rfl rfl rfl rfl (m_copy_1_81 M n hs hn) ?_
      show yOk 52 33 [(0, .ref 0), (1, .int 5)] [] (zcpm (zcpm (zcpm (zup (zup (zup (zup (zup M 1 0 (M.1 81 0)) 1 1 (M.1 81 1)) 1 2 (M.1 81 2)) 1 3 0) 1 3 (nI n)) 82 0 2 0 n) 83 0 3 0 n) 84 0 4 0 n) _ _
      refine yOk.adv 3 (pc' := 40) (lv' := [(0, .ref 0), (1, .int 5)]) (st' := [.int ((zcpm (zcpm (zcpm (zup (zup (zup (zup (zup M 1 0 (M.1 81 0)) 1 1 (M.1 81 1)) 1 2 (M.1 81 2)) 1 3 0) 1 3 (nI n)) 82 0 2 0 n) 83 0 3 0 n) 84 0 4 0 n).1 1 3)]) (M' := zcpm (zcpm (zcpm (zup (zup (zup (zup (zup M 1 0 (M.1 81 0)) 1 1 (M.1 81 1)) 1 2 (M.1 81 2)) 1 3 0) 1 3 (nI n)) 82 0 2 0 n) 83 0 3 0 n) 84 0 4 0 n) rfl ?_
      have e : (zcpm (zcpm (zcpm (zup (zup (zup (zup (zup M 1 0 (M.1 81 0)) 1 1 (M.1 81 1)) 1 2 (M.1 81 2)) 1 3 0) 1 3 (nI n)) 82 0 2 0 n) 83 0 3 0 n) 84 0 4 0 n).1 1 3 = nI n := by unfold zcpm zup; simp
      rw [e]
      exact yOk.ret _ rfl rfl rfl
    · exact absurd (zne_f c2) h
