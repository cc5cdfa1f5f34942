/-! ===== lose and sheet of both ===== -/
theorem m_lose_no (M : zMm) (k : Int32) (h : ¬ (0 ≤ k.toInt ∧ k.toInt ≤ 3)) : yOk 58 0 [(0, .ref 0), (1, .int k)] [] M (some (.int (-1))) M := by
  refine yOk.adv 3 (pc' := 3) (lv' := [(0, .ref 0), (1, .int k)]) (st' := [.int 3, .int 0, .int k]) (M' := M) rfl ?_
  refine yOk.call (M1 := M) _ rfl rfl rfl rfl rfl (m_fromV M k 0 3 0 3 rfl rfl 0 (Or.inr ⟨h, rfl⟩)) ?_
  show yOk 58 6 [(0, .ref 0), (1, .int k)] [.int 0] M _ _
  refine yOk.if1 .ne _ _ _ _ rfl (fun c1 => ?_) (fun c1 => ?_)
  · exact absurd c1 (by decide)
  · refine yOk.adv 1 (pc' := 10) (lv' := [(0, .ref 0), (1, .int k)]) (st' := [.int (-1)]) (M' := M) rfl ?_
    exact yOk.ret _ rfl rfl rfl
theorem r_lose_no (M : zMm) (k : Int32) (h : ¬ (0 ≤ k.toInt ∧ k.toInt ≤ 3)) : yOk 154 0 [(0, .ref 93), (1, .int k)] [] M (some (.int (-1))) M := by
  refine yOk.adv 4 (pc' := 6) (lv' := [(0, .ref 93), (1, .int k)]) (st' := [.long 3, .long 0, .long k.toInt64]) (M' := M) rfl ?_
  refine yOk.call (M1 := M) _ rfl rfl rfl rfl rfl (r_withinV M k.toInt64 0 3 0 3 rfl rfl 0 (Or.inr ⟨by rw [Kit.i64_of_i32]; exact h, rfl⟩)) ?_
  show yOk 154 9 [(0, .ref 93), (1, .int k)] [.int 0] M _ _
  refine yOk.if1 .ne _ _ _ _ rfl (fun c1 => ?_) (fun c1 => ?_)
  · exact absurd c1 (by decide)
  · refine yOk.adv 1 (pc' := 13) (lv' := [(0, .ref 93), (1, .int k)]) (st' := [.int (-1)]) (M' := M) rfl ?_
    exact yOk.ret _ rfl rfl rfl
theorem m_sheet_no (M : zMm) (k l n : Int32) (v : Int32) (h : (¬ (0 ≤ k.toInt ∧ k.toInt ≤ 3) ∧ v = -1) ∨ ((0 ≤ k.toInt ∧ k.toInt ≤ 3) ∧ ¬ ((0 ≤ l.toInt ∧ l.toInt ≤ 2) ∧ n.toInt ≤ 72) ∧ v = -2)) : yOk 57 0 [(0, .ref 0), (1, .int k), (2, .int l), (3, .int n)] [] M (some (.int v)) (zup M 0 14 0) := by
  obtain ⟨r1, g1⟩ := zem (0 ≤ k.toInt ∧ k.toInt ≤ 3)
  obtain ⟨r2, g2⟩ := zem (0 ≤ l.toInt ∧ l.toInt ≤ 2)
  have e72 : ((72 : Int32)).toInt = 72 := rfl
  have out : v = -2 → yOk 57 31 [(0, .ref 0), (1, .int k), (2, .int l), (3, .int n)] [] (zup M 0 14 0) (some (.int v)) (zup M 0 14 0) := by
    intro h
    subst h
    refine yOk.adv 1 (pc' := 33) (lv' := [(0, .ref 0), (1, .int k), (2, .int l), (3, .int n)]) (st' := [.int (-2)]) (M' := zup M 0 14 0) rfl ?_
    exact yOk.ret _ rfl rfl rfl
  refine yOk.adv 6 (pc' := 8) (lv' := [(0, .ref 0), (1, .int k), (2, .int l), (3, .int n)]) (st' := [.int 3, .int 0, .int k]) (M' := zup M 0 14 0) rfl ?_
  refine yOk.call (M1 := zup M 0 14 0) _ rfl rfl rfl rfl rfl (m_fromV (zup M 0 14 0) k 0 3 0 3 rfl rfl r1 g1) ?_
  show yOk 57 11 [(0, .ref 0), (1, .int k), (2, .int l), (3, .int n)] [.int r1] (zup M 0 14 0) _ _
  refine yOk.if1 .ne _ _ _ _ rfl (fun c1 => ?_) (fun c1 => ?_)
  · have hk := zne0 g1 c1
    have h2 := h.elim (fun z => absurd hk z.1) (fun z => z.2)
    refine yOk.adv 3 (pc' := 19) (lv' := [(0, .ref 0), (1, .int k), (2, .int l), (3, .int n)]) (st' := [.int 2, .int 0, .int l]) (M' := zup M 0 14 0) rfl ?_
    refine yOk.call (M1 := zup M 0 14 0) _ rfl rfl rfl rfl rfl (m_fromV (zup M 0 14 0) l 0 2 0 2 rfl rfl r2 g2) ?_
    show yOk 57 22 [(0, .ref 0), (1, .int k), (2, .int l), (3, .int n)] [.int r2] (zup M 0 14 0) _ _
    refine yOk.if1 .eq _ _ _ _ rfl (fun c2 => ?_) (fun c2 => ?_)
    · exact out h2.2
    · have hl := zeq1 g2 c2
      refine yOk.adv 2 (pc' := 28) (lv' := [(0, .ref 0), (1, .int k), (2, .int l), (3, .int n)]) (st' := [.int 72, .int n]) (M' := zup M 0 14 0) rfl ?_
      refine yOk.if2 .le _ _ _ _ rfl (fun c3 => ?_) (fun c3 => ?_)
      · exact absurd ⟨hl, by have := zle_t c3; rw [i32_lt] at this; omega⟩ h2.1
      · exact out h2.2
  · have : v = -1 := h.elim (fun z => z.2) (fun z => absurd z.1 (zne1 g1 c1))
    subst this
    refine yOk.adv 1 (pc' := 15) (lv' := [(0, .ref 0), (1, .int k), (2, .int l), (3, .int n)]) (st' := [.int (-1)]) (M' := zup M 0 14 0) rfl ?_
    exact yOk.ret _ rfl rfl rfl
theorem r_sheet_no (M : zMm) (k l n : Int32) (v : Int32) (h : (¬ (0 ≤ k.toInt ∧ k.toInt ≤ 3) ∧ v = -1) ∨ ((0 ≤ k.toInt ∧ k.toInt ≤ 3) ∧ ¬ ((0 ≤ l.toInt ∧ l.toInt ≤ 2) ∧ n.toInt ≤ 72) ∧ v = -2)) : yOk 153 0 [(0, .ref 93), (1, .int k), (2, .int l), (3, .int n)] [] M (some (.int v)) (zup M 93 0 0) := by
  have ek : k.toInt64.toInt = k.toInt := Kit.i64_of_i32 k
  have el : l.toInt64.toInt = l.toInt := Kit.i64_of_i32 l
  obtain ⟨r1, g1⟩ := zem (0 ≤ k.toInt64.toInt ∧ k.toInt64.toInt ≤ 3)
  obtain ⟨r2, g2⟩ := zem (0 ≤ l.toInt64.toInt ∧ l.toInt64.toInt ≤ 2)
  have e72 : ((72 : Int32)).toInt = 72 := rfl
  have out : v = -2 → yOk 153 37 [(0, .ref 93), (1, .int k), (2, .int l), (3, .int n)] [] (zup M 93 0 0) (some (.int v)) (zup M 93 0 0) := by
    intro h
    subst h
    refine yOk.adv 1 (pc' := 39) (lv' := [(0, .ref 93), (1, .int k), (2, .int l), (3, .int n)]) (st' := [.int (-2)]) (M' := zup M 93 0 0) rfl ?_
    exact yOk.ret _ rfl rfl rfl
  refine yOk.adv 7 (pc' := 11) (lv' := [(0, .ref 93), (1, .int k), (2, .int l), (3, .int n)]) (st' := [.long 3, .long 0, .long k.toInt64]) (M' := zup M 93 0 0) rfl ?_
  refine yOk.call (M1 := zup M 93 0 0) _ rfl rfl rfl rfl rfl (r_withinV (zup M 93 0 0) k.toInt64 0 3 0 3 rfl rfl r1 g1) ?_
  show yOk 153 14 [(0, .ref 93), (1, .int k), (2, .int l), (3, .int n)] [.int r1] (zup M 93 0 0) _ _
  refine yOk.if1 .ne _ _ _ _ rfl (fun c1 => ?_) (fun c1 => ?_)
  · have hk := zne0 g1 c1
    rw [ek] at hk
    have h2 := h.elim (fun z => absurd hk z.1) (fun z => z.2)
    refine yOk.adv 4 (pc' := 25) (lv' := [(0, .ref 93), (1, .int k), (2, .int l), (3, .int n)]) (st' := [.long 2, .long 0, .long l.toInt64]) (M' := zup M 93 0 0) rfl ?_
    refine yOk.call (M1 := zup M 93 0 0) _ rfl rfl rfl rfl rfl (r_withinV (zup M 93 0 0) l.toInt64 0 2 0 2 rfl rfl r2 g2) ?_
    show yOk 153 28 [(0, .ref 93), (1, .int k), (2, .int l), (3, .int n)] [.int r2] (zup M 93 0 0) _ _
    refine yOk.if1 .eq _ _ _ _ rfl (fun c2 => ?_) (fun c2 => ?_)
    · exact out h2.2
    · have hl := zeq1 g2 c2
      rw [el] at hl
      refine yOk.adv 2 (pc' := 34) (lv' := [(0, .ref 93), (1, .int k), (2, .int l), (3, .int n)]) (st' := [.int 72, .int n]) (M' := zup M 93 0 0) rfl ?_
      refine yOk.if2 .le _ _ _ _ rfl (fun c3 => ?_) (fun c3 => ?_)
      · exact absurd ⟨hl, by have := zle_t c3; rw [i32_lt] at this; omega⟩ h2.1
      · exact out h2.2
  · have : v = -1 := h.elim (fun z => z.2) (fun z => absurd z.1 (by rw [← ek]; exact zne1 g1 c1))
    subst this
    refine yOk.adv 1 (pc' := 18) (lv' := [(0, .ref 93), (1, .int k), (2, .int l), (3, .int n)]) (st' := [.int (-1)]) (M' := zup M 93 0 0) rfl ?_
    exact yOk.ret _ rfl rfl rfl
theorem m_lose_0 (M N : zMm) (v : Int32) (hv : (M.1 85 0 = -1 ∧ v = 0 ∧ N = M) ∨ (¬ M.1 85 0 = -1 ∧ v = 1 ∧ N = zup (zup M 85 0 (-1)) 85 1 0)) : yOk 58 0 [(0, .ref 0), (1, .int 0)] [] M (some (.int v)) N := by
  obtain ⟨r1, g1⟩ := zem (M.1 85 0 = -1)
  refine yOk.adv 3 (pc' := 3) (lv' := [(0, .ref 0), (1, .int 0)]) (st' := [.int 3, .int 0, .int 0]) (M' := M) rfl ?_
  refine yOk.call (M1 := M) _ rfl rfl rfl rfl rfl (m_fromV M 0 0 3 0 3 rfl rfl 1 (Or.inl ⟨by decide, rfl⟩)) ?_
  show yOk 58 6 [(0, .ref 0), (1, .int 0)] [.int 1] M _ _
  refine yOk.if1 .ne _ _ _ _ rfl (fun c1 => ?_) (fun c1 => ?_)
  · refine yOk.adv 4 (pc' := 17) (lv' := [(0, .ref 0), (1, .int 0)]) (st' := [.ref 85]) (M' := M) rfl ?_
    refine yOk.call (M1 := M) _ rfl rfl rfl rfl rfl (m_hasNothing_85 M r1 g1) ?_
    show yOk 58 20 [(0, .ref 0), (1, .int 0)] [.int r1] M _ _
    refine yOk.if1 .eq _ _ _ _ rfl (fun c2 => ?_) (fun c2 => ?_)
    · obtain ⟨rfl, rfl⟩ : v = 1 ∧ N = zup (zup M 85 0 (-1)) 85 1 0 := hv.elim (fun z => absurd z.1 (zeq0 g1 c2)) (fun z => z.2)
      refine yOk.adv 4 (pc' := 31) (lv' := [(0, .ref 0), (1, .int 0)]) (st' := [.ref 85]) (M' := M) rfl ?_
      refine yOk.call (M1 := zup (zup M 85 0 (-1)) 85 1 0) _ rfl rfl rfl rfl rfl (m_empty_85 M) ?_
      show yOk 58 34 [(0, .ref 0), (1, .int 0)] [] (zup (zup M 85 0 (-1)) 85 1 0) _ _
      refine yOk.adv 1 (pc' := 35) (lv' := [(0, .ref 0), (1, .int 0)]) (st' := [.int 1]) (M' := zup (zup M 85 0 (-1)) 85 1 0) rfl ?_
      exact yOk.ret _ rfl rfl rfl
    · obtain ⟨rfl, rfl⟩ : v = 0 ∧ N = M := hv.elim (fun z => z.2) (fun z => absurd (zeq1 g1 c2) z.1)
      refine yOk.adv 1 (pc' := 24) (lv' := [(0, .ref 0), (1, .int 0)]) (st' := [.int 0]) (M' := N) rfl ?_
      exact yOk.ret _ rfl rfl rfl
  · exact absurd c1 (by decide)
theorem r_lose_0 (M : zMm) (v : Int32) (hv : (M.1 99 0 = -9 ∧ v = 0) ∨ (¬ M.1 99 0 = -9 ∧ v = 1)) : yOk 154 0 [(0, .ref 93), (1, .int 0)] [] M (some (.int v)) (zup M 99 0 (-9)) := by
  refine yOk.adv 4 (pc' := 6) (lv' := [(0, .ref 93), (1, .int 0)]) (st' := [.long 3, .long 0, .long 0]) (M' := M) rfl ?_
  refine yOk.call (M1 := M) _ rfl rfl rfl rfl rfl (r_withinV M 0 0 3 0 3 rfl rfl 1 (Or.inl ⟨by decide, rfl⟩)) ?_
  show yOk 154 9 [(0, .ref 93), (1, .int 0)] [.int 1] M _ _
  refine yOk.if1 .ne _ _ _ _ rfl (fun c1 => ?_) (fun c1 => ?_)
  · refine yOk.adv 5 (pc' := 22) (lv' := [(0, .ref 93), (1, .int 0)]) (st' := [.int (-9), .int (M.1 99 0)]) (M' := M) rfl ?_
    refine yOk.if2 .ne _ _ _ _ rfl (fun c2 => ?_) (fun c2 => ?_)
    · have : v = 1 := hv.elim (fun z => absurd z.1 (zne_t c2)) (fun z => z.2)
      subst this
      refine yOk.adv 8 (pc' := 40) (lv' := [(2, .int 1), (0, .ref 93), (1, .int 0)]) (st' := [.int 1]) (M' := zup M 99 0 (-9)) rfl ?_
      exact yOk.ret _ rfl rfl rfl
    · have : v = 0 := hv.elim (fun z => z.2) (fun z => absurd (zne_f c2) z.1)
      subst this
      refine yOk.adv 9 (pc' := 40) (lv' := [(2, .int 0), (0, .ref 93), (1, .int 0)]) (st' := [.int 0]) (M' := zup M 99 0 (-9)) rfl ?_
      exact yOk.ret _ rfl rfl rfl
  · exact absurd c1 (by decide)
theorem m_sheet_0 (M N : zMm) (l n : Int32) (v : Int32) (hl : 0 ≤ l.toInt ∧ l.toInt ≤ 2) (hn : n.toInt ≤ 72) (hv : (n.toInt < 0 ∧ v = -10 - 4 ∧ N = zup (zup M 0 14 0) 0 14 4) ∨ (0 ≤ n.toInt ∧ v = 1 ∧ N = zfil (zup (zup (zup M 0 14 0) 85 0 l) 85 1 n) 86 72 0)) : yOk 57 0 [(0, .ref 0), (1, .int 0), (2, .int l), (3, .int n)] [] M (some (.int v)) N := by
  have e72 : ((72 : Int32)).toInt = 72 := rfl
  have e0 : ((0 : Int32)).toInt = 0 := rfl
  refine yOk.adv 6 (pc' := 8) (lv' := [(0, .ref 0), (1, .int 0), (2, .int l), (3, .int n)]) (st' := [.int 3, .int 0, .int 0]) (M' := zup M 0 14 0) rfl ?_
  refine yOk.call (M1 := zup M 0 14 0) _ rfl rfl rfl rfl rfl (m_fromV (zup M 0 14 0) 0 0 3 0 3 rfl rfl 1 (Or.inl ⟨by decide, rfl⟩)) ?_
  show yOk 57 11 [(0, .ref 0), (1, .int 0), (2, .int l), (3, .int n)] [.int 1] (zup M 0 14 0) _ _
  refine yOk.if1 .ne _ _ _ _ rfl (fun c1 => ?_) (fun c1 => ?_)
  · refine yOk.adv 3 (pc' := 19) (lv' := [(0, .ref 0), (1, .int 0), (2, .int l), (3, .int n)]) (st' := [.int 2, .int 0, .int l]) (M' := zup M 0 14 0) rfl ?_
    refine yOk.call (M1 := zup M 0 14 0) _ rfl rfl rfl rfl rfl (m_fromV (zup M 0 14 0) l 0 2 0 2 rfl rfl 1 (Or.inl ⟨hl, rfl⟩)) ?_
    show yOk 57 22 [(0, .ref 0), (1, .int 0), (2, .int l), (3, .int n)] [.int 1] (zup M 0 14 0) _ _
    refine yOk.if1 .eq _ _ _ _ rfl (fun c2 => ?_) (fun c2 => ?_)
    · exact absurd c2 (by decide)
    · refine yOk.adv 2 (pc' := 28) (lv' := [(0, .ref 0), (1, .int 0), (2, .int l), (3, .int n)]) (st' := [.int 72, .int n]) (M' := zup M 0 14 0) rfl ?_
      refine yOk.if2 .le _ _ _ _ rfl (fun c3 => ?_) (fun c3 => ?_)
      · refine yOk.adv 1 (pc' := 35) (lv' := [(0, .ref 0), (1, .int 0), (2, .int l), (3, .int n)]) (st' := [.int n]) (M' := zup M 0 14 0) rfl ?_
        refine yOk.if1 .ge _ _ _ _ rfl (fun c4 => ?_) (fun c4 => ?_)
        · have h0 : 0 ≤ n.toInt := Classical.byContradiction fun hh => zge_t c4 (i32_lt.mpr (by omega))
          obtain ⟨rfl, rfl⟩ : v = 1 ∧ N = zfil (zup (zup (zup M 0 14 0) 85 0 l) 85 1 n) 86 72 0 := hv.elim (fun z => absurd z.1 (by omega)) (fun z => z.2)
          refine yOk.adv 6 (pc' := 52) (lv' := [(0, .ref 0), (1, .int 0), (2, .int l), (3, .int n)]) (st' := [.int n, .int l, .ref 85]) (M' := zup M 0 14 0) rfl ?_
          refine yOk.call (M1 := zfil (zup (zup (zup M 0 14 0) 85 0 l) 85 1 n) 86 72 0) _ rfl rfl rfl rfl rfl (m_renew_85 (zup M 0 14 0) l n) ?_
          show yOk 57 55 [(0, .ref 0), (1, .int 0), (2, .int l), (3, .int n)] [] (zfil (zup (zup (zup M 0 14 0) 85 0 l) 85 1 n) 86 72 0) _ _
          refine yOk.adv 1 (pc' := 56) (lv' := [(0, .ref 0), (1, .int 0), (2, .int l), (3, .int n)]) (st' := [.int 1]) (M' := zfil (zup (zup (zup M 0 14 0) 85 0 l) 85 1 n) 86 72 0) rfl ?_
          exact yOk.ret _ rfl rfl rfl
        · have h0 := i32_lt.mp (zge_f c4)
          obtain ⟨rfl, rfl⟩ : v = -10 - 4 ∧ N = zup (zup M 0 14 0) 0 14 4 := hv.elim (fun z => z.2) (fun z => absurd z.1 (by omega))
          refine yOk.adv 2 (pc' := 40) (lv' := [(0, .ref 0), (1, .int 0), (2, .int l), (3, .int n)]) (st' := [.int 4, .ref 0]) (M' := zup M 0 14 0) rfl ?_
          refine yOk.call (M1 := zup (zup M 0 14 0) 0 14 4) _ rfl rfl rfl rfl rfl (m_failed (zup M 0 14 0) 4) ?_
          show yOk 57 43 [(0, .ref 0), (1, .int 0), (2, .int l), (3, .int n)] [.int (-10 - 4)] (zup (zup M 0 14 0) 0 14 4) _ _
          exact yOk.ret _ rfl rfl rfl
      · have := i32_lt.mp (zle_f c3)
        omega
  · exact absurd c1 (by decide)
theorem m_lose_1 (M N : zMm) (v : Int32) (hv : (M.1 87 0 = -1 ∧ v = 0 ∧ N = M) ∨ (¬ M.1 87 0 = -1 ∧ v = 1 ∧ N = zup (zup M 87 0 (-1)) 87 1 0)) : yOk 58 0 [(0, .ref 0), (1, .int 1)] [] M (some (.int v)) N := by
  obtain ⟨r1, g1⟩ := zem (M.1 87 0 = -1)
  refine yOk.adv 3 (pc' := 3) (lv' := [(0, .ref 0), (1, .int 1)]) (st' := [.int 3, .int 0, .int 1]) (M' := M) rfl ?_
  refine yOk.call (M1 := M) _ rfl rfl rfl rfl rfl (m_fromV M 1 0 3 0 3 rfl rfl 1 (Or.inl ⟨by decide, rfl⟩)) ?_
  show yOk 58 6 [(0, .ref 0), (1, .int 1)] [.int 1] M _ _
  refine yOk.if1 .ne _ _ _ _ rfl (fun c1 => ?_) (fun c1 => ?_)
  · refine yOk.adv 4 (pc' := 17) (lv' := [(0, .ref 0), (1, .int 1)]) (st' := [.ref 87]) (M' := M) rfl ?_
    refine yOk.call (M1 := M) _ rfl rfl rfl rfl rfl (m_hasNothing_87 M r1 g1) ?_
    show yOk 58 20 [(0, .ref 0), (1, .int 1)] [.int r1] M _ _
    refine yOk.if1 .eq _ _ _ _ rfl (fun c2 => ?_) (fun c2 => ?_)
    · obtain ⟨rfl, rfl⟩ : v = 1 ∧ N = zup (zup M 87 0 (-1)) 87 1 0 := hv.elim (fun z => absurd z.1 (zeq0 g1 c2)) (fun z => z.2)
      refine yOk.adv 4 (pc' := 31) (lv' := [(0, .ref 0), (1, .int 1)]) (st' := [.ref 87]) (M' := M) rfl ?_
      refine yOk.call (M1 := zup (zup M 87 0 (-1)) 87 1 0) _ rfl rfl rfl rfl rfl (m_empty_87 M) ?_
      show yOk 58 34 [(0, .ref 0), (1, .int 1)] [] (zup (zup M 87 0 (-1)) 87 1 0) _ _
      refine yOk.adv 1 (pc' := 35) (lv' := [(0, .ref 0), (1, .int 1)]) (st' := [.int 1]) (M' := zup (zup M 87 0 (-1)) 87 1 0) rfl ?_
      exact yOk.ret _ rfl rfl rfl
    · obtain ⟨rfl, rfl⟩ : v = 0 ∧ N = M := hv.elim (fun z => z.2) (fun z => absurd (zeq1 g1 c2) z.1)
      refine yOk.adv 1 (pc' := 24) (lv' := [(0, .ref 0), (1, .int 1)]) (st' := [.int 0]) (M' := N) rfl ?_
      exact yOk.ret _ rfl rfl rfl
  · exact absurd c1 (by decide)
theorem r_lose_1 (M : zMm) (v : Int32) (hv : (M.1 99 1 = -9 ∧ v = 0) ∨ (¬ M.1 99 1 = -9 ∧ v = 1)) : yOk 154 0 [(0, .ref 93), (1, .int 1)] [] M (some (.int v)) (zup M 99 1 (-9)) := by
  refine yOk.adv 4 (pc' := 6) (lv' := [(0, .ref 93), (1, .int 1)]) (st' := [.long 3, .long 0, .long 1]) (M' := M) rfl ?_
  refine yOk.call (M1 := M) _ rfl rfl rfl rfl rfl (r_withinV M 1 0 3 0 3 rfl rfl 1 (Or.inl ⟨by decide, rfl⟩)) ?_
  show yOk 154 9 [(0, .ref 93), (1, .int 1)] [.int 1] M _ _
  refine yOk.if1 .ne _ _ _ _ rfl (fun c1 => ?_) (fun c1 => ?_)
  · refine yOk.adv 5 (pc' := 22) (lv' := [(0, .ref 93), (1, .int 1)]) (st' := [.int (-9), .int (M.1 99 1)]) (M' := M) rfl ?_
    refine yOk.if2 .ne _ _ _ _ rfl (fun c2 => ?_) (fun c2 => ?_)
    · have : v = 1 := hv.elim (fun z => absurd z.1 (zne_t c2)) (fun z => z.2)
      subst this
      refine yOk.adv 8 (pc' := 40) (lv' := [(2, .int 1), (0, .ref 93), (1, .int 1)]) (st' := [.int 1]) (M' := zup M 99 1 (-9)) rfl ?_
      exact yOk.ret _ rfl rfl rfl
    · have : v = 0 := hv.elim (fun z => z.2) (fun z => absurd (zne_f c2) z.1)
      subst this
      refine yOk.adv 9 (pc' := 40) (lv' := [(2, .int 0), (0, .ref 93), (1, .int 1)]) (st' := [.int 0]) (M' := zup M 99 1 (-9)) rfl ?_
      exact yOk.ret _ rfl rfl rfl
  · exact absurd c1 (by decide)
theorem m_sheet_1 (M N : zMm) (l n : Int32) (v : Int32) (hl : 0 ≤ l.toInt ∧ l.toInt ≤ 2) (hn : n.toInt ≤ 72) (hv : (n.toInt < 0 ∧ v = -10 - 4 ∧ N = zup (zup M 0 14 0) 0 14 4) ∨ (0 ≤ n.toInt ∧ v = 1 ∧ N = zfil (zup (zup (zup M 0 14 0) 87 0 l) 87 1 n) 88 72 0)) : yOk 57 0 [(0, .ref 0), (1, .int 1), (2, .int l), (3, .int n)] [] M (some (.int v)) N := by
  have e72 : ((72 : Int32)).toInt = 72 := rfl
  have e0 : ((0 : Int32)).toInt = 0 := rfl
  refine yOk.adv 6 (pc' := 8) (lv' := [(0, .ref 0), (1, .int 1), (2, .int l), (3, .int n)]) (st' := [.int 3, .int 0, .int 1]) (M' := zup M 0 14 0) rfl ?_
  refine yOk.call (M1 := zup M 0 14 0) _ rfl rfl rfl rfl rfl (m_fromV (zup M 0 14 0) 1 0 3 0 3 rfl rfl 1 (Or.inl ⟨by decide, rfl⟩)) ?_
  show yOk 57 11 [(0, .ref 0), (1, .int 1), (2, .int l), (3, .int n)] [.int 1] (zup M 0 14 0) _ _
  refine yOk.if1 .ne _ _ _ _ rfl (fun c1 => ?_) (fun c1 => ?_)
  · refine yOk.adv 3 (pc' := 19) (lv' := [(0, .ref 0), (1, .int 1), (2, .int l), (3, .int n)]) (st' := [.int 2, .int 0, .int l]) (M' := zup M 0 14 0) rfl ?_
    refine yOk.call (M1 := zup M 0 14 0) _ rfl rfl rfl rfl rfl (m_fromV (zup M 0 14 0) l 0 2 0 2 rfl rfl 1 (Or.inl ⟨hl, rfl⟩)) ?_
    show yOk 57 22 [(0, .ref 0), (1, .int 1), (2, .int l), (3, .int n)] [.int 1] (zup M 0 14 0) _ _
    refine yOk.if1 .eq _ _ _ _ rfl (fun c2 => ?_) (fun c2 => ?_)
    · exact absurd c2 (by decide)
    · refine yOk.adv 2 (pc' := 28) (lv' := [(0, .ref 0), (1, .int 1), (2, .int l), (3, .int n)]) (st' := [.int 72, .int n]) (M' := zup M 0 14 0) rfl ?_
      refine yOk.if2 .le _ _ _ _ rfl (fun c3 => ?_) (fun c3 => ?_)
      · refine yOk.adv 1 (pc' := 35) (lv' := [(0, .ref 0), (1, .int 1), (2, .int l), (3, .int n)]) (st' := [.int n]) (M' := zup M 0 14 0) rfl ?_
        refine yOk.if1 .ge _ _ _ _ rfl (fun c4 => ?_) (fun c4 => ?_)
        · have h0 : 0 ≤ n.toInt := Classical.byContradiction fun hh => zge_t c4 (i32_lt.mpr (by omega))
          obtain ⟨rfl, rfl⟩ : v = 1 ∧ N = zfil (zup (zup (zup M 0 14 0) 87 0 l) 87 1 n) 88 72 0 := hv.elim (fun z => absurd z.1 (by omega)) (fun z => z.2)
          refine yOk.adv 6 (pc' := 52) (lv' := [(0, .ref 0), (1, .int 1), (2, .int l), (3, .int n)]) (st' := [.int n, .int l, .ref 87]) (M' := zup M 0 14 0) rfl ?_
          refine yOk.call (M1 := zfil (zup (zup (zup M 0 14 0) 87 0 l) 87 1 n) 88 72 0) _ rfl rfl rfl rfl rfl (m_renew_87 (zup M 0 14 0) l n) ?_
          show yOk 57 55 [(0, .ref 0), (1, .int 1), (2, .int l), (3, .int n)] [] (zfil (zup (zup (zup M 0 14 0) 87 0 l) 87 1 n) 88 72 0) _ _
          refine yOk.adv 1 (pc' := 56) (lv' := [(0, .ref 0), (1, .int 1), (2, .int l), (3, .int n)]) (st' := [.int 1]) (M' := zfil (zup (zup (zup M 0 14 0) 87 0 l) 87 1 n) 88 72 0) rfl ?_
          exact yOk.ret _ rfl rfl rfl
        · have h0 := i32_lt.mp (zge_f c4)
          obtain ⟨rfl, rfl⟩ : v = -10 - 4 ∧ N = zup (zup M 0 14 0) 0 14 4 := hv.elim (fun z => z.2) (fun z => absurd z.1 (by omega))
          refine yOk.adv 2 (pc' := 40) (lv' := [(0, .ref 0), (1, .int 1), (2, .int l), (3, .int n)]) (st' := [.int 4, .ref 0]) (M' := zup M 0 14 0) rfl ?_
          refine yOk.call (M1 := zup (zup M 0 14 0) 0 14 4) _ rfl rfl rfl rfl rfl (m_failed (zup M 0 14 0) 4) ?_
          show yOk 57 43 [(0, .ref 0), (1, .int 1), (2, .int l), (3, .int n)] [.int (-10 - 4)] (zup (zup M 0 14 0) 0 14 4) _ _
          exact yOk.ret _ rfl rfl rfl
      · have := i32_lt.mp (zle_f c3)
        omega
  · exact absurd c1 (by decide)
theorem m_lose_2 (M N : zMm) (v : Int32) (hv : (M.1 89 0 = -1 ∧ v = 0 ∧ N = M) ∨ (¬ M.1 89 0 = -1 ∧ v = 1 ∧ N = zup (zup M 89 0 (-1)) 89 1 0)) : yOk 58 0 [(0, .ref 0), (1, .int 2)] [] M (some (.int v)) N := by
  obtain ⟨r1, g1⟩ := zem (M.1 89 0 = -1)
  refine yOk.adv 3 (pc' := 3) (lv' := [(0, .ref 0), (1, .int 2)]) (st' := [.int 3, .int 0, .int 2]) (M' := M) rfl ?_
  refine yOk.call (M1 := M) _ rfl rfl rfl rfl rfl (m_fromV M 2 0 3 0 3 rfl rfl 1 (Or.inl ⟨by decide, rfl⟩)) ?_
  show yOk 58 6 [(0, .ref 0), (1, .int 2)] [.int 1] M _ _
  refine yOk.if1 .ne _ _ _ _ rfl (fun c1 => ?_) (fun c1 => ?_)
  · refine yOk.adv 4 (pc' := 17) (lv' := [(0, .ref 0), (1, .int 2)]) (st' := [.ref 89]) (M' := M) rfl ?_
    refine yOk.call (M1 := M) _ rfl rfl rfl rfl rfl (m_hasNothing_89 M r1 g1) ?_
    show yOk 58 20 [(0, .ref 0), (1, .int 2)] [.int r1] M _ _
    refine yOk.if1 .eq _ _ _ _ rfl (fun c2 => ?_) (fun c2 => ?_)
    · obtain ⟨rfl, rfl⟩ : v = 1 ∧ N = zup (zup M 89 0 (-1)) 89 1 0 := hv.elim (fun z => absurd z.1 (zeq0 g1 c2)) (fun z => z.2)
      refine yOk.adv 4 (pc' := 31) (lv' := [(0, .ref 0), (1, .int 2)]) (st' := [.ref 89]) (M' := M) rfl ?_
      refine yOk.call (M1 := zup (zup M 89 0 (-1)) 89 1 0) _ rfl rfl rfl rfl rfl (m_empty_89 M) ?_
      show yOk 58 34 [(0, .ref 0), (1, .int 2)] [] (zup (zup M 89 0 (-1)) 89 1 0) _ _
      refine yOk.adv 1 (pc' := 35) (lv' := [(0, .ref 0), (1, .int 2)]) (st' := [.int 1]) (M' := zup (zup M 89 0 (-1)) 89 1 0) rfl ?_
      exact yOk.ret _ rfl rfl rfl
    · obtain ⟨rfl, rfl⟩ : v = 0 ∧ N = M := hv.elim (fun z => z.2) (fun z => absurd (zeq1 g1 c2) z.1)
      refine yOk.adv 1 (pc' := 24) (lv' := [(0, .ref 0), (1, .int 2)]) (st' := [.int 0]) (M' := N) rfl ?_
      exact yOk.ret _ rfl rfl rfl
  · exact absurd c1 (by decide)
theorem r_lose_2 (M : zMm) (v : Int32) (hv : (M.1 99 2 = -9 ∧ v = 0) ∨ (¬ M.1 99 2 = -9 ∧ v = 1)) : yOk 154 0 [(0, .ref 93), (1, .int 2)] [] M (some (.int v)) (zup M 99 2 (-9)) := by
  refine yOk.adv 4 (pc' := 6) (lv' := [(0, .ref 93), (1, .int 2)]) (st' := [.long 3, .long 0, .long 2]) (M' := M) rfl ?_
  refine yOk.call (M1 := M) _ rfl rfl rfl rfl rfl (r_withinV M 2 0 3 0 3 rfl rfl 1 (Or.inl ⟨by decide, rfl⟩)) ?_
  show yOk 154 9 [(0, .ref 93), (1, .int 2)] [.int 1] M _ _
  refine yOk.if1 .ne _ _ _ _ rfl (fun c1 => ?_) (fun c1 => ?_)
  · refine yOk.adv 5 (pc' := 22) (lv' := [(0, .ref 93), (1, .int 2)]) (st' := [.int (-9), .int (M.1 99 2)]) (M' := M) rfl ?_
    refine yOk.if2 .ne _ _ _ _ rfl (fun c2 => ?_) (fun c2 => ?_)
    · have : v = 1 := hv.elim (fun z => absurd z.1 (zne_t c2)) (fun z => z.2)
      subst this
      refine yOk.adv 8 (pc' := 40) (lv' := [(2, .int 1), (0, .ref 93), (1, .int 2)]) (st' := [.int 1]) (M' := zup M 99 2 (-9)) rfl ?_
      exact yOk.ret _ rfl rfl rfl
    · have : v = 0 := hv.elim (fun z => z.2) (fun z => absurd (zne_f c2) z.1)
      subst this
      refine yOk.adv 9 (pc' := 40) (lv' := [(2, .int 0), (0, .ref 93), (1, .int 2)]) (st' := [.int 0]) (M' := zup M 99 2 (-9)) rfl ?_
      exact yOk.ret _ rfl rfl rfl
  · exact absurd c1 (by decide)
theorem m_sheet_2 (M N : zMm) (l n : Int32) (v : Int32) (hl : 0 ≤ l.toInt ∧ l.toInt ≤ 2) (hn : n.toInt ≤ 72) (hv : (n.toInt < 0 ∧ v = -10 - 4 ∧ N = zup (zup M 0 14 0) 0 14 4) ∨ (0 ≤ n.toInt ∧ v = 1 ∧ N = zfil (zup (zup (zup M 0 14 0) 89 0 l) 89 1 n) 90 72 0)) : yOk 57 0 [(0, .ref 0), (1, .int 2), (2, .int l), (3, .int n)] [] M (some (.int v)) N := by
  have e72 : ((72 : Int32)).toInt = 72 := rfl
  have e0 : ((0 : Int32)).toInt = 0 := rfl
  refine yOk.adv 6 (pc' := 8) (lv' := [(0, .ref 0), (1, .int 2), (2, .int l), (3, .int n)]) (st' := [.int 3, .int 0, .int 2]) (M' := zup M 0 14 0) rfl ?_
  refine yOk.call (M1 := zup M 0 14 0) _ rfl rfl rfl rfl rfl (m_fromV (zup M 0 14 0) 2 0 3 0 3 rfl rfl 1 (Or.inl ⟨by decide, rfl⟩)) ?_
  show yOk 57 11 [(0, .ref 0), (1, .int 2), (2, .int l), (3, .int n)] [.int 1] (zup M 0 14 0) _ _
  refine yOk.if1 .ne _ _ _ _ rfl (fun c1 => ?_) (fun c1 => ?_)
  · refine yOk.adv 3 (pc' := 19) (lv' := [(0, .ref 0), (1, .int 2), (2, .int l), (3, .int n)]) (st' := [.int 2, .int 0, .int l]) (M' := zup M 0 14 0) rfl ?_
    refine yOk.call (M1 := zup M 0 14 0) _ rfl rfl rfl rfl rfl (m_fromV (zup M 0 14 0) l 0 2 0 2 rfl rfl 1 (Or.inl ⟨hl, rfl⟩)) ?_
    show yOk 57 22 [(0, .ref 0), (1, .int 2), (2, .int l), (3, .int n)] [.int 1] (zup M 0 14 0) _ _
    refine yOk.if1 .eq _ _ _ _ rfl (fun c2 => ?_) (fun c2 => ?_)
    · exact absurd c2 (by decide)
    · refine yOk.adv 2 (pc' := 28) (lv' := [(0, .ref 0), (1, .int 2), (2, .int l), (3, .int n)]) (st' := [.int 72, .int n]) (M' := zup M 0 14 0) rfl ?_
      refine yOk.if2 .le _ _ _ _ rfl (fun c3 => ?_) (fun c3 => ?_)
      · refine yOk.adv 1 (pc' := 35) (lv' := [(0, .ref 0), (1, .int 2), (2, .int l), (3, .int n)]) (st' := [.int n]) (M' := zup M 0 14 0) rfl ?_
        refine yOk.if1 .ge _ _ _ _ rfl (fun c4 => ?_) (fun c4 => ?_)
        · have h0 : 0 ≤ n.toInt := Classical.byContradiction fun hh => zge_t c4 (i32_lt.mpr (by omega))
          obtain ⟨rfl, rfl⟩ : v = 1 ∧ N = zfil (zup (zup (zup M 0 14 0) 89 0 l) 89 1 n) 90 72 0 := hv.elim (fun z => absurd z.1 (by omega)) (fun z => z.2)
          refine yOk.adv 6 (pc' := 52) (lv' := [(0, .ref 0), (1, .int 2), (2, .int l), (3, .int n)]) (st' := [.int n, .int l, .ref 89]) (M' := zup M 0 14 0) rfl ?_
          refine yOk.call (M1 := zfil (zup (zup (zup M 0 14 0) 89 0 l) 89 1 n) 90 72 0) _ rfl rfl rfl rfl rfl (m_renew_89 (zup M 0 14 0) l n) ?_
          show yOk 57 55 [(0, .ref 0), (1, .int 2), (2, .int l), (3, .int n)] [] (zfil (zup (zup (zup M 0 14 0) 89 0 l) 89 1 n) 90 72 0) _ _
          refine yOk.adv 1 (pc' := 56) (lv' := [(0, .ref 0), (1, .int 2), (2, .int l), (3, .int n)]) (st' := [.int 1]) (M' := zfil (zup (zup (zup M 0 14 0) 89 0 l) 89 1 n) 90 72 0) rfl ?_
          exact yOk.ret _ rfl rfl rfl
        · have h0 := i32_lt.mp (zge_f c4)
          obtain ⟨rfl, rfl⟩ : v = -10 - 4 ∧ N = zup (zup M 0 14 0) 0 14 4 := hv.elim (fun z => z.2) (fun z => absurd z.1 (by omega))
          refine yOk.adv 2 (pc' := 40) (lv' := [(0, .ref 0), (1, .int 2), (2, .int l), (3, .int n)]) (st' := [.int 4, .ref 0]) (M' := zup M 0 14 0) rfl ?_
          refine yOk.call (M1 := zup (zup M 0 14 0) 0 14 4) _ rfl rfl rfl rfl rfl (m_failed (zup M 0 14 0) 4) ?_
          show yOk 57 43 [(0, .ref 0), (1, .int 2), (2, .int l), (3, .int n)] [.int (-10 - 4)] (zup (zup M 0 14 0) 0 14 4) _ _
          exact yOk.ret _ rfl rfl rfl
      · have := i32_lt.mp (zle_f c3)
        omega
  · exact absurd c1 (by decide)
theorem m_lose_3 (M N : zMm) (v : Int32) (hv : (M.1 91 0 = -1 ∧ v = 0 ∧ N = M) ∨ (¬ M.1 91 0 = -1 ∧ v = 1 ∧ N = zup (zup M 91 0 (-1)) 91 1 0)) : yOk 58 0 [(0, .ref 0), (1, .int 3)] [] M (some (.int v)) N := by
  obtain ⟨r1, g1⟩ := zem (M.1 91 0 = -1)
  refine yOk.adv 3 (pc' := 3) (lv' := [(0, .ref 0), (1, .int 3)]) (st' := [.int 3, .int 0, .int 3]) (M' := M) rfl ?_
  refine yOk.call (M1 := M) _ rfl rfl rfl rfl rfl (m_fromV M 3 0 3 0 3 rfl rfl 1 (Or.inl ⟨by decide, rfl⟩)) ?_
  show yOk 58 6 [(0, .ref 0), (1, .int 3)] [.int 1] M _ _
  refine yOk.if1 .ne _ _ _ _ rfl (fun c1 => ?_) (fun c1 => ?_)
  · refine yOk.adv 4 (pc' := 17) (lv' := [(0, .ref 0), (1, .int 3)]) (st' := [.ref 91]) (M' := M) rfl ?_
    refine yOk.call (M1 := M) _ rfl rfl rfl rfl rfl (m_hasNothing_91 M r1 g1) ?_
    show yOk 58 20 [(0, .ref 0), (1, .int 3)] [.int r1] M _ _
    refine yOk.if1 .eq _ _ _ _ rfl (fun c2 => ?_) (fun c2 => ?_)
    · obtain ⟨rfl, rfl⟩ : v = 1 ∧ N = zup (zup M 91 0 (-1)) 91 1 0 := hv.elim (fun z => absurd z.1 (zeq0 g1 c2)) (fun z => z.2)
      refine yOk.adv 4 (pc' := 31) (lv' := [(0, .ref 0), (1, .int 3)]) (st' := [.ref 91]) (M' := M) rfl ?_
      refine yOk.call (M1 := zup (zup M 91 0 (-1)) 91 1 0) _ rfl rfl rfl rfl rfl (m_empty_91 M) ?_
      show yOk 58 34 [(0, .ref 0), (1, .int 3)] [] (zup (zup M 91 0 (-1)) 91 1 0) _ _
      refine yOk.adv 1 (pc' := 35) (lv' := [(0, .ref 0), (1, .int 3)]) (st' := [.int 1]) (M' := zup (zup M 91 0 (-1)) 91 1 0) rfl ?_
      exact yOk.ret _ rfl rfl rfl
    · obtain ⟨rfl, rfl⟩ : v = 0 ∧ N = M := hv.elim (fun z => z.2) (fun z => absurd (zeq1 g1 c2) z.1)
      refine yOk.adv 1 (pc' := 24) (lv' := [(0, .ref 0), (1, .int 3)]) (st' := [.int 0]) (M' := N) rfl ?_
      exact yOk.ret _ rfl rfl rfl
  · exact absurd c1 (by decide)
theorem r_lose_3 (M : zMm) (v : Int32) (hv : (M.1 99 3 = -9 ∧ v = 0) ∨ (¬ M.1 99 3 = -9 ∧ v = 1)) : yOk 154 0 [(0, .ref 93), (1, .int 3)] [] M (some (.int v)) (zup M 99 3 (-9)) := by
  refine yOk.adv 4 (pc' := 6) (lv' := [(0, .ref 93), (1, .int 3)]) (st' := [.long 3, .long 0, .long 3]) (M' := M) rfl ?_
  refine yOk.call (M1 := M) _ rfl rfl rfl rfl rfl (r_withinV M 3 0 3 0 3 rfl rfl 1 (Or.inl ⟨by decide, rfl⟩)) ?_
  show yOk 154 9 [(0, .ref 93), (1, .int 3)] [.int 1] M _ _
  refine yOk.if1 .ne _ _ _ _ rfl (fun c1 => ?_) (fun c1 => ?_)
  · refine yOk.adv 5 (pc' := 22) (lv' := [(0, .ref 93), (1, .int 3)]) (st' := [.int (-9), .int (M.1 99 3)]) (M' := M) rfl ?_
    refine yOk.if2 .ne _ _ _ _ rfl (fun c2 => ?_) (fun c2 => ?_)
    · have : v = 1 := hv.elim (fun z => absurd z.1 (zne_t c2)) (fun z => z.2)
      subst this
      refine yOk.adv 8 (pc' := 40) (lv' := [(2, .int 1), (0, .ref 93), (1, .int 3)]) (st' := [.int 1]) (M' := zup M 99 3 (-9)) rfl ?_
      exact yOk.ret _ rfl rfl rfl
    · have : v = 0 := hv.elim (fun z => z.2) (fun z => absurd (zne_f c2) z.1)
      subst this
      refine yOk.adv 9 (pc' := 40) (lv' := [(2, .int 0), (0, .ref 93), (1, .int 3)]) (st' := [.int 0]) (M' := zup M 99 3 (-9)) rfl ?_
      exact yOk.ret _ rfl rfl rfl
  · exact absurd c1 (by decide)
theorem m_sheet_3 (M N : zMm) (l n : Int32) (v : Int32) (hl : 0 ≤ l.toInt ∧ l.toInt ≤ 2) (hn : n.toInt ≤ 72) (hv : (n.toInt < 0 ∧ v = -10 - 4 ∧ N = zup (zup M 0 14 0) 0 14 4) ∨ (0 ≤ n.toInt ∧ v = 1 ∧ N = zfil (zup (zup (zup M 0 14 0) 91 0 l) 91 1 n) 92 72 0)) : yOk 57 0 [(0, .ref 0), (1, .int 3), (2, .int l), (3, .int n)] [] M (some (.int v)) N := by
  have e72 : ((72 : Int32)).toInt = 72 := rfl
  have e0 : ((0 : Int32)).toInt = 0 := rfl
  refine yOk.adv 6 (pc' := 8) (lv' := [(0, .ref 0), (1, .int 3), (2, .int l), (3, .int n)]) (st' := [.int 3, .int 0, .int 3]) (M' := zup M 0 14 0) rfl ?_
  refine yOk.call (M1 := zup M 0 14 0) _ rfl rfl rfl rfl rfl (m_fromV (zup M 0 14 0) 3 0 3 0 3 rfl rfl 1 (Or.inl ⟨by decide, rfl⟩)) ?_
  show yOk 57 11 [(0, .ref 0), (1, .int 3), (2, .int l), (3, .int n)] [.int 1] (zup M 0 14 0) _ _
  refine yOk.if1 .ne _ _ _ _ rfl (fun c1 => ?_) (fun c1 => ?_)
  · refine yOk.adv 3 (pc' := 19) (lv' := [(0, .ref 0), (1, .int 3), (2, .int l), (3, .int n)]) (st' := [.int 2, .int 0, .int l]) (M' := zup M 0 14 0) rfl ?_
    refine yOk.call (M1 := zup M 0 14 0) _ rfl rfl rfl rfl rfl (m_fromV (zup M 0 14 0) l 0 2 0 2 rfl rfl 1 (Or.inl ⟨hl, rfl⟩)) ?_
    show yOk 57 22 [(0, .ref 0), (1, .int 3), (2, .int l), (3, .int n)] [.int 1] (zup M 0 14 0) _ _
    refine yOk.if1 .eq _ _ _ _ rfl (fun c2 => ?_) (fun c2 => ?_)
    · exact absurd c2 (by decide)
    · refine yOk.adv 2 (pc' := 28) (lv' := [(0, .ref 0), (1, .int 3), (2, .int l), (3, .int n)]) (st' := [.int 72, .int n]) (M' := zup M 0 14 0) rfl ?_
      refine yOk.if2 .le _ _ _ _ rfl (fun c3 => ?_) (fun c3 => ?_)
      · refine yOk.adv 1 (pc' := 35) (lv' := [(0, .ref 0), (1, .int 3), (2, .int l), (3, .int n)]) (st' := [.int n]) (M' := zup M 0 14 0) rfl ?_
        refine yOk.if1 .ge _ _ _ _ rfl (fun c4 => ?_) (fun c4 => ?_)
        · have h0 : 0 ≤ n.toInt := Classical.byContradiction fun hh => zge_t c4 (i32_lt.mpr (by omega))
          obtain ⟨rfl, rfl⟩ : v = 1 ∧ N = zfil (zup (zup (zup M 0 14 0) 91 0 l) 91 1 n) 92 72 0 := hv.elim (fun z => absurd z.1 (by omega)) (fun z => z.2)
          refine yOk.adv 6 (pc' := 52) (lv' := [(0, .ref 0), (1, .int 3), (2, .int l), (3, .int n)]) (st' := [.int n, .int l, .ref 91]) (M' := zup M 0 14 0) rfl ?_
          refine yOk.call (M1 := zfil (zup (zup (zup M 0 14 0) 91 0 l) 91 1 n) 92 72 0) _ rfl rfl rfl rfl rfl (m_renew_91 (zup M 0 14 0) l n) ?_
          show yOk 57 55 [(0, .ref 0), (1, .int 3), (2, .int l), (3, .int n)] [] (zfil (zup (zup (zup M 0 14 0) 91 0 l) 91 1 n) 92 72 0) _ _
          refine yOk.adv 1 (pc' := 56) (lv' := [(0, .ref 0), (1, .int 3), (2, .int l), (3, .int n)]) (st' := [.int 1]) (M' := zfil (zup (zup (zup M 0 14 0) 91 0 l) 91 1 n) 92 72 0) rfl ?_
          exact yOk.ret _ rfl rfl rfl
        · have h0 := i32_lt.mp (zge_f c4)
          obtain ⟨rfl, rfl⟩ : v = -10 - 4 ∧ N = zup (zup M 0 14 0) 0 14 4 := hv.elim (fun z => z.2) (fun z => absurd z.1 (by omega))
          refine yOk.adv 2 (pc' := 40) (lv' := [(0, .ref 0), (1, .int 3), (2, .int l), (3, .int n)]) (st' := [.int 4, .ref 0]) (M' := zup M 0 14 0) rfl ?_
          refine yOk.call (M1 := zup (zup M 0 14 0) 0 14 4) _ rfl rfl rfl rfl rfl (m_failed (zup M 0 14 0) 4) ?_
          show yOk 57 43 [(0, .ref 0), (1, .int 3), (2, .int l), (3, .int n)] [.int (-10 - 4)] (zup (zup M 0 14 0) 0 14 4) _ _
          exact yOk.ret _ rfl rfl rfl
      · have := i32_lt.mp (zle_f c3)
        omega
  · exact absurd c1 (by decide)
