/-! ===== calls that find nothing: drop, about, tell, count, as; places, put, at; is without places; told ===== -/
theorem m_drop_no (M : zMm) (n : Nat) (hs : M.1 1 3 = nI n) (hn : n ≤ 24) (p : Int32) (h : ¬ (0 ≤ p.toInt ∧ p.toInt < n)) : yOk 43 0 [(0, .ref 0), (1, .int p)] [] M (some (.int (-1))) M := by
  refine yR.ok ?_
  refine yR.adv 3 (pc' := 5) (lv' := [(0, .ref 0), (1, .int p)]) (st' := [.int p, .ref 1]) (M' := M) rfl ?_
  refine yR.callK (M1 := M) _ rfl rfl rfl rfl rfl (m_has M n hs hn p 0 (Or.inr ⟨h, rfl⟩)) ?_
  show yR 43 8 [(0, .ref 0), (1, .int p)] [.int 0] M _
  refine yR.if1 .ne _ _ _ _ rfl (fun q1 => ?_) (fun q1 => ?_)
  · exact absurd q1 (by decide)
  · refine yR.adv 1 (pc' := 12) (lv' := [(0, .ref 0), (1, .int p)]) (st' := [.int (-1)]) (M' := M) rfl ?_
    refine yR.ret _ rfl rfl rfl ?_
    exact ⟨rfl, rfl⟩
theorem r_drop_no (M : zMm) (n : Nat) (hs : M.1 93 7 = nI n) (hn : n ≤ 24) (p : Int32) (h : ¬ (0 ≤ p.toInt ∧ p.toInt < n)) : yOk 129 0 [(0, .ref 93), (1, .int p)] [] M (some (.int (-1))) M := by
  refine yR.ok ?_
  refine yR.adv 2 (pc' := 2) (lv' := [(0, .ref 93), (1, .int p)]) (st' := [.int p, .ref 93]) (M' := M) rfl ?_
  refine yR.callK (M1 := M) _ rfl rfl rfl rfl rfl (r_isPlace M n hs hn p 0 (Or.inr ⟨h, rfl⟩)) ?_
  show yR 129 5 [(0, .ref 93), (1, .int p)] [.int 0] M _
  refine yR.if1 .ne _ _ _ _ rfl (fun q1 => ?_) (fun q1 => ?_)
  · exact absurd q1 (by decide)
  · refine yR.adv 1 (pc' := 9) (lv' := [(0, .ref 93), (1, .int p)]) (st' := [.int (-1)]) (M' := M) rfl ?_
    refine yR.ret _ rfl rfl rfl ?_
    exact ⟨rfl, rfl⟩
theorem m_about_no (M : zMm) (n : Nat) (hs : M.1 1 3 = nI n) (hn : n ≤ 24) (p x : Int32) (h : ¬ (0 ≤ p.toInt ∧ p.toInt < n)) : yOk 44 0 [(0, .ref 0), (1, .int p), (2, .int x)] [] M (some (.int (-1))) M := by
  refine yR.ok ?_
  refine yR.adv 3 (pc' := 5) (lv' := [(0, .ref 0), (1, .int p), (2, .int x)]) (st' := [.int p, .ref 1]) (M' := M) rfl ?_
  refine yR.callK (M1 := M) _ rfl rfl rfl rfl rfl (m_has M n hs hn p 0 (Or.inr ⟨h, rfl⟩)) ?_
  show yR 44 8 [(0, .ref 0), (1, .int p), (2, .int x)] [.int 0] M _
  refine yR.if1 .ne _ _ _ _ rfl (fun q1 => ?_) (fun q1 => ?_)
  · exact absurd q1 (by decide)
  · refine yR.adv 1 (pc' := 12) (lv' := [(0, .ref 0), (1, .int p), (2, .int x)]) (st' := [.int (-1)]) (M' := M) rfl ?_
    refine yR.ret _ rfl rfl rfl ?_
    exact ⟨rfl, rfl⟩
theorem r_about_no (M : zMm) (n : Nat) (hs : M.1 93 7 = nI n) (hn : n ≤ 24) (p x : Int32) (h : ¬ (0 ≤ p.toInt ∧ p.toInt < n)) : yOk 132 0 [(0, .ref 93), (1, .int p), (2, .int x)] [] M (some (.int (-1))) M := by
  refine yR.ok ?_
  refine yR.adv 2 (pc' := 2) (lv' := [(0, .ref 93), (1, .int p), (2, .int x)]) (st' := [.int p, .ref 93]) (M' := M) rfl ?_
  refine yR.callK (M1 := M) _ rfl rfl rfl rfl rfl (r_isPlace M n hs hn p 0 (Or.inr ⟨h, rfl⟩)) ?_
  show yR 132 5 [(0, .ref 93), (1, .int p), (2, .int x)] [.int 0] M _
  refine yR.if1 .ne _ _ _ _ rfl (fun q1 => ?_) (fun q1 => ?_)
  · exact absurd q1 (by decide)
  · refine yR.adv 1 (pc' := 9) (lv' := [(0, .ref 93), (1, .int p), (2, .int x)]) (st' := [.int (-1)]) (M' := M) rfl ?_
    refine yR.ret _ rfl rfl rfl ?_
    exact ⟨rfl, rfl⟩
theorem m_tell_no (M : zMm) (n : Nat) (hs : M.1 1 3 = nI n) (hn : n ≤ 24) (p : Int32) (h : ¬ (0 ≤ p.toInt ∧ p.toInt < n)) : yOk 61 0 [(0, .ref 0), (1, .int p)] [] M (some (.int (-1))) M := by
  refine yR.ok ?_
  refine yR.adv 3 (pc' := 5) (lv' := [(0, .ref 0), (1, .int p)]) (st' := [.int p, .ref 1]) (M' := M) rfl ?_
  refine yR.callK (M1 := M) _ rfl rfl rfl rfl rfl (m_has M n hs hn p 0 (Or.inr ⟨h, rfl⟩)) ?_
  show yR 61 8 [(0, .ref 0), (1, .int p)] [.int 0] M _
  refine yR.if1 .ne _ _ _ _ rfl (fun q1 => ?_) (fun q1 => ?_)
  · exact absurd q1 (by decide)
  · refine yR.adv 1 (pc' := 12) (lv' := [(0, .ref 0), (1, .int p)]) (st' := [.int (-1)]) (M' := M) rfl ?_
    refine yR.ret _ rfl rfl rfl ?_
    exact ⟨rfl, rfl⟩
theorem r_tell_no (M : zMm) (n : Nat) (hs : M.1 93 7 = nI n) (hn : n ≤ 24) (p : Int32) (h : ¬ (0 ≤ p.toInt ∧ p.toInt < n)) : yOk 158 0 [(0, .ref 93), (1, .int p)] [] M (some (.int (-1))) M := by
  refine yR.ok ?_
  refine yR.adv 2 (pc' := 2) (lv' := [(0, .ref 93), (1, .int p)]) (st' := [.int p, .ref 93]) (M' := M) rfl ?_
  refine yR.callK (M1 := M) _ rfl rfl rfl rfl rfl (r_isPlace M n hs hn p 0 (Or.inr ⟨h, rfl⟩)) ?_
  show yR 158 5 [(0, .ref 93), (1, .int p)] [.int 0] M _
  refine yR.if1 .ne _ _ _ _ rfl (fun q1 => ?_) (fun q1 => ?_)
  · exact absurd q1 (by decide)
  · refine yR.adv 1 (pc' := 9) (lv' := [(0, .ref 93), (1, .int p)]) (st' := [.int (-1)]) (M' := M) rfl ?_
    refine yR.ret _ rfl rfl rfl ?_
    exact ⟨rfl, rfl⟩
theorem m_count_no (M : zMm) (n : Nat) (hs : M.1 1 3 = nI n) (hn : n ≤ 24) (p : Int32) (h : ¬ (0 ≤ p.toInt ∧ p.toInt < n)) : yOk 62 0 [(0, .ref 0), (1, .int p)] [] M (some (.int (-1))) M := by
  refine yR.ok ?_
  refine yR.adv 3 (pc' := 5) (lv' := [(0, .ref 0), (1, .int p)]) (st' := [.int p, .ref 1]) (M' := M) rfl ?_
  refine yR.callK (M1 := M) _ rfl rfl rfl rfl rfl (m_has M n hs hn p 0 (Or.inr ⟨h, rfl⟩)) ?_
  show yR 62 8 [(0, .ref 0), (1, .int p)] [.int 0] M _
  refine yR.if1 .ne _ _ _ _ rfl (fun q1 => ?_) (fun q1 => ?_)
  · exact absurd q1 (by decide)
  · refine yR.adv 1 (pc' := 12) (lv' := [(0, .ref 0), (1, .int p)]) (st' := [.int (-1)]) (M' := M) rfl ?_
    refine yR.ret _ rfl rfl rfl ?_
    exact ⟨rfl, rfl⟩
theorem r_count_no (M : zMm) (n : Nat) (hs : M.1 93 7 = nI n) (hn : n ≤ 24) (p : Int32) (h : ¬ (0 ≤ p.toInt ∧ p.toInt < n)) : yOk 159 0 [(0, .ref 93), (1, .int p)] [] M (some (.int (-1))) M := by
  refine yR.ok ?_
  refine yR.adv 2 (pc' := 2) (lv' := [(0, .ref 93), (1, .int p)]) (st' := [.int p, .ref 93]) (M' := M) rfl ?_
  refine yR.callK (M1 := M) _ rfl rfl rfl rfl rfl (r_isPlace M n hs hn p 0 (Or.inr ⟨h, rfl⟩)) ?_
  show yR 159 5 [(0, .ref 93), (1, .int p)] [.int 0] M _
  refine yR.if1 .ne _ _ _ _ rfl (fun q1 => ?_) (fun q1 => ?_)
  · exact absurd q1 (by decide)
  · refine yR.adv 1 (pc' := 9) (lv' := [(0, .ref 93), (1, .int p)]) (st' := [.int (-1)]) (M' := M) rfl ?_
    refine yR.ret _ rfl rfl rfl ?_
    exact ⟨rfl, rfl⟩
theorem m_as_no (M : zMm) (n : Nat) (hs : M.1 1 3 = nI n) (hn : n ≤ 24) (p x : Int32) (h : ¬ (0 ≤ p.toInt ∧ p.toInt < n)) : yOk 63 0 [(0, .ref 0), (1, .int p), (2, .int x)] [] M (some (.int (-1))) (zup M 0 14 0) := by
  refine yR.ok ?_
  refine yR.adv 6 (pc' := 10) (lv' := [(0, .ref 0), (1, .int p), (2, .int x)]) (st' := [.int p, .ref 1]) (M' := zup M 0 14 0) rfl ?_
  refine yR.callK (M1 := zup M 0 14 0) _ rfl rfl rfl rfl rfl (m_has (zup M 0 14 0) n (by rw [zup_i, if_neg (by omega)]; exact hs) hn p 0 (Or.inr ⟨h, rfl⟩)) ?_
  show yR 63 13 [(0, .ref 0), (1, .int p), (2, .int x)] [.int 0] (zup M 0 14 0) _
  refine yR.if1 .ne _ _ _ _ rfl (fun q1 => ?_) (fun q1 => ?_)
  · exact absurd q1 (by decide)
  · refine yR.adv 1 (pc' := 17) (lv' := [(0, .ref 0), (1, .int p), (2, .int x)]) (st' := [.int (-1)]) (M' := zup M 0 14 0) rfl ?_
    refine yR.ret _ rfl rfl rfl ?_
    exact ⟨rfl, rfl⟩
theorem r_as_no (M : zMm) (n : Nat) (hs : M.1 93 7 = nI n) (hn : n ≤ 24) (p x : Int32) (h : ¬ (0 ≤ p.toInt ∧ p.toInt < n)) : yOk 160 0 [(0, .ref 93), (1, .int p), (2, .int x)] [] M (some (.int (-1))) (zup M 93 0 0) := by
  refine yR.ok ?_
  refine yR.adv 5 (pc' := 7) (lv' := [(0, .ref 93), (1, .int p), (2, .int x)]) (st' := [.int p, .ref 93]) (M' := zup M 93 0 0) rfl ?_
  refine yR.callK (M1 := zup M 93 0 0) _ rfl rfl rfl rfl rfl (r_isPlace (zup M 93 0 0) n (by rw [zup_i, if_neg (by omega)]; exact hs) hn p 0 (Or.inr ⟨h, rfl⟩)) ?_
  show yR 160 10 [(0, .ref 93), (1, .int p), (2, .int x)] [.int 0] (zup M 93 0 0) _
  refine yR.if1 .ne _ _ _ _ rfl (fun q1 => ?_) (fun q1 => ?_)
  · exact absurd q1 (by decide)
  · refine yR.adv 1 (pc' := 14) (lv' := [(0, .ref 93), (1, .int p), (2, .int x)]) (st' := [.int (-1)]) (M' := zup M 93 0 0) rfl ?_
    refine yR.ret _ rfl rfl rfl ?_
    exact ⟨rfl, rfl⟩
theorem m_places_no (M : zMm) (s l i n : Int32) (v : Int32) (hv : (¬ (0 ≤ s.toInt ∧ s.toInt ≤ 3) ∧ v = -1) ∨ ((0 ≤ s.toInt ∧ s.toInt ≤ 3) ∧ ¬ (0 ≤ l.toInt ∧ l.toInt ≤ 2) ∧ v = -2)) : yOk 42 0 [(0, .ref 0), (1, .int s), (2, .int l), (3, .int i), (4, .int n)] [] M (some (.int v)) (zup M 0 14 0) := by
  refine yR.ok ?_
  obtain ⟨v1, h1⟩ := zem (0 ≤ s.toInt ∧ s.toInt ≤ 3)
  obtain ⟨v2, h2⟩ := zem (0 ≤ l.toInt ∧ l.toInt ≤ 2)
  refine yR.adv 6 (pc' := 8) (lv' := [(0, .ref 0), (1, .int s), (2, .int l), (3, .int i), (4, .int n)]) (st' := [.int 3, .int 0, .int s]) (M' := zup M 0 14 0) rfl ?_
  refine yR.callK (M1 := zup M 0 14 0) _ rfl rfl rfl rfl rfl (m_fromV (zup M 0 14 0) s 0 3 0 3 rfl rfl v1 h1) ?_
  show yR 42 11 [(0, .ref 0), (1, .int s), (2, .int l), (3, .int i), (4, .int n)] [.int v1] (zup M 0 14 0) _
  refine yR.if1 .ne _ _ _ _ rfl (fun q1 => ?_) (fun q1 => ?_)
  · have z1 := zne0 h1 q1
    have hv2 := hv.resolve_left (fun z => z.1 z1)
    refine yR.adv 3 (pc' := 19) (lv' := [(0, .ref 0), (1, .int s), (2, .int l), (3, .int i), (4, .int n)]) (st' := [.int 2, .int 0, .int l]) (M' := zup M 0 14 0) rfl ?_
    refine yR.callK (M1 := zup M 0 14 0) _ rfl rfl rfl rfl rfl (m_fromV (zup M 0 14 0) l 0 2 0 2 rfl rfl v2 h2) ?_
    show yR 42 22 [(0, .ref 0), (1, .int s), (2, .int l), (3, .int i), (4, .int n)] [.int v2] (zup M 0 14 0) _
    refine yR.if1 .ne _ _ _ _ rfl (fun q2 => ?_) (fun q2 => ?_)
    · exact absurd (zne0 h2 q2) hv2.2.1
    · refine yR.adv 1 (pc' := 27) (lv' := [(0, .ref 0), (1, .int s), (2, .int l), (3, .int i), (4, .int n)]) (st' := [.int (-2)]) (M' := zup M 0 14 0) rfl ?_
      refine yR.ret _ rfl rfl rfl ?_
      exact ⟨by rw [hv2.2.2], rfl⟩
  · have z1 := zne1 h1 q1
    have hv0 : v = -1 := hv.elim (fun z => z.2) (fun z => absurd z.1 z1)
    refine yR.adv 1 (pc' := 15) (lv' := [(0, .ref 0), (1, .int s), (2, .int l), (3, .int i), (4, .int n)]) (st' := [.int (-1)]) (M' := zup M 0 14 0) rfl ?_
    refine yR.ret _ rfl rfl rfl ?_
    exact ⟨by rw [hv0], rfl⟩
theorem r_places_no (M : zMm) (s l i n : Int32) (v : Int32) (hv : (¬ (0 ≤ s.toInt ∧ s.toInt ≤ 3) ∧ v = -1) ∨ ((0 ≤ s.toInt ∧ s.toInt ≤ 3) ∧ ¬ (0 ≤ l.toInt ∧ l.toInt ≤ 2) ∧ v = -2)) : yOk 128 0 [(0, .ref 93), (1, .int s), (2, .int l), (3, .int i), (4, .int n)] [] M (some (.int v)) (zup M 93 0 0) := by
  refine yR.ok ?_
  have ts : s.toInt64.toInt = s.toInt := Int32.toInt_toInt64 s
  have tl : l.toInt64.toInt = l.toInt := Int32.toInt_toInt64 l
  obtain ⟨v1, h1⟩ := zem (0 ≤ s.toInt64.toInt ∧ s.toInt64.toInt ≤ 3)
  obtain ⟨v2, h2⟩ := zem (0 ≤ l.toInt64.toInt ∧ l.toInt64.toInt ≤ 2)
  refine yR.adv 7 (pc' := 11) (lv' := [(0, .ref 93), (1, .int s), (2, .int l), (3, .int i), (4, .int n)]) (st' := [.long 3, .long 0, .long s.toInt64]) (M' := zup M 93 0 0) rfl ?_
  refine yR.callK (M1 := zup M 93 0 0) _ rfl rfl rfl rfl rfl (r_withinV (zup M 93 0 0) s.toInt64 0 3 0 3 rfl rfl v1 h1) ?_
  show yR 128 14 [(0, .ref 93), (1, .int s), (2, .int l), (3, .int i), (4, .int n)] [.int v1] (zup M 93 0 0) _
  refine yR.if1 .ne _ _ _ _ rfl (fun q1 => ?_) (fun q1 => ?_)
  · have z1 := zne0 h1 q1
    rw [ts] at z1
    have hv2 := hv.resolve_left (fun z => z.1 z1)
    refine yR.adv 4 (pc' := 25) (lv' := [(0, .ref 93), (1, .int s), (2, .int l), (3, .int i), (4, .int n)]) (st' := [.long 2, .long 0, .long l.toInt64]) (M' := zup M 93 0 0) rfl ?_
    refine yR.callK (M1 := zup M 93 0 0) _ rfl rfl rfl rfl rfl (r_withinV (zup M 93 0 0) l.toInt64 0 2 0 2 rfl rfl v2 h2) ?_
    show yR 128 28 [(0, .ref 93), (1, .int s), (2, .int l), (3, .int i), (4, .int n)] [.int v2] (zup M 93 0 0) _
    refine yR.if1 .ne _ _ _ _ rfl (fun q2 => ?_) (fun q2 => ?_)
    · have z2 := zne0 h2 q2
      rw [tl] at z2
      exact absurd z2 hv2.2.1
    · refine yR.adv 1 (pc' := 33) (lv' := [(0, .ref 93), (1, .int s), (2, .int l), (3, .int i), (4, .int n)]) (st' := [.int (-2)]) (M' := zup M 93 0 0) rfl ?_
      refine yR.ret _ rfl rfl rfl ?_
      exact ⟨by rw [hv2.2.2], rfl⟩
  · have z1 := zne1 h1 q1
    rw [ts] at z1
    have hv0 : v = -1 := hv.elim (fun z => z.2) (fun z => absurd z.1 z1)
    refine yR.adv 1 (pc' := 18) (lv' := [(0, .ref 93), (1, .int s), (2, .int l), (3, .int i), (4, .int n)]) (st' := [.int (-1)]) (M' := zup M 93 0 0) rfl ?_
    refine yR.ret _ rfl rfl rfl ?_
    exact ⟨by rw [hv0], rfl⟩
theorem r_places_null (M : zMm) (s : Nat) (hs : s < 4) (hn : M.1 99 s = -9) (l i n : Int32) (hl : 0 ≤ l.toInt ∧ l.toInt ≤ 2) : yOk 128 0 [(0, .ref 93), (1, .int (nI s)), (2, .int l), (3, .int i), (4, .int n)] [] M (some (.int (-11))) (zup (zup M 93 0 0) 93 0 1) := by
  refine yR.ok ?_
  have ts : (nI s).toInt64.toInt = s := by rw [Int32.toInt_toInt64, nI_toInt (by omega)]
  have tl : l.toInt64.toInt = l.toInt := Int32.toInt_toInt64 l
  have hn' : (zup M 93 0 0).1 99 s = -9 := by rw [zup_i, if_neg (by omega)]; exact hn
  refine yR.adv 7 (pc' := 11) (lv' := [(0, .ref 93), (1, .int (nI s)), (2, .int l), (3, .int i), (4, .int n)]) (st' := [.long 3, .long 0, .long ((nI s).toInt64)]) (M' := zup M 93 0 0) rfl ?_
  refine yR.callK (M1 := zup M 93 0 0) _ rfl rfl rfl rfl rfl (r_withinV (zup M 93 0 0) (nI s).toInt64 0 3 0 3 rfl rfl 1 (Or.inl ⟨by rw [ts]; omega, rfl⟩)) ?_
  show yR 128 14 [(0, .ref 93), (1, .int (nI s)), (2, .int l), (3, .int i), (4, .int n)] [.int 1] (zup M 93 0 0) _
  refine yR.if1 .ne _ _ _ _ rfl (fun q1 => ?_) (fun q1 => ?_)
  · refine yR.adv 4 (pc' := 25) (lv' := [(0, .ref 93), (1, .int (nI s)), (2, .int l), (3, .int i), (4, .int n)]) (st' := [.long 2, .long 0, .long l.toInt64]) (M' := zup M 93 0 0) rfl ?_
    refine yR.callK (M1 := zup M 93 0 0) _ rfl rfl rfl rfl rfl (r_withinV (zup M 93 0 0) l.toInt64 0 2 0 2 rfl rfl 1 (Or.inl ⟨by rw [tl]; exact hl, rfl⟩)) ?_
    show yR 128 28 [(0, .ref 93), (1, .int (nI s)), (2, .int l), (3, .int i), (4, .int n)] [.int 1] (zup M 93 0 0) _
    refine yR.if1 .ne _ _ _ _ rfl (fun q2 => ?_) (fun q2 => ?_)
    · refine yR.adv 3 (pc' := 39) (lv' := [(0, .ref 93), (1, .int (nI s)), (2, .int l), (3, .int i), (4, .int n)]) (st' := [.int (nI s), .ref 99]) (M' := zup M 93 0 0) rfl ?_
      refine yR.iald s _ _ _ rfl rfl (by decide) (rfl) (by omega) ?_
      rw [hn']
      refine yR.adv 1 (pc' := 42) (lv' := [(0, .ref 93), (1, .int (nI s)), (2, .int l), (3, .int i), (4, .int n)]) (st' := [.int (-9), .int (-9)]) (M' := zup M 93 0 0) rfl ?_
      refine yR.if2 .eq _ _ _ _ rfl (fun q3 => ?_) (fun q3 => ?_)
      · refine yR.adv 3 (pc' := 66) (lv' := [(0, .ref 93), (1, .int (nI s)), (2, .int l), (3, .int i), (4, .int n)]) (st' := [.int (nI s), .ref 99]) (M' := zup M 93 0 0) rfl ?_
        refine yR.iald s _ _ _ rfl rfl (by decide) (rfl) (by omega) ?_
        rw [hn']
        refine yR.adv 1 (pc' := 69) (lv' := [(0, .ref 93), (1, .int (nI s)), (2, .int l), (3, .int i), (4, .int n)]) (st' := [.int (-9), .int (-9)]) (M' := zup M 93 0 0) rfl ?_
        refine yR.if2 .ne _ _ _ _ rfl (fun q4 => ?_) (fun q4 => ?_)
        · exact absurd q4 (by decide)
        · refine yR.adv 2 (pc' := 74) (lv' := [(0, .ref 93), (1, .int (nI s)), (2, .int l), (3, .int i), (4, .int n)]) (st' := [.int 1, .ref 93]) (M' := zup M 93 0 0) rfl ?_
          refine yR.callK (M1 := zup (zup M 93 0 0) 93 0 1) _ rfl rfl rfl rfl rfl (r_fails (zup M 93 0 0) 1) ?_
          show yR 128 77 [(0, .ref 93), (1, .int (nI s)), (2, .int l), (3, .int i), (4, .int n)] [.int (-11)] (zup (zup M 93 0 0) 93 0 1) _
          refine yR.ret _ rfl rfl rfl ?_
          exact ⟨rfl, rfl⟩
      · exact absurd q3 (by decide)
    · exact absurd q2 (by decide)
  · exact absurd q1 (by decide)
theorem r_put_no (M : zMm) (s i n : Int32) (h : ¬ (0 ≤ s.toInt ∧ s.toInt ≤ 3)) : yOk 155 0 [(0, .ref 93), (1, .int s), (2, .int i), (3, .int n)] [] M (some (.int (-1))) (zup M 93 0 0) := by
  refine yR.ok ?_
  refine yR.adv 7 (pc' := 11) (lv' := [(0, .ref 93), (1, .int s), (2, .int i), (3, .int n)]) (st' := [.long 3, .long 0, .long s.toInt64]) (M' := zup M 93 0 0) rfl ?_
  refine yR.callK (M1 := zup M 93 0 0) _ rfl rfl rfl rfl rfl (r_withinV (zup M 93 0 0) s.toInt64 0 3 0 3 rfl rfl 0 (Or.inr ⟨by rw [Int32.toInt_toInt64]; exact h, rfl⟩)) ?_
  show yR 155 14 [(0, .ref 93), (1, .int s), (2, .int i), (3, .int n)] [.int 0] (zup M 93 0 0) _
  refine yR.if1 .ne _ _ _ _ rfl (fun q1 => ?_) (fun q1 => ?_)
  · exact absurd q1 (by decide)
  · refine yR.adv 1 (pc' := 18) (lv' := [(0, .ref 93), (1, .int s), (2, .int i), (3, .int n)]) (st' := [.int (-1)]) (M' := zup M 93 0 0) rfl ?_
    refine yR.ret _ rfl rfl rfl ?_
    exact ⟨rfl, rfl⟩
theorem m_put_no (M : zMm) (s i n : Int32) (h : ¬ (0 ≤ s.toInt ∧ s.toInt ≤ 3)) : yOk 59 0 [(0, .ref 0), (1, .int s), (2, .int i), (3, .int n)] [] M (some (.int (-1))) (zup M 0 14 0) := by
  refine yR.ok ?_
  refine yR.adv 6 (pc' := 8) (lv' := [(0, .ref 0), (1, .int s), (2, .int i), (3, .int n)]) (st' := [.int 3, .int 0, .int s]) (M' := zup M 0 14 0) rfl ?_
  refine yR.callK (M1 := zup M 0 14 0) _ rfl rfl rfl rfl rfl (m_fromV (zup M 0 14 0) s 0 3 0 3 rfl rfl 0 (Or.inr ⟨h, rfl⟩)) ?_
  show yR 59 11 [(0, .ref 0), (1, .int s), (2, .int i), (3, .int n)] [.int 0] (zup M 0 14 0) _
  refine yR.if1 .ne _ _ _ _ rfl (fun q1 => ?_) (fun q1 => ?_)
  · exact absurd q1 (by decide)
  · refine yR.adv 1 (pc' := 15) (lv' := [(0, .ref 0), (1, .int s), (2, .int i), (3, .int n)]) (st' := [.int (-1)]) (M' := zup M 0 14 0) rfl ?_
    refine yR.ret _ rfl rfl rfl ?_
    exact ⟨rfl, rfl⟩
theorem r_put_null (M : zMm) (s : Nat) (hs : s < 4) (hn : M.1 99 s = -9) (i n : Int32) : yOk 155 0 [(0, .ref 93), (1, .int (nI s)), (2, .int i), (3, .int n)] [] M (some (.int (-11))) (zup (zup M 93 0 0) 93 0 1) := by
  refine yR.ok ?_
  have ts : (nI s).toInt64.toInt = s := by rw [Int32.toInt_toInt64, nI_toInt (by omega)]
  have hn' : (zup M 93 0 0).1 99 s = -9 := by rw [zup_i, if_neg (by omega)]; exact hn
  refine yR.adv 7 (pc' := 11) (lv' := [(0, .ref 93), (1, .int (nI s)), (2, .int i), (3, .int n)]) (st' := [.long 3, .long 0, .long ((nI s).toInt64)]) (M' := zup M 93 0 0) rfl ?_
  refine yR.callK (M1 := zup M 93 0 0) _ rfl rfl rfl rfl rfl (r_withinV (zup M 93 0 0) (nI s).toInt64 0 3 0 3 rfl rfl 1 (Or.inl ⟨by rw [ts]; omega, rfl⟩)) ?_
  show yR 155 14 [(0, .ref 93), (1, .int (nI s)), (2, .int i), (3, .int n)] [.int 1] (zup M 93 0 0) _
  refine yR.if1 .ne _ _ _ _ rfl (fun q1 => ?_) (fun q1 => ?_)
  · refine yR.adv 3 (pc' := 24) (lv' := [(0, .ref 93), (1, .int (nI s)), (2, .int i), (3, .int n)]) (st' := [.int (nI s), .ref 99]) (M' := zup M 93 0 0) rfl ?_
    refine yR.iald s _ _ _ rfl rfl (by decide) (rfl) (by omega) ?_
    rw [hn']
    refine yR.adv 1 (pc' := 27) (lv' := [(0, .ref 93), (1, .int (nI s)), (2, .int i), (3, .int n)]) (st' := [.int (-9), .int (-9)]) (M' := zup M 93 0 0) rfl ?_
    refine yR.if2 .ne _ _ _ _ rfl (fun q4 => ?_) (fun q4 => ?_)
    · exact absurd q4 (by decide)
    · refine yR.adv 2 (pc' := 32) (lv' := [(0, .ref 93), (1, .int (nI s)), (2, .int i), (3, .int n)]) (st' := [.int 1, .ref 93]) (M' := zup M 93 0 0) rfl ?_
      refine yR.callK (M1 := zup (zup M 93 0 0) 93 0 1) _ rfl rfl rfl rfl rfl (r_fails (zup M 93 0 0) 1) ?_
      show yR 155 35 [(0, .ref 93), (1, .int (nI s)), (2, .int i), (3, .int n)] [.int (-11)] (zup (zup M 93 0 0) 93 0 1) _
      refine yR.ret _ rfl rfl rfl ?_
      exact ⟨rfl, rfl⟩
  · exact absurd q1 (by decide)
theorem m_at_no (M : zMm) (s i l : Int32) (h : ¬ ((0 ≤ s.toInt ∧ s.toInt ≤ 3) ∧ (0 ≤ l.toInt ∧ l.toInt ≤ 2))) : yOk 60 0 [(0, .ref 0), (1, .int s), (2, .int i), (3, .int l)] [] M (some (.long zlost)) (zup M 0 14 0) := by
  refine yR.ok ?_
  obtain ⟨v1, h1⟩ := zem (0 ≤ s.toInt ∧ s.toInt ≤ 3)
  obtain ⟨v2, h2⟩ := zem (0 ≤ l.toInt ∧ l.toInt ≤ 2)
  refine yR.adv 6 (pc' := 8) (lv' := [(0, .ref 0), (1, .int s), (2, .int i), (3, .int l)]) (st' := [.int 3, .int 0, .int s]) (M' := zup M 0 14 0) rfl ?_
  refine yR.callK (M1 := zup M 0 14 0) _ rfl rfl rfl rfl rfl (m_fromV (zup M 0 14 0) s 0 3 0 3 rfl rfl v1 h1) ?_
  show yR 60 11 [(0, .ref 0), (1, .int s), (2, .int i), (3, .int l)] [.int v1] (zup M 0 14 0) _
  refine yR.if1 .eq _ _ _ _ rfl (fun q1 => ?_) (fun q1 => ?_)
  · refine yR.adv 1 (pc' := 26) (lv' := [(0, .ref 0), (1, .int s), (2, .int i), (3, .int l)]) (st' := [.long (-9223372036854775808)]) (M' := zup M 0 14 0) rfl ?_
    refine yR.ret _ rfl rfl rfl ?_
    exact ⟨rfl, rfl⟩
  · refine yR.adv 3 (pc' := 17) (lv' := [(0, .ref 0), (1, .int s), (2, .int i), (3, .int l)]) (st' := [.int 2, .int 0, .int l]) (M' := zup M 0 14 0) rfl ?_
    refine yR.callK (M1 := zup M 0 14 0) _ rfl rfl rfl rfl rfl (m_fromV (zup M 0 14 0) l 0 2 0 2 rfl rfl v2 h2) ?_
    show yR 60 20 [(0, .ref 0), (1, .int s), (2, .int i), (3, .int l)] [.int v2] (zup M 0 14 0) _
    refine yR.if1 .ne _ _ _ _ rfl (fun q2 => ?_) (fun q2 => ?_)
    · exact absurd ⟨zeq1 h1 q1, zne0 h2 q2⟩ h
    · refine yR.adv 1 (pc' := 26) (lv' := [(0, .ref 0), (1, .int s), (2, .int i), (3, .int l)]) (st' := [.long (-9223372036854775808)]) (M' := zup M 0 14 0) rfl ?_
      refine yR.ret _ rfl rfl rfl ?_
      exact ⟨rfl, rfl⟩
theorem r_at_no (M : zMm) (s i l : Int32) (h : ¬ ((0 ≤ s.toInt ∧ s.toInt ≤ 3) ∧ (0 ≤ l.toInt ∧ l.toInt ≤ 2))) : yOk 156 0 [(0, .ref 93), (1, .int s), (2, .int i), (3, .int l)] [] M (some (.long zlost)) (zup M 93 0 0) := by
  refine yR.ok ?_
  have ts : s.toInt64.toInt = s.toInt := Int32.toInt_toInt64 s
  have tl : l.toInt64.toInt = l.toInt := Int32.toInt_toInt64 l
  obtain ⟨v1, h1⟩ := zem (0 ≤ s.toInt64.toInt ∧ s.toInt64.toInt ≤ 3)
  obtain ⟨v2, h2⟩ := zem (0 ≤ l.toInt64.toInt ∧ l.toInt64.toInt ≤ 2)
  refine yR.adv 7 (pc' := 11) (lv' := [(0, .ref 93), (1, .int s), (2, .int i), (3, .int l)]) (st' := [.long 3, .long 0, .long s.toInt64]) (M' := zup M 93 0 0) rfl ?_
  refine yR.callK (M1 := zup M 93 0 0) _ rfl rfl rfl rfl rfl (r_withinV (zup M 93 0 0) s.toInt64 0 3 0 3 rfl rfl v1 h1) ?_
  show yR 156 14 [(0, .ref 93), (1, .int s), (2, .int i), (3, .int l)] [.int v1] (zup M 93 0 0) _
  refine yR.if1 .eq _ _ _ _ rfl (fun q1 => ?_) (fun q1 => ?_)
  · refine yR.adv 1 (pc' := 32) (lv' := [(0, .ref 93), (1, .int s), (2, .int i), (3, .int l)]) (st' := [.long (-9223372036854775808)]) (M' := zup M 93 0 0) rfl ?_
    refine yR.ret _ rfl rfl rfl ?_
    exact ⟨rfl, rfl⟩
  · refine yR.adv 4 (pc' := 23) (lv' := [(0, .ref 93), (1, .int s), (2, .int i), (3, .int l)]) (st' := [.long 2, .long 0, .long l.toInt64]) (M' := zup M 93 0 0) rfl ?_
    refine yR.callK (M1 := zup M 93 0 0) _ rfl rfl rfl rfl rfl (r_withinV (zup M 93 0 0) l.toInt64 0 2 0 2 rfl rfl v2 h2) ?_
    show yR 156 26 [(0, .ref 93), (1, .int s), (2, .int i), (3, .int l)] [.int v2] (zup M 93 0 0) _
    refine yR.if1 .ne _ _ _ _ rfl (fun q2 => ?_) (fun q2 => ?_)
    · have z1 := zeq1 h1 q1
      have z2 := zne0 h2 q2
      rw [ts] at z1
      rw [tl] at z2
      exact absurd ⟨z1, z2⟩ h
    · refine yR.adv 1 (pc' := 32) (lv' := [(0, .ref 93), (1, .int s), (2, .int i), (3, .int l)]) (st' := [.long (-9223372036854775808)]) (M' := zup M 93 0 0) rfl ?_
      refine yR.ret _ rfl rfl rfl ?_
      exact ⟨rfl, rfl⟩
theorem r_at_null (M : zMm) (s : Nat) (hs : s < 4) (hn : M.1 99 s = -9) (i l : Int32) (hl : 0 ≤ l.toInt ∧ l.toInt ≤ 2) : yOk 156 0 [(0, .ref 93), (1, .int (nI s)), (2, .int i), (3, .int l)] [] M (some (.long zlost)) (zup (zup M 93 0 0) 93 0 1) := by
  refine yR.ok ?_
  have ts : (nI s).toInt64.toInt = s := by rw [Int32.toInt_toInt64, nI_toInt (by omega)]
  have tl : l.toInt64.toInt = l.toInt := Int32.toInt_toInt64 l
  have hn' : (zup M 93 0 0).1 99 s = -9 := by rw [zup_i, if_neg (by omega)]; exact hn
  refine yR.adv 7 (pc' := 11) (lv' := [(0, .ref 93), (1, .int (nI s)), (2, .int i), (3, .int l)]) (st' := [.long 3, .long 0, .long ((nI s).toInt64)]) (M' := zup M 93 0 0) rfl ?_
  refine yR.callK (M1 := zup M 93 0 0) _ rfl rfl rfl rfl rfl (r_withinV (zup M 93 0 0) (nI s).toInt64 0 3 0 3 rfl rfl 1 (Or.inl ⟨by rw [ts]; omega, rfl⟩)) ?_
  show yR 156 14 [(0, .ref 93), (1, .int (nI s)), (2, .int i), (3, .int l)] [.int 1] (zup M 93 0 0) _
  refine yR.if1 .eq _ _ _ _ rfl (fun q1 => ?_) (fun q1 => ?_)
  · exact absurd q1 (by decide)
  · refine yR.adv 4 (pc' := 23) (lv' := [(0, .ref 93), (1, .int (nI s)), (2, .int i), (3, .int l)]) (st' := [.long 2, .long 0, .long l.toInt64]) (M' := zup M 93 0 0) rfl ?_
    refine yR.callK (M1 := zup M 93 0 0) _ rfl rfl rfl rfl rfl (r_withinV (zup M 93 0 0) l.toInt64 0 2 0 2 rfl rfl 1 (Or.inl ⟨by rw [tl]; exact hl, rfl⟩)) ?_
    show yR 156 26 [(0, .ref 93), (1, .int (nI s)), (2, .int i), (3, .int l)] [.int 1] (zup M 93 0 0) _
    refine yR.if1 .ne _ _ _ _ rfl (fun q2 => ?_) (fun q2 => ?_)
    · refine yR.adv 3 (pc' := 38) (lv' := [(0, .ref 93), (1, .int (nI s)), (2, .int i), (3, .int l)]) (st' := [.int (nI s), .ref 99]) (M' := zup M 93 0 0) rfl ?_
      refine yR.iald s _ _ _ rfl rfl (by decide) (rfl) (by omega) ?_
      rw [hn']
      refine yR.adv 1 (pc' := 41) (lv' := [(0, .ref 93), (1, .int (nI s)), (2, .int i), (3, .int l)]) (st' := [.int (-9), .int (-9)]) (M' := zup M 93 0 0) rfl ?_
      refine yR.if2 .eq _ _ _ _ rfl (fun q3 => ?_) (fun q3 => ?_)
      · refine yR.adv 3 (pc' := 65) (lv' := [(0, .ref 93), (1, .int (nI s)), (2, .int i), (3, .int l)]) (st' := [.int (nI s), .ref 99]) (M' := zup M 93 0 0) rfl ?_
        refine yR.iald s _ _ _ rfl rfl (by decide) (rfl) (by omega) ?_
        rw [hn']
        refine yR.adv 1 (pc' := 68) (lv' := [(0, .ref 93), (1, .int (nI s)), (2, .int i), (3, .int l)]) (st' := [.int (-9), .int (-9)]) (M' := zup M 93 0 0) rfl ?_
        refine yR.if2 .ne _ _ _ _ rfl (fun q4 => ?_) (fun q4 => ?_)
        · exact absurd q4 (by decide)
        · refine yR.adv 2 (pc' := 73) (lv' := [(0, .ref 93), (1, .int (nI s)), (2, .int i), (3, .int l)]) (st' := [.int 1, .ref 93]) (M' := zup M 93 0 0) rfl ?_
          refine yR.callK (M1 := zup (zup M 93 0 0) 93 0 1) _ rfl rfl rfl rfl rfl (r_lost (zup M 93 0 0) 1) ?_
          show yR 156 76 [(0, .ref 93), (1, .int (nI s)), (2, .int i), (3, .int l)] [.long zlost] (zup (zup M 93 0 0) 93 0 1) _
          refine yR.ret _ rfl rfl rfl ?_
          exact ⟨rfl, rfl⟩
      · exact absurd q3 (by decide)
    · exact absurd q2 (by decide)
theorem m_places_null_0 (M : zMm) (hn : M.1 85 0 = -1) (l i n : Int32) (hl : 0 ≤ l.toInt ∧ l.toInt ≤ 2) : yOk 42 0 [(0, .ref 0), (1, .int 0), (2, .int l), (3, .int i), (4, .int n)] [] M (some (.int (-11))) (zup (zup M 0 14 0) 0 14 1) := by
  refine yR.ok ?_
  have hn' : (zup M 0 14 0).1 85 0 = -1 := by rw [zup_i, if_neg (by omega)]; exact hn
  refine yR.adv 6 (pc' := 8) (lv' := [(0, .ref 0), (1, .int 0), (2, .int l), (3, .int i), (4, .int n)]) (st' := [.int 3, .int 0, .int 0]) (M' := zup M 0 14 0) rfl ?_
  refine yR.callK (M1 := zup M 0 14 0) _ rfl rfl rfl rfl rfl (m_fromV (zup M 0 14 0) 0 0 3 0 3 rfl rfl 1 (Or.inl ⟨by decide, rfl⟩)) ?_
  show yR 42 11 [(0, .ref 0), (1, .int 0), (2, .int l), (3, .int i), (4, .int n)] [.int 1] (zup M 0 14 0) _
  refine yR.if1 .ne _ _ _ _ rfl (fun q1 => ?_) (fun q1 => ?_)
  · refine yR.adv 3 (pc' := 19) (lv' := [(0, .ref 0), (1, .int 0), (2, .int l), (3, .int i), (4, .int n)]) (st' := [.int 2, .int 0, .int l]) (M' := zup M 0 14 0) rfl ?_
    refine yR.callK (M1 := zup M 0 14 0) _ rfl rfl rfl rfl rfl (m_fromV (zup M 0 14 0) l 0 2 0 2 rfl rfl 1 (Or.inl ⟨hl, rfl⟩)) ?_
    show yR 42 22 [(0, .ref 0), (1, .int 0), (2, .int l), (3, .int i), (4, .int n)] [.int 1] (zup M 0 14 0) _
    refine yR.if1 .ne _ _ _ _ rfl (fun q2 => ?_) (fun q2 => ?_)
    · refine yR.adv 7 (pc' := 39) (lv' := [(5, .ref 85), (0, .ref 0), (1, .int 0), (2, .int l), (3, .int i), (4, .int n)]) (st' := [.int l, .ref 85]) (M' := zup M 0 14 0) rfl ?_
      refine yR.callK (M1 := zup M 0 14 0) _ rfl rfl rfl rfl rfl (m_otherLane_85 (zup M 0 14 0) l 0 (Or.inr ⟨fun z => z.1 hn', rfl⟩)) ?_
      show yR 42 42 [(5, .ref 85), (0, .ref 0), (1, .int 0), (2, .int l), (3, .int i), (4, .int n)] [.int 0] (zup M 0 14 0) _
      refine yR.if1 .eq _ _ _ _ rfl (fun q3 => ?_) (fun q3 => ?_)
      · refine yR.adv 1 (pc' := 53) (lv' := [(5, .ref 85), (0, .ref 0), (1, .int 0), (2, .int l), (3, .int i), (4, .int n)]) (st' := [.ref 85]) (M' := zup M 0 14 0) rfl ?_
        refine yR.callK (M1 := zup M 0 14 0) _ rfl rfl rfl rfl rfl (m_hasNothing_85 (zup M 0 14 0) 1 (Or.inl ⟨hn', rfl⟩)) ?_
        show yR 42 56 [(5, .ref 85), (0, .ref 0), (1, .int 0), (2, .int l), (3, .int i), (4, .int n)] [.int 1] (zup M 0 14 0) _
        refine yR.if1 .eq _ _ _ _ rfl (fun q4 => ?_) (fun q4 => ?_)
        · exact absurd q4 (by decide)
        · refine yR.adv 2 (pc' := 61) (lv' := [(5, .ref 85), (0, .ref 0), (1, .int 0), (2, .int l), (3, .int i), (4, .int n)]) (st' := [.int 1, .ref 0]) (M' := zup M 0 14 0) rfl ?_
          refine yR.callK (M1 := zup (zup M 0 14 0) 0 14 1) _ rfl rfl rfl rfl rfl (m_failed (zup M 0 14 0) 1) ?_
          show yR 42 64 [(5, .ref 85), (0, .ref 0), (1, .int 0), (2, .int l), (3, .int i), (4, .int n)] [.int (-11)] (zup (zup M 0 14 0) 0 14 1) _
          refine yR.ret _ rfl rfl rfl ?_
          exact ⟨rfl, rfl⟩
      · exact absurd q3 (by decide)
    · exact absurd q2 (by decide)
  · exact absurd q1 (by decide)
theorem m_put_null_0 (M : zMm) (hn : M.1 85 0 = -1) (i n : Int32) : yOk 59 0 [(0, .ref 0), (1, .int 0), (2, .int i), (3, .int n)] [] M (some (.int (-11))) (zup (zup M 0 14 0) 0 14 1) := by
  refine yR.ok ?_
  have hn' : (zup M 0 14 0).1 85 0 = -1 := by rw [zup_i, if_neg (by omega)]; exact hn
  refine yR.adv 6 (pc' := 8) (lv' := [(0, .ref 0), (1, .int 0), (2, .int i), (3, .int n)]) (st' := [.int 3, .int 0, .int 0]) (M' := zup M 0 14 0) rfl ?_
  refine yR.callK (M1 := zup M 0 14 0) _ rfl rfl rfl rfl rfl (m_fromV (zup M 0 14 0) 0 0 3 0 3 rfl rfl 1 (Or.inl ⟨by decide, rfl⟩)) ?_
  show yR 59 11 [(0, .ref 0), (1, .int 0), (2, .int i), (3, .int n)] [.int 1] (zup M 0 14 0) _
  refine yR.if1 .ne _ _ _ _ rfl (fun q1 => ?_) (fun q1 => ?_)
  · refine yR.adv 6 (pc' := 26) (lv' := [(4, .ref 85), (0, .ref 0), (1, .int 0), (2, .int i), (3, .int n)]) (st' := [.ref 85]) (M' := zup M 0 14 0) rfl ?_
    refine yR.callK (M1 := zup M 0 14 0) _ rfl rfl rfl rfl rfl (m_hasNothing_85 (zup M 0 14 0) 1 (Or.inl ⟨hn', rfl⟩)) ?_
    show yR 59 29 [(4, .ref 85), (0, .ref 0), (1, .int 0), (2, .int i), (3, .int n)] [.int 1] (zup M 0 14 0) _
    refine yR.if1 .eq _ _ _ _ rfl (fun q4 => ?_) (fun q4 => ?_)
    · exact absurd q4 (by decide)
    · refine yR.adv 2 (pc' := 34) (lv' := [(4, .ref 85), (0, .ref 0), (1, .int 0), (2, .int i), (3, .int n)]) (st' := [.int 1, .ref 0]) (M' := zup M 0 14 0) rfl ?_
      refine yR.callK (M1 := zup (zup M 0 14 0) 0 14 1) _ rfl rfl rfl rfl rfl (m_failed (zup M 0 14 0) 1) ?_
      show yR 59 37 [(4, .ref 85), (0, .ref 0), (1, .int 0), (2, .int i), (3, .int n)] [.int (-11)] (zup (zup M 0 14 0) 0 14 1) _
      refine yR.ret _ rfl rfl rfl ?_
      exact ⟨rfl, rfl⟩
  · exact absurd q1 (by decide)
theorem m_reading_null_0 (M : zMm) (hn : M.1 85 0 = -1) (i l : Int32) : yOk 88 0 [(0, .ref 85), (1, .int i), (2, .int l)] [] M (some (.int 1)) M := by
  refine yR.ok ?_
  refine yR.adv 2 (pc' := 2) (lv' := [(0, .ref 85), (1, .int i), (2, .int l)]) (st' := [.int l, .ref 85]) (M' := M) rfl ?_
  refine yR.callK (M1 := M) _ rfl rfl rfl rfl rfl (m_otherLane_85 M l 0 (Or.inr ⟨fun z => z.1 hn, rfl⟩)) ?_
  show yR 88 5 [(0, .ref 85), (1, .int i), (2, .int l)] [.int 0] M _
  refine yR.if1 .eq _ _ _ _ rfl (fun q3 => ?_) (fun q3 => ?_)
  · refine yR.adv 1 (pc' := 11) (lv' := [(0, .ref 85), (1, .int i), (2, .int l)]) (st' := [.ref 85]) (M' := M) rfl ?_
    refine yR.callK (M1 := M) _ rfl rfl rfl rfl rfl (m_hasNothing_85 M 1 (Or.inl ⟨hn, rfl⟩)) ?_
    show yR 88 14 [(0, .ref 85), (1, .int i), (2, .int l)] [.int 1] M _
    refine yR.if1 .eq _ _ _ _ rfl (fun q4 => ?_) (fun q4 => ?_)
    · exact absurd q4 (by decide)
    · refine yR.adv 1 (pc' := 18) (lv' := [(0, .ref 85), (1, .int i), (2, .int l)]) (st' := [.int 1]) (M' := M) rfl ?_
      refine yR.ret _ rfl rfl rfl ?_
      exact ⟨rfl, rfl⟩
  · exact absurd q3 (by decide)
theorem m_at_null_0 (M : zMm) (hn : M.1 85 0 = -1) (i l : Int32) (hl : 0 ≤ l.toInt ∧ l.toInt ≤ 2) : yOk 60 0 [(0, .ref 0), (1, .int 0), (2, .int i), (3, .int l)] [] M (some (.long zlost)) (zup (zup M 0 14 0) 0 14 1) := by
  refine yR.ok ?_
  have hn' : (zup M 0 14 0).1 85 0 = -1 := by rw [zup_i, if_neg (by omega)]; exact hn
  refine yR.adv 6 (pc' := 8) (lv' := [(0, .ref 0), (1, .int 0), (2, .int i), (3, .int l)]) (st' := [.int 3, .int 0, .int 0]) (M' := zup M 0 14 0) rfl ?_
  refine yR.callK (M1 := zup M 0 14 0) _ rfl rfl rfl rfl rfl (m_fromV (zup M 0 14 0) 0 0 3 0 3 rfl rfl 1 (Or.inl ⟨by decide, rfl⟩)) ?_
  show yR 60 11 [(0, .ref 0), (1, .int 0), (2, .int i), (3, .int l)] [.int 1] (zup M 0 14 0) _
  refine yR.if1 .eq _ _ _ _ rfl (fun q1 => ?_) (fun q1 => ?_)
  · exact absurd q1 (by decide)
  · refine yR.adv 3 (pc' := 17) (lv' := [(0, .ref 0), (1, .int 0), (2, .int i), (3, .int l)]) (st' := [.int 2, .int 0, .int l]) (M' := zup M 0 14 0) rfl ?_
    refine yR.callK (M1 := zup M 0 14 0) _ rfl rfl rfl rfl rfl (m_fromV (zup M 0 14 0) l 0 2 0 2 rfl rfl 1 (Or.inl ⟨hl, rfl⟩)) ?_
    show yR 60 20 [(0, .ref 0), (1, .int 0), (2, .int i), (3, .int l)] [.int 1] (zup M 0 14 0) _
    refine yR.if1 .ne _ _ _ _ rfl (fun q2 => ?_) (fun q2 => ?_)
    · refine yR.adv 8 (pc' := 39) (lv' := [(4, .ref 85), (0, .ref 0), (1, .int 0), (2, .int i), (3, .int l)]) (st' := [.int l, .int i, .ref 85]) (M' := zup M 0 14 0) rfl ?_
      refine yR.callK (M1 := zup M 0 14 0) _ rfl rfl rfl rfl rfl (m_reading_null_0 (zup M 0 14 0) hn' i l) ?_
      show yR 60 42 [(4, .ref 85), (0, .ref 0), (1, .int 0), (2, .int i), (3, .int l)] [.int 1] (zup M 0 14 0) _
      refine yR.adv 2 (pc' := 46) (lv' := [(5, .int 1), (4, .ref 85), (0, .ref 0), (1, .int 0), (2, .int i), (3, .int l)]) (st' := [.int 1]) (M' := zup M 0 14 0) rfl ?_
      refine yR.if1 .eq _ _ _ _ rfl (fun q3 => ?_) (fun q3 => ?_)
      · exact absurd q3 (by decide)
      · refine yR.adv 4 (pc' := 58) (lv' := [(5, .int 1), (4, .ref 85), (0, .ref 0), (1, .int 0), (2, .int i), (3, .int l)]) (st' := [.long (-9223372036854775808)]) (M' := zup (zup M 0 14 0) 0 14 1) rfl ?_
        refine yR.ret _ rfl rfl rfl ?_
        exact ⟨rfl, rfl⟩
    · exact absurd q2 (by decide)
theorem m_places_null_1 (M : zMm) (hn : M.1 87 0 = -1) (l i n : Int32) (hl : 0 ≤ l.toInt ∧ l.toInt ≤ 2) : yOk 42 0 [(0, .ref 0), (1, .int 1), (2, .int l), (3, .int i), (4, .int n)] [] M (some (.int (-11))) (zup (zup M 0 14 0) 0 14 1) := by
  refine yR.ok ?_
  have hn' : (zup M 0 14 0).1 87 0 = -1 := by rw [zup_i, if_neg (by omega)]; exact hn
  refine yR.adv 6 (pc' := 8) (lv' := [(0, .ref 0), (1, .int 1), (2, .int l), (3, .int i), (4, .int n)]) (st' := [.int 3, .int 0, .int 1]) (M' := zup M 0 14 0) rfl ?_
  refine yR.callK (M1 := zup M 0 14 0) _ rfl rfl rfl rfl rfl (m_fromV (zup M 0 14 0) 1 0 3 0 3 rfl rfl 1 (Or.inl ⟨by decide, rfl⟩)) ?_
  show yR 42 11 [(0, .ref 0), (1, .int 1), (2, .int l), (3, .int i), (4, .int n)] [.int 1] (zup M 0 14 0) _
  refine yR.if1 .ne _ _ _ _ rfl (fun q1 => ?_) (fun q1 => ?_)
  · refine yR.adv 3 (pc' := 19) (lv' := [(0, .ref 0), (1, .int 1), (2, .int l), (3, .int i), (4, .int n)]) (st' := [.int 2, .int 0, .int l]) (M' := zup M 0 14 0) rfl ?_
    refine yR.callK (M1 := zup M 0 14 0) _ rfl rfl rfl rfl rfl (m_fromV (zup M 0 14 0) l 0 2 0 2 rfl rfl 1 (Or.inl ⟨hl, rfl⟩)) ?_
    show yR 42 22 [(0, .ref 0), (1, .int 1), (2, .int l), (3, .int i), (4, .int n)] [.int 1] (zup M 0 14 0) _
    refine yR.if1 .ne _ _ _ _ rfl (fun q2 => ?_) (fun q2 => ?_)
    · refine yR.adv 7 (pc' := 39) (lv' := [(5, .ref 87), (0, .ref 0), (1, .int 1), (2, .int l), (3, .int i), (4, .int n)]) (st' := [.int l, .ref 87]) (M' := zup M 0 14 0) rfl ?_
      refine yR.callK (M1 := zup M 0 14 0) _ rfl rfl rfl rfl rfl (m_otherLane_87 (zup M 0 14 0) l 0 (Or.inr ⟨fun z => z.1 hn', rfl⟩)) ?_
      show yR 42 42 [(5, .ref 87), (0, .ref 0), (1, .int 1), (2, .int l), (3, .int i), (4, .int n)] [.int 0] (zup M 0 14 0) _
      refine yR.if1 .eq _ _ _ _ rfl (fun q3 => ?_) (fun q3 => ?_)
      · refine yR.adv 1 (pc' := 53) (lv' := [(5, .ref 87), (0, .ref 0), (1, .int 1), (2, .int l), (3, .int i), (4, .int n)]) (st' := [.ref 87]) (M' := zup M 0 14 0) rfl ?_
        refine yR.callK (M1 := zup M 0 14 0) _ rfl rfl rfl rfl rfl (m_hasNothing_87 (zup M 0 14 0) 1 (Or.inl ⟨hn', rfl⟩)) ?_
        show yR 42 56 [(5, .ref 87), (0, .ref 0), (1, .int 1), (2, .int l), (3, .int i), (4, .int n)] [.int 1] (zup M 0 14 0) _
        refine yR.if1 .eq _ _ _ _ rfl (fun q4 => ?_) (fun q4 => ?_)
        · exact absurd q4 (by decide)
        · refine yR.adv 2 (pc' := 61) (lv' := [(5, .ref 87), (0, .ref 0), (1, .int 1), (2, .int l), (3, .int i), (4, .int n)]) (st' := [.int 1, .ref 0]) (M' := zup M 0 14 0) rfl ?_
          refine yR.callK (M1 := zup (zup M 0 14 0) 0 14 1) _ rfl rfl rfl rfl rfl (m_failed (zup M 0 14 0) 1) ?_
          show yR 42 64 [(5, .ref 87), (0, .ref 0), (1, .int 1), (2, .int l), (3, .int i), (4, .int n)] [.int (-11)] (zup (zup M 0 14 0) 0 14 1) _
          refine yR.ret _ rfl rfl rfl ?_
          exact ⟨rfl, rfl⟩
      · exact absurd q3 (by decide)
    · exact absurd q2 (by decide)
  · exact absurd q1 (by decide)
theorem m_put_null_1 (M : zMm) (hn : M.1 87 0 = -1) (i n : Int32) : yOk 59 0 [(0, .ref 0), (1, .int 1), (2, .int i), (3, .int n)] [] M (some (.int (-11))) (zup (zup M 0 14 0) 0 14 1) := by
  refine yR.ok ?_
  have hn' : (zup M 0 14 0).1 87 0 = -1 := by rw [zup_i, if_neg (by omega)]; exact hn
  refine yR.adv 6 (pc' := 8) (lv' := [(0, .ref 0), (1, .int 1), (2, .int i), (3, .int n)]) (st' := [.int 3, .int 0, .int 1]) (M' := zup M 0 14 0) rfl ?_
  refine yR.callK (M1 := zup M 0 14 0) _ rfl rfl rfl rfl rfl (m_fromV (zup M 0 14 0) 1 0 3 0 3 rfl rfl 1 (Or.inl ⟨by decide, rfl⟩)) ?_
  show yR 59 11 [(0, .ref 0), (1, .int 1), (2, .int i), (3, .int n)] [.int 1] (zup M 0 14 0) _
  refine yR.if1 .ne _ _ _ _ rfl (fun q1 => ?_) (fun q1 => ?_)
  · refine yR.adv 6 (pc' := 26) (lv' := [(4, .ref 87), (0, .ref 0), (1, .int 1), (2, .int i), (3, .int n)]) (st' := [.ref 87]) (M' := zup M 0 14 0) rfl ?_
    refine yR.callK (M1 := zup M 0 14 0) _ rfl rfl rfl rfl rfl (m_hasNothing_87 (zup M 0 14 0) 1 (Or.inl ⟨hn', rfl⟩)) ?_
    show yR 59 29 [(4, .ref 87), (0, .ref 0), (1, .int 1), (2, .int i), (3, .int n)] [.int 1] (zup M 0 14 0) _
    refine yR.if1 .eq _ _ _ _ rfl (fun q4 => ?_) (fun q4 => ?_)
    · exact absurd q4 (by decide)
    · refine yR.adv 2 (pc' := 34) (lv' := [(4, .ref 87), (0, .ref 0), (1, .int 1), (2, .int i), (3, .int n)]) (st' := [.int 1, .ref 0]) (M' := zup M 0 14 0) rfl ?_
      refine yR.callK (M1 := zup (zup M 0 14 0) 0 14 1) _ rfl rfl rfl rfl rfl (m_failed (zup M 0 14 0) 1) ?_
      show yR 59 37 [(4, .ref 87), (0, .ref 0), (1, .int 1), (2, .int i), (3, .int n)] [.int (-11)] (zup (zup M 0 14 0) 0 14 1) _
      refine yR.ret _ rfl rfl rfl ?_
      exact ⟨rfl, rfl⟩
  · exact absurd q1 (by decide)
theorem m_reading_null_1 (M : zMm) (hn : M.1 87 0 = -1) (i l : Int32) : yOk 88 0 [(0, .ref 87), (1, .int i), (2, .int l)] [] M (some (.int 1)) M := by
  refine yR.ok ?_
  refine yR.adv 2 (pc' := 2) (lv' := [(0, .ref 87), (1, .int i), (2, .int l)]) (st' := [.int l, .ref 87]) (M' := M) rfl ?_
  refine yR.callK (M1 := M) _ rfl rfl rfl rfl rfl (m_otherLane_87 M l 0 (Or.inr ⟨fun z => z.1 hn, rfl⟩)) ?_
  show yR 88 5 [(0, .ref 87), (1, .int i), (2, .int l)] [.int 0] M _
  refine yR.if1 .eq _ _ _ _ rfl (fun q3 => ?_) (fun q3 => ?_)
  · refine yR.adv 1 (pc' := 11) (lv' := [(0, .ref 87), (1, .int i), (2, .int l)]) (st' := [.ref 87]) (M' := M) rfl ?_
    refine yR.callK (M1 := M) _ rfl rfl rfl rfl rfl (m_hasNothing_87 M 1 (Or.inl ⟨hn, rfl⟩)) ?_
    show yR 88 14 [(0, .ref 87), (1, .int i), (2, .int l)] [.int 1] M _
    refine yR.if1 .eq _ _ _ _ rfl (fun q4 => ?_) (fun q4 => ?_)
    · exact absurd q4 (by decide)
    · refine yR.adv 1 (pc' := 18) (lv' := [(0, .ref 87), (1, .int i), (2, .int l)]) (st' := [.int 1]) (M' := M) rfl ?_
      refine yR.ret _ rfl rfl rfl ?_
      exact ⟨rfl, rfl⟩
  · exact absurd q3 (by decide)
theorem m_at_null_1 (M : zMm) (hn : M.1 87 0 = -1) (i l : Int32) (hl : 0 ≤ l.toInt ∧ l.toInt ≤ 2) : yOk 60 0 [(0, .ref 0), (1, .int 1), (2, .int i), (3, .int l)] [] M (some (.long zlost)) (zup (zup M 0 14 0) 0 14 1) := by
  refine yR.ok ?_
  have hn' : (zup M 0 14 0).1 87 0 = -1 := by rw [zup_i, if_neg (by omega)]; exact hn
  refine yR.adv 6 (pc' := 8) (lv' := [(0, .ref 0), (1, .int 1), (2, .int i), (3, .int l)]) (st' := [.int 3, .int 0, .int 1]) (M' := zup M 0 14 0) rfl ?_
  refine yR.callK (M1 := zup M 0 14 0) _ rfl rfl rfl rfl rfl (m_fromV (zup M 0 14 0) 1 0 3 0 3 rfl rfl 1 (Or.inl ⟨by decide, rfl⟩)) ?_
  show yR 60 11 [(0, .ref 0), (1, .int 1), (2, .int i), (3, .int l)] [.int 1] (zup M 0 14 0) _
  refine yR.if1 .eq _ _ _ _ rfl (fun q1 => ?_) (fun q1 => ?_)
  · exact absurd q1 (by decide)
  · refine yR.adv 3 (pc' := 17) (lv' := [(0, .ref 0), (1, .int 1), (2, .int i), (3, .int l)]) (st' := [.int 2, .int 0, .int l]) (M' := zup M 0 14 0) rfl ?_
    refine yR.callK (M1 := zup M 0 14 0) _ rfl rfl rfl rfl rfl (m_fromV (zup M 0 14 0) l 0 2 0 2 rfl rfl 1 (Or.inl ⟨hl, rfl⟩)) ?_
    show yR 60 20 [(0, .ref 0), (1, .int 1), (2, .int i), (3, .int l)] [.int 1] (zup M 0 14 0) _
    refine yR.if1 .ne _ _ _ _ rfl (fun q2 => ?_) (fun q2 => ?_)
    · refine yR.adv 8 (pc' := 39) (lv' := [(4, .ref 87), (0, .ref 0), (1, .int 1), (2, .int i), (3, .int l)]) (st' := [.int l, .int i, .ref 87]) (M' := zup M 0 14 0) rfl ?_
      refine yR.callK (M1 := zup M 0 14 0) _ rfl rfl rfl rfl rfl (m_reading_null_1 (zup M 0 14 0) hn' i l) ?_
      show yR 60 42 [(4, .ref 87), (0, .ref 0), (1, .int 1), (2, .int i), (3, .int l)] [.int 1] (zup M 0 14 0) _
      refine yR.adv 2 (pc' := 46) (lv' := [(5, .int 1), (4, .ref 87), (0, .ref 0), (1, .int 1), (2, .int i), (3, .int l)]) (st' := [.int 1]) (M' := zup M 0 14 0) rfl ?_
      refine yR.if1 .eq _ _ _ _ rfl (fun q3 => ?_) (fun q3 => ?_)
      · exact absurd q3 (by decide)
      · refine yR.adv 4 (pc' := 58) (lv' := [(5, .int 1), (4, .ref 87), (0, .ref 0), (1, .int 1), (2, .int i), (3, .int l)]) (st' := [.long (-9223372036854775808)]) (M' := zup (zup M 0 14 0) 0 14 1) rfl ?_
        refine yR.ret _ rfl rfl rfl ?_
        exact ⟨rfl, rfl⟩
    · exact absurd q2 (by decide)
theorem m_places_null_2 (M : zMm) (hn : M.1 89 0 = -1) (l i n : Int32) (hl : 0 ≤ l.toInt ∧ l.toInt ≤ 2) : yOk 42 0 [(0, .ref 0), (1, .int 2), (2, .int l), (3, .int i), (4, .int n)] [] M (some (.int (-11))) (zup (zup M 0 14 0) 0 14 1) := by
  refine yR.ok ?_
  have hn' : (zup M 0 14 0).1 89 0 = -1 := by rw [zup_i, if_neg (by omega)]; exact hn
  refine yR.adv 6 (pc' := 8) (lv' := [(0, .ref 0), (1, .int 2), (2, .int l), (3, .int i), (4, .int n)]) (st' := [.int 3, .int 0, .int 2]) (M' := zup M 0 14 0) rfl ?_
  refine yR.callK (M1 := zup M 0 14 0) _ rfl rfl rfl rfl rfl (m_fromV (zup M 0 14 0) 2 0 3 0 3 rfl rfl 1 (Or.inl ⟨by decide, rfl⟩)) ?_
  show yR 42 11 [(0, .ref 0), (1, .int 2), (2, .int l), (3, .int i), (4, .int n)] [.int 1] (zup M 0 14 0) _
  refine yR.if1 .ne _ _ _ _ rfl (fun q1 => ?_) (fun q1 => ?_)
  · refine yR.adv 3 (pc' := 19) (lv' := [(0, .ref 0), (1, .int 2), (2, .int l), (3, .int i), (4, .int n)]) (st' := [.int 2, .int 0, .int l]) (M' := zup M 0 14 0) rfl ?_
    refine yR.callK (M1 := zup M 0 14 0) _ rfl rfl rfl rfl rfl (m_fromV (zup M 0 14 0) l 0 2 0 2 rfl rfl 1 (Or.inl ⟨hl, rfl⟩)) ?_
    show yR 42 22 [(0, .ref 0), (1, .int 2), (2, .int l), (3, .int i), (4, .int n)] [.int 1] (zup M 0 14 0) _
    refine yR.if1 .ne _ _ _ _ rfl (fun q2 => ?_) (fun q2 => ?_)
    · refine yR.adv 7 (pc' := 39) (lv' := [(5, .ref 89), (0, .ref 0), (1, .int 2), (2, .int l), (3, .int i), (4, .int n)]) (st' := [.int l, .ref 89]) (M' := zup M 0 14 0) rfl ?_
      refine yR.callK (M1 := zup M 0 14 0) _ rfl rfl rfl rfl rfl (m_otherLane_89 (zup M 0 14 0) l 0 (Or.inr ⟨fun z => z.1 hn', rfl⟩)) ?_
      show yR 42 42 [(5, .ref 89), (0, .ref 0), (1, .int 2), (2, .int l), (3, .int i), (4, .int n)] [.int 0] (zup M 0 14 0) _
      refine yR.if1 .eq _ _ _ _ rfl (fun q3 => ?_) (fun q3 => ?_)
      · refine yR.adv 1 (pc' := 53) (lv' := [(5, .ref 89), (0, .ref 0), (1, .int 2), (2, .int l), (3, .int i), (4, .int n)]) (st' := [.ref 89]) (M' := zup M 0 14 0) rfl ?_
        refine yR.callK (M1 := zup M 0 14 0) _ rfl rfl rfl rfl rfl (m_hasNothing_89 (zup M 0 14 0) 1 (Or.inl ⟨hn', rfl⟩)) ?_
        show yR 42 56 [(5, .ref 89), (0, .ref 0), (1, .int 2), (2, .int l), (3, .int i), (4, .int n)] [.int 1] (zup M 0 14 0) _
        refine yR.if1 .eq _ _ _ _ rfl (fun q4 => ?_) (fun q4 => ?_)
        · exact absurd q4 (by decide)
        · refine yR.adv 2 (pc' := 61) (lv' := [(5, .ref 89), (0, .ref 0), (1, .int 2), (2, .int l), (3, .int i), (4, .int n)]) (st' := [.int 1, .ref 0]) (M' := zup M 0 14 0) rfl ?_
          refine yR.callK (M1 := zup (zup M 0 14 0) 0 14 1) _ rfl rfl rfl rfl rfl (m_failed (zup M 0 14 0) 1) ?_
          show yR 42 64 [(5, .ref 89), (0, .ref 0), (1, .int 2), (2, .int l), (3, .int i), (4, .int n)] [.int (-11)] (zup (zup M 0 14 0) 0 14 1) _
          refine yR.ret _ rfl rfl rfl ?_
          exact ⟨rfl, rfl⟩
      · exact absurd q3 (by decide)
    · exact absurd q2 (by decide)
  · exact absurd q1 (by decide)
theorem m_put_null_2 (M : zMm) (hn : M.1 89 0 = -1) (i n : Int32) : yOk 59 0 [(0, .ref 0), (1, .int 2), (2, .int i), (3, .int n)] [] M (some (.int (-11))) (zup (zup M 0 14 0) 0 14 1) := by
  refine yR.ok ?_
  have hn' : (zup M 0 14 0).1 89 0 = -1 := by rw [zup_i, if_neg (by omega)]; exact hn
  refine yR.adv 6 (pc' := 8) (lv' := [(0, .ref 0), (1, .int 2), (2, .int i), (3, .int n)]) (st' := [.int 3, .int 0, .int 2]) (M' := zup M 0 14 0) rfl ?_
  refine yR.callK (M1 := zup M 0 14 0) _ rfl rfl rfl rfl rfl (m_fromV (zup M 0 14 0) 2 0 3 0 3 rfl rfl 1 (Or.inl ⟨by decide, rfl⟩)) ?_
  show yR 59 11 [(0, .ref 0), (1, .int 2), (2, .int i), (3, .int n)] [.int 1] (zup M 0 14 0) _
  refine yR.if1 .ne _ _ _ _ rfl (fun q1 => ?_) (fun q1 => ?_)
  · refine yR.adv 6 (pc' := 26) (lv' := [(4, .ref 89), (0, .ref 0), (1, .int 2), (2, .int i), (3, .int n)]) (st' := [.ref 89]) (M' := zup M 0 14 0) rfl ?_
    refine yR.callK (M1 := zup M 0 14 0) _ rfl rfl rfl rfl rfl (m_hasNothing_89 (zup M 0 14 0) 1 (Or.inl ⟨hn', rfl⟩)) ?_
    show yR 59 29 [(4, .ref 89), (0, .ref 0), (1, .int 2), (2, .int i), (3, .int n)] [.int 1] (zup M 0 14 0) _
    refine yR.if1 .eq _ _ _ _ rfl (fun q4 => ?_) (fun q4 => ?_)
    · exact absurd q4 (by decide)
    · refine yR.adv 2 (pc' := 34) (lv' := [(4, .ref 89), (0, .ref 0), (1, .int 2), (2, .int i), (3, .int n)]) (st' := [.int 1, .ref 0]) (M' := zup M 0 14 0) rfl ?_
      refine yR.callK (M1 := zup (zup M 0 14 0) 0 14 1) _ rfl rfl rfl rfl rfl (m_failed (zup M 0 14 0) 1) ?_
      show yR 59 37 [(4, .ref 89), (0, .ref 0), (1, .int 2), (2, .int i), (3, .int n)] [.int (-11)] (zup (zup M 0 14 0) 0 14 1) _
      refine yR.ret _ rfl rfl rfl ?_
      exact ⟨rfl, rfl⟩
  · exact absurd q1 (by decide)
theorem m_reading_null_2 (M : zMm) (hn : M.1 89 0 = -1) (i l : Int32) : yOk 88 0 [(0, .ref 89), (1, .int i), (2, .int l)] [] M (some (.int 1)) M := by
  refine yR.ok ?_
  refine yR.adv 2 (pc' := 2) (lv' := [(0, .ref 89), (1, .int i), (2, .int l)]) (st' := [.int l, .ref 89]) (M' := M) rfl ?_
  refine yR.callK (M1 := M) _ rfl rfl rfl rfl rfl (m_otherLane_89 M l 0 (Or.inr ⟨fun z => z.1 hn, rfl⟩)) ?_
  show yR 88 5 [(0, .ref 89), (1, .int i), (2, .int l)] [.int 0] M _
  refine yR.if1 .eq _ _ _ _ rfl (fun q3 => ?_) (fun q3 => ?_)
  · refine yR.adv 1 (pc' := 11) (lv' := [(0, .ref 89), (1, .int i), (2, .int l)]) (st' := [.ref 89]) (M' := M) rfl ?_
    refine yR.callK (M1 := M) _ rfl rfl rfl rfl rfl (m_hasNothing_89 M 1 (Or.inl ⟨hn, rfl⟩)) ?_
    show yR 88 14 [(0, .ref 89), (1, .int i), (2, .int l)] [.int 1] M _
    refine yR.if1 .eq _ _ _ _ rfl (fun q4 => ?_) (fun q4 => ?_)
    · exact absurd q4 (by decide)
    · refine yR.adv 1 (pc' := 18) (lv' := [(0, .ref 89), (1, .int i), (2, .int l)]) (st' := [.int 1]) (M' := M) rfl ?_
      refine yR.ret _ rfl rfl rfl ?_
      exact ⟨rfl, rfl⟩
  · exact absurd q3 (by decide)
theorem m_at_null_2 (M : zMm) (hn : M.1 89 0 = -1) (i l : Int32) (hl : 0 ≤ l.toInt ∧ l.toInt ≤ 2) : yOk 60 0 [(0, .ref 0), (1, .int 2), (2, .int i), (3, .int l)] [] M (some (.long zlost)) (zup (zup M 0 14 0) 0 14 1) := by
  refine yR.ok ?_
  have hn' : (zup M 0 14 0).1 89 0 = -1 := by rw [zup_i, if_neg (by omega)]; exact hn
  refine yR.adv 6 (pc' := 8) (lv' := [(0, .ref 0), (1, .int 2), (2, .int i), (3, .int l)]) (st' := [.int 3, .int 0, .int 2]) (M' := zup M 0 14 0) rfl ?_
  refine yR.callK (M1 := zup M 0 14 0) _ rfl rfl rfl rfl rfl (m_fromV (zup M 0 14 0) 2 0 3 0 3 rfl rfl 1 (Or.inl ⟨by decide, rfl⟩)) ?_
  show yR 60 11 [(0, .ref 0), (1, .int 2), (2, .int i), (3, .int l)] [.int 1] (zup M 0 14 0) _
  refine yR.if1 .eq _ _ _ _ rfl (fun q1 => ?_) (fun q1 => ?_)
  · exact absurd q1 (by decide)
  · refine yR.adv 3 (pc' := 17) (lv' := [(0, .ref 0), (1, .int 2), (2, .int i), (3, .int l)]) (st' := [.int 2, .int 0, .int l]) (M' := zup M 0 14 0) rfl ?_
    refine yR.callK (M1 := zup M 0 14 0) _ rfl rfl rfl rfl rfl (m_fromV (zup M 0 14 0) l 0 2 0 2 rfl rfl 1 (Or.inl ⟨hl, rfl⟩)) ?_
    show yR 60 20 [(0, .ref 0), (1, .int 2), (2, .int i), (3, .int l)] [.int 1] (zup M 0 14 0) _
    refine yR.if1 .ne _ _ _ _ rfl (fun q2 => ?_) (fun q2 => ?_)
    · refine yR.adv 8 (pc' := 39) (lv' := [(4, .ref 89), (0, .ref 0), (1, .int 2), (2, .int i), (3, .int l)]) (st' := [.int l, .int i, .ref 89]) (M' := zup M 0 14 0) rfl ?_
      refine yR.callK (M1 := zup M 0 14 0) _ rfl rfl rfl rfl rfl (m_reading_null_2 (zup M 0 14 0) hn' i l) ?_
      show yR 60 42 [(4, .ref 89), (0, .ref 0), (1, .int 2), (2, .int i), (3, .int l)] [.int 1] (zup M 0 14 0) _
      refine yR.adv 2 (pc' := 46) (lv' := [(5, .int 1), (4, .ref 89), (0, .ref 0), (1, .int 2), (2, .int i), (3, .int l)]) (st' := [.int 1]) (M' := zup M 0 14 0) rfl ?_
      refine yR.if1 .eq _ _ _ _ rfl (fun q3 => ?_) (fun q3 => ?_)
      · exact absurd q3 (by decide)
      · refine yR.adv 4 (pc' := 58) (lv' := [(5, .int 1), (4, .ref 89), (0, .ref 0), (1, .int 2), (2, .int i), (3, .int l)]) (st' := [.long (-9223372036854775808)]) (M' := zup (zup M 0 14 0) 0 14 1) rfl ?_
        refine yR.ret _ rfl rfl rfl ?_
        exact ⟨rfl, rfl⟩
    · exact absurd q2 (by decide)
theorem m_places_null_3 (M : zMm) (hn : M.1 91 0 = -1) (l i n : Int32) (hl : 0 ≤ l.toInt ∧ l.toInt ≤ 2) : yOk 42 0 [(0, .ref 0), (1, .int 3), (2, .int l), (3, .int i), (4, .int n)] [] M (some (.int (-11))) (zup (zup M 0 14 0) 0 14 1) := by
  refine yR.ok ?_
  have hn' : (zup M 0 14 0).1 91 0 = -1 := by rw [zup_i, if_neg (by omega)]; exact hn
  refine yR.adv 6 (pc' := 8) (lv' := [(0, .ref 0), (1, .int 3), (2, .int l), (3, .int i), (4, .int n)]) (st' := [.int 3, .int 0, .int 3]) (M' := zup M 0 14 0) rfl ?_
  refine yR.callK (M1 := zup M 0 14 0) _ rfl rfl rfl rfl rfl (m_fromV (zup M 0 14 0) 3 0 3 0 3 rfl rfl 1 (Or.inl ⟨by decide, rfl⟩)) ?_
  show yR 42 11 [(0, .ref 0), (1, .int 3), (2, .int l), (3, .int i), (4, .int n)] [.int 1] (zup M 0 14 0) _
  refine yR.if1 .ne _ _ _ _ rfl (fun q1 => ?_) (fun q1 => ?_)
  · refine yR.adv 3 (pc' := 19) (lv' := [(0, .ref 0), (1, .int 3), (2, .int l), (3, .int i), (4, .int n)]) (st' := [.int 2, .int 0, .int l]) (M' := zup M 0 14 0) rfl ?_
    refine yR.callK (M1 := zup M 0 14 0) _ rfl rfl rfl rfl rfl (m_fromV (zup M 0 14 0) l 0 2 0 2 rfl rfl 1 (Or.inl ⟨hl, rfl⟩)) ?_
    show yR 42 22 [(0, .ref 0), (1, .int 3), (2, .int l), (3, .int i), (4, .int n)] [.int 1] (zup M 0 14 0) _
    refine yR.if1 .ne _ _ _ _ rfl (fun q2 => ?_) (fun q2 => ?_)
    · refine yR.adv 7 (pc' := 39) (lv' := [(5, .ref 91), (0, .ref 0), (1, .int 3), (2, .int l), (3, .int i), (4, .int n)]) (st' := [.int l, .ref 91]) (M' := zup M 0 14 0) rfl ?_
      refine yR.callK (M1 := zup M 0 14 0) _ rfl rfl rfl rfl rfl (m_otherLane_91 (zup M 0 14 0) l 0 (Or.inr ⟨fun z => z.1 hn', rfl⟩)) ?_
      show yR 42 42 [(5, .ref 91), (0, .ref 0), (1, .int 3), (2, .int l), (3, .int i), (4, .int n)] [.int 0] (zup M 0 14 0) _
      refine yR.if1 .eq _ _ _ _ rfl (fun q3 => ?_) (fun q3 => ?_)
      · refine yR.adv 1 (pc' := 53) (lv' := [(5, .ref 91), (0, .ref 0), (1, .int 3), (2, .int l), (3, .int i), (4, .int n)]) (st' := [.ref 91]) (M' := zup M 0 14 0) rfl ?_
        refine yR.callK (M1 := zup M 0 14 0) _ rfl rfl rfl rfl rfl (m_hasNothing_91 (zup M 0 14 0) 1 (Or.inl ⟨hn', rfl⟩)) ?_
        show yR 42 56 [(5, .ref 91), (0, .ref 0), (1, .int 3), (2, .int l), (3, .int i), (4, .int n)] [.int 1] (zup M 0 14 0) _
        refine yR.if1 .eq _ _ _ _ rfl (fun q4 => ?_) (fun q4 => ?_)
        · exact absurd q4 (by decide)
        · refine yR.adv 2 (pc' := 61) (lv' := [(5, .ref 91), (0, .ref 0), (1, .int 3), (2, .int l), (3, .int i), (4, .int n)]) (st' := [.int 1, .ref 0]) (M' := zup M 0 14 0) rfl ?_
          refine yR.callK (M1 := zup (zup M 0 14 0) 0 14 1) _ rfl rfl rfl rfl rfl (m_failed (zup M 0 14 0) 1) ?_
          show yR 42 64 [(5, .ref 91), (0, .ref 0), (1, .int 3), (2, .int l), (3, .int i), (4, .int n)] [.int (-11)] (zup (zup M 0 14 0) 0 14 1) _
          refine yR.ret _ rfl rfl rfl ?_
          exact ⟨rfl, rfl⟩
      · exact absurd q3 (by decide)
    · exact absurd q2 (by decide)
  · exact absurd q1 (by decide)
theorem m_put_null_3 (M : zMm) (hn : M.1 91 0 = -1) (i n : Int32) : yOk 59 0 [(0, .ref 0), (1, .int 3), (2, .int i), (3, .int n)] [] M (some (.int (-11))) (zup (zup M 0 14 0) 0 14 1) := by
  refine yR.ok ?_
  have hn' : (zup M 0 14 0).1 91 0 = -1 := by rw [zup_i, if_neg (by omega)]; exact hn
  refine yR.adv 6 (pc' := 8) (lv' := [(0, .ref 0), (1, .int 3), (2, .int i), (3, .int n)]) (st' := [.int 3, .int 0, .int 3]) (M' := zup M 0 14 0) rfl ?_
  refine yR.callK (M1 := zup M 0 14 0) _ rfl rfl rfl rfl rfl (m_fromV (zup M 0 14 0) 3 0 3 0 3 rfl rfl 1 (Or.inl ⟨by decide, rfl⟩)) ?_
  show yR 59 11 [(0, .ref 0), (1, .int 3), (2, .int i), (3, .int n)] [.int 1] (zup M 0 14 0) _
  refine yR.if1 .ne _ _ _ _ rfl (fun q1 => ?_) (fun q1 => ?_)
  · refine yR.adv 6 (pc' := 26) (lv' := [(4, .ref 91), (0, .ref 0), (1, .int 3), (2, .int i), (3, .int n)]) (st' := [.ref 91]) (M' := zup M 0 14 0) rfl ?_
    refine yR.callK (M1 := zup M 0 14 0) _ rfl rfl rfl rfl rfl (m_hasNothing_91 (zup M 0 14 0) 1 (Or.inl ⟨hn', rfl⟩)) ?_
    show yR 59 29 [(4, .ref 91), (0, .ref 0), (1, .int 3), (2, .int i), (3, .int n)] [.int 1] (zup M 0 14 0) _
    refine yR.if1 .eq _ _ _ _ rfl (fun q4 => ?_) (fun q4 => ?_)
    · exact absurd q4 (by decide)
    · refine yR.adv 2 (pc' := 34) (lv' := [(4, .ref 91), (0, .ref 0), (1, .int 3), (2, .int i), (3, .int n)]) (st' := [.int 1, .ref 0]) (M' := zup M 0 14 0) rfl ?_
      refine yR.callK (M1 := zup (zup M 0 14 0) 0 14 1) _ rfl rfl rfl rfl rfl (m_failed (zup M 0 14 0) 1) ?_
      show yR 59 37 [(4, .ref 91), (0, .ref 0), (1, .int 3), (2, .int i), (3, .int n)] [.int (-11)] (zup (zup M 0 14 0) 0 14 1) _
      refine yR.ret _ rfl rfl rfl ?_
      exact ⟨rfl, rfl⟩
  · exact absurd q1 (by decide)
theorem m_reading_null_3 (M : zMm) (hn : M.1 91 0 = -1) (i l : Int32) : yOk 88 0 [(0, .ref 91), (1, .int i), (2, .int l)] [] M (some (.int 1)) M := by
  refine yR.ok ?_
  refine yR.adv 2 (pc' := 2) (lv' := [(0, .ref 91), (1, .int i), (2, .int l)]) (st' := [.int l, .ref 91]) (M' := M) rfl ?_
  refine yR.callK (M1 := M) _ rfl rfl rfl rfl rfl (m_otherLane_91 M l 0 (Or.inr ⟨fun z => z.1 hn, rfl⟩)) ?_
  show yR 88 5 [(0, .ref 91), (1, .int i), (2, .int l)] [.int 0] M _
  refine yR.if1 .eq _ _ _ _ rfl (fun q3 => ?_) (fun q3 => ?_)
  · refine yR.adv 1 (pc' := 11) (lv' := [(0, .ref 91), (1, .int i), (2, .int l)]) (st' := [.ref 91]) (M' := M) rfl ?_
    refine yR.callK (M1 := M) _ rfl rfl rfl rfl rfl (m_hasNothing_91 M 1 (Or.inl ⟨hn, rfl⟩)) ?_
    show yR 88 14 [(0, .ref 91), (1, .int i), (2, .int l)] [.int 1] M _
    refine yR.if1 .eq _ _ _ _ rfl (fun q4 => ?_) (fun q4 => ?_)
    · exact absurd q4 (by decide)
    · refine yR.adv 1 (pc' := 18) (lv' := [(0, .ref 91), (1, .int i), (2, .int l)]) (st' := [.int 1]) (M' := M) rfl ?_
      refine yR.ret _ rfl rfl rfl ?_
      exact ⟨rfl, rfl⟩
  · exact absurd q3 (by decide)
theorem m_at_null_3 (M : zMm) (hn : M.1 91 0 = -1) (i l : Int32) (hl : 0 ≤ l.toInt ∧ l.toInt ≤ 2) : yOk 60 0 [(0, .ref 0), (1, .int 3), (2, .int i), (3, .int l)] [] M (some (.long zlost)) (zup (zup M 0 14 0) 0 14 1) := by
  refine yR.ok ?_
  have hn' : (zup M 0 14 0).1 91 0 = -1 := by rw [zup_i, if_neg (by omega)]; exact hn
  refine yR.adv 6 (pc' := 8) (lv' := [(0, .ref 0), (1, .int 3), (2, .int i), (3, .int l)]) (st' := [.int 3, .int 0, .int 3]) (M' := zup M 0 14 0) rfl ?_
  refine yR.callK (M1 := zup M 0 14 0) _ rfl rfl rfl rfl rfl (m_fromV (zup M 0 14 0) 3 0 3 0 3 rfl rfl 1 (Or.inl ⟨by decide, rfl⟩)) ?_
  show yR 60 11 [(0, .ref 0), (1, .int 3), (2, .int i), (3, .int l)] [.int 1] (zup M 0 14 0) _
  refine yR.if1 .eq _ _ _ _ rfl (fun q1 => ?_) (fun q1 => ?_)
  · exact absurd q1 (by decide)
  · refine yR.adv 3 (pc' := 17) (lv' := [(0, .ref 0), (1, .int 3), (2, .int i), (3, .int l)]) (st' := [.int 2, .int 0, .int l]) (M' := zup M 0 14 0) rfl ?_
    refine yR.callK (M1 := zup M 0 14 0) _ rfl rfl rfl rfl rfl (m_fromV (zup M 0 14 0) l 0 2 0 2 rfl rfl 1 (Or.inl ⟨hl, rfl⟩)) ?_
    show yR 60 20 [(0, .ref 0), (1, .int 3), (2, .int i), (3, .int l)] [.int 1] (zup M 0 14 0) _
    refine yR.if1 .ne _ _ _ _ rfl (fun q2 => ?_) (fun q2 => ?_)
    · refine yR.adv 8 (pc' := 39) (lv' := [(4, .ref 91), (0, .ref 0), (1, .int 3), (2, .int i), (3, .int l)]) (st' := [.int l, .int i, .ref 91]) (M' := zup M 0 14 0) rfl ?_
      refine yR.callK (M1 := zup M 0 14 0) _ rfl rfl rfl rfl rfl (m_reading_null_3 (zup M 0 14 0) hn' i l) ?_
      show yR 60 42 [(4, .ref 91), (0, .ref 0), (1, .int 3), (2, .int i), (3, .int l)] [.int 1] (zup M 0 14 0) _
      refine yR.adv 2 (pc' := 46) (lv' := [(5, .int 1), (4, .ref 91), (0, .ref 0), (1, .int 3), (2, .int i), (3, .int l)]) (st' := [.int 1]) (M' := zup M 0 14 0) rfl ?_
      refine yR.if1 .eq _ _ _ _ rfl (fun q3 => ?_) (fun q3 => ?_)
      · exact absurd q3 (by decide)
      · refine yR.adv 4 (pc' := 58) (lv' := [(5, .int 1), (4, .ref 91), (0, .ref 0), (1, .int 3), (2, .int i), (3, .int l)]) (st' := [.long (-9223372036854775808)]) (M' := zup (zup M 0 14 0) 0 14 1) rfl ?_
        refine yR.ret _ rfl rfl rfl ?_
        exact ⟨rfl, rfl⟩
    · exact absurd q2 (by decide)
