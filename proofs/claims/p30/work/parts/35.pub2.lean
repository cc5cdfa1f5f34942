/-! ===== public methods: moment, sum, term ===== -/
theorem zwh (w : Int32) : (0 ≤ w.toInt ∧ w.toInt ≤ 1) ↔ (w = 0 ∨ w = 1) := by
  have e0 : ((0 : Int32)).toInt = 0 := rfl
  have e1 : ((1 : Int32)).toInt = 1 := rfl
  rw [i32_eq, i32_eq, e0, e1]
  omega
theorem zpok_nat {a b : Int32} (h : zpok a b) : ∃ a' b' : Nat, a = nI a' ∧ b = nI b' ∧ a' < 7 ∧ b' < 7 ∧ a' + b' < 7 := by
  unfold zpok at h
  refine ⟨a.toInt.toNat, b.toInt.toNat, ?_, ?_, by omega, by omega, by omega⟩
  · exact i32_eq.mpr (by rw [nI_toInt (by omega)]; omega)
  · exact i32_eq.mpr (by rw [nI_toInt (by omega)]; omega)
theorem zl52 (M : zMm) (A B : Int64) (w : Int32) : (if w = 0 then (zupL (zupL M 52 0 A) 52 1 B).2 52 0 else (zupL (zupL M 52 0 A) 52 1 B).2 52 1) = if w = 0 then A else B := by
  unfold zupL
  simp
theorem zl93 (M : zMm) (A B : Int64) (w : Int32) : (if w = 0 then (zupL (zupL M 93 2 A) 93 3 B).2 93 2 else (zupL (zupL M 93 2 A) 93 3 B).2 93 3) = if w = 0 then A else B := by
  unfold zupL
  simp
/-- the numbers with a fraction in the class's answer, in the reference's up and down -/
abbrev zansM (M : zMm) (u d : Int64) : zMm := zupL (zupL M 52 0 (zfu u d)) 52 1 (zfd u d)
abbrev zansR (M : zMm) (u d : Int64) : zMm := zupL (zupL M 93 2 (zfu u d)) 93 3 (zfd u d)
abbrev zlost : Int64 := -9223372036854775808
theorem m_moment_no (M : zMm) (a b w : Int32) (h : ¬ (zpok a b ∧ (w = 0 ∨ w = 1))) : yOk 39 0 [(0, .ref 0), (1, .int a), (2, .int b), (3, .int w)] [] M (some (.long zlost)) M := by
  obtain ⟨r1, g1⟩ := zem (zpok a b)
  obtain ⟨r2, g2⟩ := zem (0 ≤ w.toInt ∧ w.toInt ≤ 1)
  have out : yOk 39 17 [(0, .ref 0), (1, .int a), (2, .int b), (3, .int w)] [] M (some (.long zlost)) M := by
    refine yOk.adv 1 (pc' := 20) (lv' := [(0, .ref 0), (1, .int a), (2, .int b), (3, .int w)]) (st' := [.long (-9223372036854775808)]) (M' := M) rfl ?_
    exact yOk.ret _ rfl rfl rfl
  refine yOk.adv 2 (pc' := 2) (lv' := [(0, .ref 0), (1, .int a), (2, .int b), (3, .int w)]) (st' := [.int b, .int a]) (M' := M) rfl ?_
  refine yOk.call (M1 := M) _ rfl rfl rfl rfl rfl (m_arePowersI M a b r1 g1) ?_
  show yOk 39 5 [(0, .ref 0), (1, .int a), (2, .int b), (3, .int w)] [.int r1] M _ _
  refine yOk.if1 .eq _ _ _ _ rfl (fun c1 => ?_) (fun c1 => ?_)
  · exact out
  · refine yOk.adv 3 (pc' := 11) (lv' := [(0, .ref 0), (1, .int a), (2, .int b), (3, .int w)]) (st' := [.int 1, .int 0, .int w]) (M' := M) rfl ?_
    refine yOk.call (M1 := M) _ rfl rfl rfl rfl rfl (m_fromV M w 0 1 0 1 rfl rfl r2 g2) ?_
    show yOk 39 14 [(0, .ref 0), (1, .int a), (2, .int b), (3, .int w)] [.int r2] M _ _
    refine yOk.if1 .ne _ _ _ _ rfl (fun c2 => ?_) (fun c2 => ?_)
    · exact absurd ⟨zeq1 g1 c1, (zwh w).mp (zne0 g2 c2)⟩ h
    · exact out
theorem m_sum_no (M : zMm) (a b w : Int32) (h : ¬ (zpok a b ∧ (w = 0 ∨ w = 1))) : yOk 45 0 [(0, .ref 0), (1, .int a), (2, .int b), (3, .int w)] [] M (some (.long zlost)) M := by
  obtain ⟨r1, g1⟩ := zem (zpok a b)
  obtain ⟨r2, g2⟩ := zem (0 ≤ w.toInt ∧ w.toInt ≤ 1)
  have out : yOk 45 17 [(0, .ref 0), (1, .int a), (2, .int b), (3, .int w)] [] M (some (.long zlost)) M := by
    refine yOk.adv 1 (pc' := 20) (lv' := [(0, .ref 0), (1, .int a), (2, .int b), (3, .int w)]) (st' := [.long (-9223372036854775808)]) (M' := M) rfl ?_
    exact yOk.ret _ rfl rfl rfl
  refine yOk.adv 2 (pc' := 2) (lv' := [(0, .ref 0), (1, .int a), (2, .int b), (3, .int w)]) (st' := [.int b, .int a]) (M' := M) rfl ?_
  refine yOk.call (M1 := M) _ rfl rfl rfl rfl rfl (m_arePowersI M a b r1 g1) ?_
  show yOk 45 5 [(0, .ref 0), (1, .int a), (2, .int b), (3, .int w)] [.int r1] M _ _
  refine yOk.if1 .eq _ _ _ _ rfl (fun c1 => ?_) (fun c1 => ?_)
  · exact out
  · refine yOk.adv 3 (pc' := 11) (lv' := [(0, .ref 0), (1, .int a), (2, .int b), (3, .int w)]) (st' := [.int 1, .int 0, .int w]) (M' := M) rfl ?_
    refine yOk.call (M1 := M) _ rfl rfl rfl rfl rfl (m_fromV M w 0 1 0 1 rfl rfl r2 g2) ?_
    show yOk 45 14 [(0, .ref 0), (1, .int a), (2, .int b), (3, .int w)] [.int r2] M _ _
    refine yOk.if1 .ne _ _ _ _ rfl (fun c2 => ?_) (fun c2 => ?_)
    · exact absurd ⟨zeq1 g1 c1, (zwh w).mp (zne0 g2 c2)⟩ h
    · exact out
theorem r_momentP_no (M : zMm) (a b w : Int32) (h : ¬ (zpok a b ∧ (w = 0 ∨ w = 1))) : yOk 115 0 [(0, .ref 93), (1, .int a), (2, .int b), (3, .int w)] [] M (some (.long zlost)) M := by
  obtain ⟨r1, g1⟩ := zem (zpok a b)
  obtain ⟨r2, g2⟩ := zem (w = 0 ∨ w = 1)
  have out : yOk 115 15 [(0, .ref 93), (1, .int a), (2, .int b), (3, .int w)] [] M (some (.long zlost)) M := by
    refine yOk.adv 1 (pc' := 18) (lv' := [(0, .ref 93), (1, .int a), (2, .int b), (3, .int w)]) (st' := [.long (-9223372036854775808)]) (M' := M) rfl ?_
    exact yOk.ret _ rfl rfl rfl
  refine yOk.adv 2 (pc' := 2) (lv' := [(0, .ref 93), (1, .int a), (2, .int b), (3, .int w)]) (st' := [.int b, .int a]) (M' := M) rfl ?_
  refine yOk.call (M1 := M) _ rfl rfl rfl rfl rfl (r_isPower M a b r1 g1) ?_
  show yOk 115 5 [(0, .ref 93), (1, .int a), (2, .int b), (3, .int w)] [.int r1] M _ _
  refine yOk.if1 .eq _ _ _ _ rfl (fun c1 => ?_) (fun c1 => ?_)
  · exact out
  · refine yOk.adv 1 (pc' := 9) (lv' := [(0, .ref 93), (1, .int a), (2, .int b), (3, .int w)]) (st' := [.int w]) (M' := M) rfl ?_
    refine yOk.call (M1 := M) _ rfl rfl rfl rfl rfl (r_isWhich M w r2 g2) ?_
    show yOk 115 12 [(0, .ref 93), (1, .int a), (2, .int b), (3, .int w)] [.int r2] M _ _
    refine yOk.if1 .ne _ _ _ _ rfl (fun c2 => ?_) (fun c2 => ?_)
    · exact absurd ⟨zeq1 g1 c1, zne0 g2 c2⟩ h
    · exact out
theorem r_sum_no (M : zMm) (a b w : Int32) (h : ¬ (zpok a b ∧ (w = 0 ∨ w = 1))) : yOk 116 0 [(0, .ref 93), (1, .int a), (2, .int b), (3, .int w)] [] M (some (.long zlost)) M := by
  obtain ⟨r1, g1⟩ := zem (zpok a b)
  obtain ⟨r2, g2⟩ := zem (w = 0 ∨ w = 1)
  have out : yOk 116 15 [(0, .ref 93), (1, .int a), (2, .int b), (3, .int w)] [] M (some (.long zlost)) M := by
    refine yOk.adv 1 (pc' := 18) (lv' := [(0, .ref 93), (1, .int a), (2, .int b), (3, .int w)]) (st' := [.long (-9223372036854775808)]) (M' := M) rfl ?_
    exact yOk.ret _ rfl rfl rfl
  refine yOk.adv 2 (pc' := 2) (lv' := [(0, .ref 93), (1, .int a), (2, .int b), (3, .int w)]) (st' := [.int b, .int a]) (M' := M) rfl ?_
  refine yOk.call (M1 := M) _ rfl rfl rfl rfl rfl (r_isPower M a b r1 g1) ?_
  show yOk 116 5 [(0, .ref 93), (1, .int a), (2, .int b), (3, .int w)] [.int r1] M _ _
  refine yOk.if1 .eq _ _ _ _ rfl (fun c1 => ?_) (fun c1 => ?_)
  · exact out
  · refine yOk.adv 1 (pc' := 9) (lv' := [(0, .ref 93), (1, .int a), (2, .int b), (3, .int w)]) (st' := [.int w]) (M' := M) rfl ?_
    refine yOk.call (M1 := M) _ rfl rfl rfl rfl rfl (r_isWhich M w r2 g2) ?_
    show yOk 116 12 [(0, .ref 93), (1, .int a), (2, .int b), (3, .int w)] [.int r2] M _ _
    refine yOk.if1 .ne _ _ _ _ rfl (fun c2 => ?_) (fun c2 => ?_)
    · exact absurd ⟨zeq1 g1 c1, zne0 g2 c2⟩ h
    · exact out
theorem m_momentP (M : zMm) (dom a b : Nat) (hm : M.1 1 0 = nI dom) (hdom : dom < 3) (ha : a < 7) (hb : b < 7) (hab : a + b < 7) (hp : zpok (nI a) (nI b)) (w : Int32) (hw : w = 0 ∨ w = 1) : yOk 39 0 [(0, .ref 0), (1, .int (nI a)), (2, .int (nI b)), (3, .int w)] [] M (some (.long (if w = 0 then zfu (zmu dom a b) (zmd dom a b) else zfd (zmu dom a b) (zmd dom a b)))) (zansM M (zmu dom a b) (zmd dom a b)) := by
  refine yOk.adv 2 (pc' := 2) (lv' := [(0, .ref 0), (1, .int (nI a)), (2, .int (nI b)), (3, .int w)]) (st' := [.int (nI b), .int (nI a)]) (M' := M) rfl ?_
  refine yOk.call (M1 := M) _ rfl rfl rfl rfl rfl (m_arePowersI M (nI a) (nI b) 1 (Or.inl ⟨hp, rfl⟩)) ?_
  show yOk 39 5 [(0, .ref 0), (1, .int (nI a)), (2, .int (nI b)), (3, .int w)] [.int 1] M _ _
  refine yOk.if1 .eq _ _ _ _ rfl (fun c1 => ?_) (fun c1 => ?_)
  · exact absurd c1 (by decide)
  · refine yOk.adv 3 (pc' := 11) (lv' := [(0, .ref 0), (1, .int (nI a)), (2, .int (nI b)), (3, .int w)]) (st' := [.int 1, .int 0, .int w]) (M' := M) rfl ?_
    refine yOk.call (M1 := M) _ rfl rfl rfl rfl rfl (m_fromV M w 0 1 0 1 rfl rfl 1 (Or.inl ⟨(zwh w).mpr hw, rfl⟩)) ?_
    show yOk 39 14 [(0, .ref 0), (1, .int (nI a)), (2, .int (nI b)), (3, .int w)] [.int 1] M _ _
    refine yOk.if1 .ne _ _ _ _ rfl (fun c2 => ?_) (fun c2 => ?_)
    · refine yOk.adv 5 (pc' := 32) (lv' := [(0, .ref 0), (1, .int (nI a)), (2, .int (nI b)), (3, .int w)]) (st' := [.int (M.1 1 0), .ref 52]) (M' := M) rfl ?_
      rw [hm]
      refine yOk.adv 2 (pc' := 34) (lv' := [(0, .ref 0), (1, .int (nI a)), (2, .int (nI b)), (3, .int w)]) (st' := [.int (nI b), .int (nI a), .int (nI dom), .ref 52]) (M' := M) rfl ?_
      refine yOk.call (M1 := zansM M (zmu dom a b) (zmd dom a b)) _ rfl rfl rfl rfl rfl (m_moment_52 M dom a b hdom ha hb hab) ?_
      show yOk 39 37 [(0, .ref 0), (1, .int (nI a)), (2, .int (nI b)), (3, .int w)] [] (zansM M (zmu dom a b) (zmd dom a b)) _ _
      refine yOk.adv 3 (pc' := 42) (lv' := [(0, .ref 0), (1, .int (nI a)), (2, .int (nI b)), (3, .int w)]) (st' := [.int w, .ref 52]) (M' := zansM M (zmu dom a b) (zmd dom a b)) rfl ?_
      refine yOk.call (M1 := zansM M (zmu dom a b) (zmd dom a b)) _ rfl rfl rfl rfl rfl (m_showing_52 (zansM M (zmu dom a b) (zmd dom a b)) w) ?_
      show yOk 39 45 [(0, .ref 0), (1, .int (nI a)), (2, .int (nI b)), (3, .int w)] [.long (if w = 0 then (zansM M (zmu dom a b) (zmd dom a b)).2 52 0 else (zansM M (zmu dom a b) (zmd dom a b)).2 52 1)] (zansM M (zmu dom a b) (zmd dom a b)) _ _
      rw [zl52]
      exact yOk.ret _ rfl rfl rfl
    · exact absurd c2 (by decide)
theorem r_momentP (M : zMm) (dom a b : Nat) (hm : M.1 93 4 = nI dom) (hdom : dom < 3) (ha : a < 7) (hb : b < 7) (hab : a + b < 7) (hp : zpok (nI a) (nI b)) (w : Int32) (hw : w = 0 ∨ w = 1) : yOk 115 0 [(0, .ref 93), (1, .int (nI a)), (2, .int (nI b)), (3, .int w)] [] M (some (.long (if w = 0 then zfu (zmu dom a b) (zmd dom a b) else zfd (zmu dom a b) (zmd dom a b)))) (zansR M (zmu dom a b) (zmd dom a b)) := by
  refine yOk.adv 2 (pc' := 2) (lv' := [(0, .ref 93), (1, .int (nI a)), (2, .int (nI b)), (3, .int w)]) (st' := [.int (nI b), .int (nI a)]) (M' := M) rfl ?_
  refine yOk.call (M1 := M) _ rfl rfl rfl rfl rfl (r_isPower M (nI a) (nI b) 1 (Or.inl ⟨hp, rfl⟩)) ?_
  show yOk 115 5 [(0, .ref 93), (1, .int (nI a)), (2, .int (nI b)), (3, .int w)] [.int 1] M _ _
  refine yOk.if1 .eq _ _ _ _ rfl (fun c1 => ?_) (fun c1 => ?_)
  · exact absurd c1 (by decide)
  · refine yOk.adv 1 (pc' := 9) (lv' := [(0, .ref 93), (1, .int (nI a)), (2, .int (nI b)), (3, .int w)]) (st' := [.int w]) (M' := M) rfl ?_
    refine yOk.call (M1 := M) _ rfl rfl rfl rfl rfl (r_isWhich M w 1 (Or.inl ⟨hw, rfl⟩)) ?_
    show yOk 115 12 [(0, .ref 93), (1, .int (nI a)), (2, .int (nI b)), (3, .int w)] [.int 1] M _ _
    refine yOk.if1 .ne _ _ _ _ rfl (fun c2 => ?_) (fun c2 => ?_)
    · refine yOk.adv 3 (pc' := 22) (lv' := [(0, .ref 93), (1, .int (nI a)), (2, .int (nI b)), (3, .int w)]) (st' := [.int (nI b), .int (nI a), .ref 93]) (M' := M) rfl ?_
      refine yOk.call (M1 := zansR M (zmu dom a b) (zmd dom a b)) _ rfl rfl rfl rfl rfl (r_moment M dom a b hm hdom ha hb hab) ?_
      show yOk 115 25 [(0, .ref 93), (1, .int (nI a)), (2, .int (nI b)), (3, .int w)] [] (zansR M (zmu dom a b) (zmd dom a b)) _ _
      refine yOk.adv 2 (pc' := 27) (lv' := [(0, .ref 93), (1, .int (nI a)), (2, .int (nI b)), (3, .int w)]) (st' := [.int w, .ref 93]) (M' := zansR M (zmu dom a b) (zmd dom a b)) rfl ?_
      refine yOk.call (M1 := zansR M (zmu dom a b) (zmd dom a b)) _ rfl rfl rfl rfl rfl (r_part (zansR M (zmu dom a b) (zmd dom a b)) w) ?_
      show yOk 115 30 [(0, .ref 93), (1, .int (nI a)), (2, .int (nI b)), (3, .int w)] [.long (if w = 0 then (zansR M (zmu dom a b) (zmd dom a b)).2 93 2 else (zansR M (zmu dom a b) (zmd dom a b)).2 93 3)] (zansR M (zmu dom a b) (zmd dom a b)) _ _
      rw [zl93]
      exact yOk.ret _ rfl rfl rfl
    · exact absurd c2 (by decide)
theorem m_sumP (M : zMm) (n a b : Nat) (hs : M.1 1 3 = nI n) (hn : n ≤ 24) (ha : a < 7) (hb : b < 7) (hp : zpok (nI a) (nI b)) (hu : (zsm (M.1 4) (M.1 2) (M.1 3) a b n).toInt ≠ -2 ^ 63) (hd : 0 < ((M.1 1 2).toInt64 * zpw (M.1 1 1).toInt64 (a + b)).toInt) (w : Int32) (hw : w = 0 ∨ w = 1) : yOk 45 0 [(0, .ref 0), (1, .int (nI a)), (2, .int (nI b)), (3, .int w)] [] M (some (.long (if w = 0 then zfu (zsm (M.1 4) (M.1 2) (M.1 3) a b n) ((M.1 1 2).toInt64 * zpw (M.1 1 1).toInt64 (a + b)) else zfd (zsm (M.1 4) (M.1 2) (M.1 3) a b n) ((M.1 1 2).toInt64 * zpw (M.1 1 1).toInt64 (a + b))))) (zansM M (zsm (M.1 4) (M.1 2) (M.1 3) a b n) ((M.1 1 2).toInt64 * zpw (M.1 1 1).toInt64 (a + b))) := by
  refine yOk.adv 2 (pc' := 2) (lv' := [(0, .ref 0), (1, .int (nI a)), (2, .int (nI b)), (3, .int w)]) (st' := [.int (nI b), .int (nI a)]) (M' := M) rfl ?_
  refine yOk.call (M1 := M) _ rfl rfl rfl rfl rfl (m_arePowersI M (nI a) (nI b) 1 (Or.inl ⟨hp, rfl⟩)) ?_
  show yOk 45 5 [(0, .ref 0), (1, .int (nI a)), (2, .int (nI b)), (3, .int w)] [.int 1] M _ _
  refine yOk.if1 .eq _ _ _ _ rfl (fun c1 => ?_) (fun c1 => ?_)
  · exact absurd c1 (by decide)
  · refine yOk.adv 3 (pc' := 11) (lv' := [(0, .ref 0), (1, .int (nI a)), (2, .int (nI b)), (3, .int w)]) (st' := [.int 1, .int 0, .int w]) (M' := M) rfl ?_
    refine yOk.call (M1 := M) _ rfl rfl rfl rfl rfl (m_fromV M w 0 1 0 1 rfl rfl 1 (Or.inl ⟨(zwh w).mpr hw, rfl⟩)) ?_
    show yOk 45 14 [(0, .ref 0), (1, .int (nI a)), (2, .int (nI b)), (3, .int w)] [.int 1] M _ _
    refine yOk.if1 .ne _ _ _ _ rfl (fun c2 => ?_) (fun c2 => ?_)
    · refine yOk.adv 3 (pc' := 24) (lv' := [(0, .ref 0), (1, .int (nI a)), (2, .int (nI b)), (3, .int w)]) (st' := [.int (nI b), .int (nI a), .ref 0]) (M' := M) rfl ?_
      refine yOk.call (M1 := zansM M (zsm (M.1 4) (M.1 2) (M.1 3) a b n) ((M.1 1 2).toInt64 * zpw (M.1 1 1).toInt64 (a + b))) _ rfl rfl rfl rfl rfl (m_findSum M n a b hs hn (by omega) (by omega) hu hd) ?_
      show yOk 45 27 [(0, .ref 0), (1, .int (nI a)), (2, .int (nI b)), (3, .int w)] [] (zansM M (zsm (M.1 4) (M.1 2) (M.1 3) a b n) ((M.1 1 2).toInt64 * zpw (M.1 1 1).toInt64 (a + b))) _ _
      refine yOk.adv 3 (pc' := 32) (lv' := [(0, .ref 0), (1, .int (nI a)), (2, .int (nI b)), (3, .int w)]) (st' := [.int w, .ref 52]) (M' := zansM M (zsm (M.1 4) (M.1 2) (M.1 3) a b n) ((M.1 1 2).toInt64 * zpw (M.1 1 1).toInt64 (a + b))) rfl ?_
      refine yOk.call (M1 := zansM M (zsm (M.1 4) (M.1 2) (M.1 3) a b n) ((M.1 1 2).toInt64 * zpw (M.1 1 1).toInt64 (a + b))) _ rfl rfl rfl rfl rfl (m_showing_52 (zansM M (zsm (M.1 4) (M.1 2) (M.1 3) a b n) ((M.1 1 2).toInt64 * zpw (M.1 1 1).toInt64 (a + b))) w) ?_
      show yOk 45 35 [(0, .ref 0), (1, .int (nI a)), (2, .int (nI b)), (3, .int w)] [.long (if w = 0 then (zansM M (zsm (M.1 4) (M.1 2) (M.1 3) a b n) ((M.1 1 2).toInt64 * zpw (M.1 1 1).toInt64 (a + b))).2 52 0 else (zansM M (zsm (M.1 4) (M.1 2) (M.1 3) a b n) ((M.1 1 2).toInt64 * zpw (M.1 1 1).toInt64 (a + b))).2 52 1)] (zansM M (zsm (M.1 4) (M.1 2) (M.1 3) a b n) ((M.1 1 2).toInt64 * zpw (M.1 1 1).toInt64 (a + b))) _ _
      rw [zl52]
      exact yOk.ret _ rfl rfl rfl
    · exact absurd c2 (by decide)
theorem r_sumP (M : zMm) (n a b : Nat) (hs : M.1 93 7 = nI n) (hn : n ≤ 24) (ha : a < 7) (hb : b < 7) (hp : zpok (nI a) (nI b)) (hu : (zsm (M.1 96) (M.1 94) (M.1 95) a b n).toInt ≠ -2 ^ 63) (hd : 0 < ((M.1 93 6).toInt64 * zpw (M.1 93 5).toInt64 (a + b)).toInt) (w : Int32) (hw : w = 0 ∨ w = 1) : yOk 116 0 [(0, .ref 93), (1, .int (nI a)), (2, .int (nI b)), (3, .int w)] [] M (some (.long (if w = 0 then zfu (zsm (M.1 96) (M.1 94) (M.1 95) a b n) ((M.1 93 6).toInt64 * zpw (M.1 93 5).toInt64 (a + b)) else zfd (zsm (M.1 96) (M.1 94) (M.1 95) a b n) ((M.1 93 6).toInt64 * zpw (M.1 93 5).toInt64 (a + b))))) (zansR M (zsm (M.1 96) (M.1 94) (M.1 95) a b n) ((M.1 93 6).toInt64 * zpw (M.1 93 5).toInt64 (a + b))) := by
  refine yOk.adv 2 (pc' := 2) (lv' := [(0, .ref 93), (1, .int (nI a)), (2, .int (nI b)), (3, .int w)]) (st' := [.int (nI b), .int (nI a)]) (M' := M) rfl ?_
  refine yOk.call (M1 := M) _ rfl rfl rfl rfl rfl (r_isPower M (nI a) (nI b) 1 (Or.inl ⟨hp, rfl⟩)) ?_
  show yOk 116 5 [(0, .ref 93), (1, .int (nI a)), (2, .int (nI b)), (3, .int w)] [.int 1] M _ _
  refine yOk.if1 .eq _ _ _ _ rfl (fun c1 => ?_) (fun c1 => ?_)
  · exact absurd c1 (by decide)
  · refine yOk.adv 1 (pc' := 9) (lv' := [(0, .ref 93), (1, .int (nI a)), (2, .int (nI b)), (3, .int w)]) (st' := [.int w]) (M' := M) rfl ?_
    refine yOk.call (M1 := M) _ rfl rfl rfl rfl rfl (r_isWhich M w 1 (Or.inl ⟨hw, rfl⟩)) ?_
    show yOk 116 12 [(0, .ref 93), (1, .int (nI a)), (2, .int (nI b)), (3, .int w)] [.int 1] M _ _
    refine yOk.if1 .ne _ _ _ _ rfl (fun c2 => ?_) (fun c2 => ?_)
    · refine yOk.adv 3 (pc' := 22) (lv' := [(0, .ref 93), (1, .int (nI a)), (2, .int (nI b)), (3, .int w)]) (st' := [.int (nI b), .int (nI a), .ref 93]) (M' := M) rfl ?_
      refine yOk.call (M1 := zansR M (zsm (M.1 96) (M.1 94) (M.1 95) a b n) ((M.1 93 6).toInt64 * zpw (M.1 93 5).toInt64 (a + b))) _ rfl rfl rfl rfl rfl (r_sumOf M n a b hs hn (by omega) (by omega) hu hd) ?_
      show yOk 116 25 [(0, .ref 93), (1, .int (nI a)), (2, .int (nI b)), (3, .int w)] [] (zansR M (zsm (M.1 96) (M.1 94) (M.1 95) a b n) ((M.1 93 6).toInt64 * zpw (M.1 93 5).toInt64 (a + b))) _ _
      refine yOk.adv 2 (pc' := 27) (lv' := [(0, .ref 93), (1, .int (nI a)), (2, .int (nI b)), (3, .int w)]) (st' := [.int w, .ref 93]) (M' := zansR M (zsm (M.1 96) (M.1 94) (M.1 95) a b n) ((M.1 93 6).toInt64 * zpw (M.1 93 5).toInt64 (a + b))) rfl ?_
      refine yOk.call (M1 := zansR M (zsm (M.1 96) (M.1 94) (M.1 95) a b n) ((M.1 93 6).toInt64 * zpw (M.1 93 5).toInt64 (a + b))) _ rfl rfl rfl rfl rfl (r_part (zansR M (zsm (M.1 96) (M.1 94) (M.1 95) a b n) ((M.1 93 6).toInt64 * zpw (M.1 93 5).toInt64 (a + b))) w) ?_
      show yOk 116 30 [(0, .ref 93), (1, .int (nI a)), (2, .int (nI b)), (3, .int w)] [.long (if w = 0 then (zansR M (zsm (M.1 96) (M.1 94) (M.1 95) a b n) ((M.1 93 6).toInt64 * zpw (M.1 93 5).toInt64 (a + b))).2 93 2 else (zansR M (zsm (M.1 96) (M.1 94) (M.1 95) a b n) ((M.1 93 6).toInt64 * zpw (M.1 93 5).toInt64 (a + b))).2 93 3)] (zansR M (zsm (M.1 96) (M.1 94) (M.1 95) a b n) ((M.1 93 6).toInt64 * zpw (M.1 93 5).toInt64 (a + b))) _ _
      rw [zl93]
      exact yOk.ret _ rfl rfl rfl
    · exact absurd c2 (by decide)
