/-! ===== error, public, of both ===== -/
abbrev zU (A B m e : Int64) : Int64 := A * e + (-1) * m * B
abbrev zV (B e : Int64) : Int64 := B * e
abbrev zUr (A B m e : Int64) : Int64 := A * (e / zg B e) + (-m) * (B / zg B e)
abbrev zVr (B e : Int64) : Int64 := B / zg B e * e
theorem m_error_no (M : zMm) (a b w : Int32) (h : ¬ (zpok a b ∧ (w = 0 ∨ w = 1))) : yOk 46 0 [(0, .ref 0), (1, .int a), (2, .int b), (3, .int w)] [] M (some (.long zlost)) M := by
  obtain ⟨r1, g1⟩ := zem (zpok a b)
  obtain ⟨r2, g2⟩ := zem (0 ≤ w.toInt ∧ w.toInt ≤ 1)
  have out : yOk 46 17 [(0, .ref 0), (1, .int a), (2, .int b), (3, .int w)] [] M (some (.long zlost)) M := by
    refine yOk.adv 1 (pc' := 20) (lv' := [(0, .ref 0), (1, .int a), (2, .int b), (3, .int w)]) (st' := [.long (-9223372036854775808)]) (M' := M) rfl ?_
    exact yOk.ret _ rfl rfl rfl
  refine yOk.adv 2 (pc' := 2) (lv' := [(0, .ref 0), (1, .int a), (2, .int b), (3, .int w)]) (st' := [.int b, .int a]) (M' := M) rfl ?_
  refine yOk.call (M1 := M) _ rfl rfl rfl rfl rfl (m_arePowersI M a b r1 g1) ?_
  show yOk 46 5 [(0, .ref 0), (1, .int a), (2, .int b), (3, .int w)] [.int r1] M _ _
  refine yOk.if1 .eq _ _ _ _ rfl (fun c1 => ?_) (fun c1 => ?_)
  · exact out
  · refine yOk.adv 3 (pc' := 11) (lv' := [(0, .ref 0), (1, .int a), (2, .int b), (3, .int w)]) (st' := [.int 1, .int 0, .int w]) (M' := M) rfl ?_
    refine yOk.call (M1 := M) _ rfl rfl rfl rfl rfl (m_fromV M w 0 1 0 1 rfl rfl r2 g2) ?_
    show yOk 46 14 [(0, .ref 0), (1, .int a), (2, .int b), (3, .int w)] [.int r2] M _ _
    refine yOk.if1 .ne _ _ _ _ rfl (fun c2 => ?_) (fun c2 => ?_)
    · exact absurd ⟨zeq1 g1 c1, (zwh w).mp (zne0 g2 c2)⟩ h
    · exact out
theorem r_error_no (M : zMm) (a b w : Int32) (h : ¬ (zpok a b ∧ (w = 0 ∨ w = 1))) : yOk 117 0 [(0, .ref 93), (1, .int a), (2, .int b), (3, .int w)] [] M (some (.long zlost)) M := by
  obtain ⟨r1, g1⟩ := zem (zpok a b)
  obtain ⟨r2, g2⟩ := zem (w = 0 ∨ w = 1)
  have out : yOk 117 15 [(0, .ref 93), (1, .int a), (2, .int b), (3, .int w)] [] M (some (.long zlost)) M := by
    refine yOk.adv 1 (pc' := 18) (lv' := [(0, .ref 93), (1, .int a), (2, .int b), (3, .int w)]) (st' := [.long (-9223372036854775808)]) (M' := M) rfl ?_
    exact yOk.ret _ rfl rfl rfl
  refine yOk.adv 2 (pc' := 2) (lv' := [(0, .ref 93), (1, .int a), (2, .int b), (3, .int w)]) (st' := [.int b, .int a]) (M' := M) rfl ?_
  refine yOk.call (M1 := M) _ rfl rfl rfl rfl rfl (r_isPower M a b r1 g1) ?_
  show yOk 117 5 [(0, .ref 93), (1, .int a), (2, .int b), (3, .int w)] [.int r1] M _ _
  refine yOk.if1 .eq _ _ _ _ rfl (fun c1 => ?_) (fun c1 => ?_)
  · exact out
  · refine yOk.adv 1 (pc' := 9) (lv' := [(0, .ref 93), (1, .int a), (2, .int b), (3, .int w)]) (st' := [.int w]) (M' := M) rfl ?_
    refine yOk.call (M1 := M) _ rfl rfl rfl rfl rfl (r_isWhich M w r2 g2) ?_
    show yOk 117 12 [(0, .ref 93), (1, .int a), (2, .int b), (3, .int w)] [.int r2] M _ _
    refine yOk.if1 .ne _ _ _ _ rfl (fun c2 => ?_) (fun c2 => ?_)
    · exact absurd ⟨zeq1 g1 c1, zne0 g2 c2⟩ h
    · exact out
theorem m_errorP (M : zMm) (n dom a b : Nat) (hs : M.1 1 3 = nI n) (hn : n ≤ 24) (hm : M.1 1 0 = nI dom) (hdom : dom < 3) (ha : a < 7) (hb : b < 7) (hab : a + b < 7) (hp : zpok (nI a) (nI b)) (S D : Int64) (hS : zsm (M.1 4) (M.1 2) (M.1 3) a b n = S) (hD : (M.1 1 2).toInt64 * zpw (M.1 1 1).toInt64 (a + b) = D) (hSb : S.toInt.natAbs ≤ 45864714240000) (hDb : 0 < D.toInt ∧ D.toInt ≤ 2 ^ 35) (w : Int32) (hw : w = 0 ∨ w = 1) : yOk 46 0 [(0, .ref 0), (1, .int (nI a)), (2, .int (nI b)), (3, .int w)] [] M (some (.long (if w = 0 then zfu (zU (zfu S D) (zfd S D) (zfu (zmu dom a b) (zmd dom a b)) (zfd (zmu dom a b) (zmd dom a b))) (zV (zfd S D) (zfd (zmu dom a b) (zmd dom a b))) else zfd (zU (zfu S D) (zfd S D) (zfu (zmu dom a b) (zmd dom a b)) (zfd (zmu dom a b) (zmd dom a b))) (zV (zfd S D) (zfd (zmu dom a b) (zmd dom a b)))))) (zansM (zupL (zupL (zansM M S D) 53 0 (zfu (zmu dom a b) (zmd dom a b))) 53 1 (zfd (zmu dom a b) (zmd dom a b))) (zU (zfu S D) (zfd S D) (zfu (zmu dom a b) (zmd dom a b)) (zfd (zmu dom a b) (zmd dom a b))) (zV (zfd S D) (zfd (zmu dom a b) (zmd dom a b)))) := by
  refine yOk.adv 2 (pc' := 2) (lv' := [(0, .ref 0), (1, .int (nI a)), (2, .int (nI b)), (3, .int w)]) (st' := [.int (nI b), .int (nI a)]) (M' := M) rfl ?_
  refine yOk.call (M1 := M) _ rfl rfl rfl rfl rfl (m_arePowersI M (nI a) (nI b) 1 (Or.inl ⟨hp, rfl⟩)) ?_
  show yOk 46 5 [(0, .ref 0), (1, .int (nI a)), (2, .int (nI b)), (3, .int w)] [.int 1] M _ _
  refine yOk.if1 .eq _ _ _ _ rfl (fun c1 => ?_) (fun c1 => ?_)
  · exact absurd c1 (by decide)
  · refine yOk.adv 3 (pc' := 11) (lv' := [(0, .ref 0), (1, .int (nI a)), (2, .int (nI b)), (3, .int w)]) (st' := [.int 1, .int 0, .int w]) (M' := M) rfl ?_
    refine yOk.call (M1 := M) _ rfl rfl rfl rfl rfl (m_fromV M w 0 1 0 1 rfl rfl 1 (Or.inl ⟨(zwh w).mpr hw, rfl⟩)) ?_
    show yOk 46 14 [(0, .ref 0), (1, .int (nI a)), (2, .int (nI b)), (3, .int w)] [.int 1] M _ _
    refine yOk.if1 .ne _ _ _ _ rfl (fun c2 => ?_) (fun c2 => ?_)
    · refine yOk.adv 3 (pc' := 24) (lv' := [(0, .ref 0), (1, .int (nI a)), (2, .int (nI b)), (3, .int w)]) (st' := [.int (nI b), .int (nI a), .ref 0]) (M' := M) rfl ?_
      refine yOk.call (M1 := zansM (zupL (zupL (zansM M S D) 53 0 (zfu (zmu dom a b) (zmd dom a b))) 53 1 (zfd (zmu dom a b) (zmd dom a b))) (zU (zfu S D) (zfd S D) (zfu (zmu dom a b) (zmd dom a b)) (zfd (zmu dom a b) (zmd dom a b))) (zV (zfd S D) (zfd (zmu dom a b) (zmd dom a b)))) _ rfl rfl rfl rfl rfl (m_findError M n dom a b hs hn hm hdom ha hb hab S D hS hD hSb hDb) ?_
      show yOk 46 27 [(0, .ref 0), (1, .int (nI a)), (2, .int (nI b)), (3, .int w)] [] (zansM (zupL (zupL (zansM M S D) 53 0 (zfu (zmu dom a b) (zmd dom a b))) 53 1 (zfd (zmu dom a b) (zmd dom a b))) (zU (zfu S D) (zfd S D) (zfu (zmu dom a b) (zmd dom a b)) (zfd (zmu dom a b) (zmd dom a b))) (zV (zfd S D) (zfd (zmu dom a b) (zmd dom a b)))) _ _
      refine yOk.adv 3 (pc' := 32) (lv' := [(0, .ref 0), (1, .int (nI a)), (2, .int (nI b)), (3, .int w)]) (st' := [.int w, .ref 52]) (M' := zansM (zupL (zupL (zansM M S D) 53 0 (zfu (zmu dom a b) (zmd dom a b))) 53 1 (zfd (zmu dom a b) (zmd dom a b))) (zU (zfu S D) (zfd S D) (zfu (zmu dom a b) (zmd dom a b)) (zfd (zmu dom a b) (zmd dom a b))) (zV (zfd S D) (zfd (zmu dom a b) (zmd dom a b)))) rfl ?_
      refine yOk.call (M1 := zansM (zupL (zupL (zansM M S D) 53 0 (zfu (zmu dom a b) (zmd dom a b))) 53 1 (zfd (zmu dom a b) (zmd dom a b))) (zU (zfu S D) (zfd S D) (zfu (zmu dom a b) (zmd dom a b)) (zfd (zmu dom a b) (zmd dom a b))) (zV (zfd S D) (zfd (zmu dom a b) (zmd dom a b)))) _ rfl rfl rfl rfl rfl (m_showing_52 (zansM (zupL (zupL (zansM M S D) 53 0 (zfu (zmu dom a b) (zmd dom a b))) 53 1 (zfd (zmu dom a b) (zmd dom a b))) (zU (zfu S D) (zfd S D) (zfu (zmu dom a b) (zmd dom a b)) (zfd (zmu dom a b) (zmd dom a b))) (zV (zfd S D) (zfd (zmu dom a b) (zmd dom a b)))) w) ?_
      show yOk 46 35 [(0, .ref 0), (1, .int (nI a)), (2, .int (nI b)), (3, .int w)] [.long (if w = 0 then (zansM (zupL (zupL (zansM M S D) 53 0 (zfu (zmu dom a b) (zmd dom a b))) 53 1 (zfd (zmu dom a b) (zmd dom a b))) (zU (zfu S D) (zfd S D) (zfu (zmu dom a b) (zmd dom a b)) (zfd (zmu dom a b) (zmd dom a b))) (zV (zfd S D) (zfd (zmu dom a b) (zmd dom a b)))).2 52 0 else (zansM (zupL (zupL (zansM M S D) 53 0 (zfu (zmu dom a b) (zmd dom a b))) 53 1 (zfd (zmu dom a b) (zmd dom a b))) (zU (zfu S D) (zfd S D) (zfu (zmu dom a b) (zmd dom a b)) (zfd (zmu dom a b) (zmd dom a b))) (zV (zfd S D) (zfd (zmu dom a b) (zmd dom a b)))).2 52 1)] (zansM (zupL (zupL (zansM M S D) 53 0 (zfu (zmu dom a b) (zmd dom a b))) 53 1 (zfd (zmu dom a b) (zmd dom a b))) (zU (zfu S D) (zfd S D) (zfu (zmu dom a b) (zmd dom a b)) (zfd (zmu dom a b) (zmd dom a b))) (zV (zfd S D) (zfd (zmu dom a b) (zmd dom a b)))) _ _
      rw [zl52]
      exact yOk.ret _ rfl rfl rfl
    · exact absurd c2 (by decide)
theorem r_errorP (M : zMm) (n dom a b : Nat) (hs : M.1 93 7 = nI n) (hn : n ≤ 24) (hm : M.1 93 4 = nI dom) (hdom : dom < 3) (ha : a < 7) (hb : b < 7) (hab : a + b < 7) (hp : zpok (nI a) (nI b)) (S D : Int64) (hS : zsm (M.1 96) (M.1 94) (M.1 95) a b n = S) (hD : (M.1 93 6).toInt64 * zpw (M.1 93 5).toInt64 (a + b) = D) (hSb : S.toInt.natAbs ≤ 45864714240000) (hDb : 0 < D.toInt ∧ D.toInt ≤ 2 ^ 35) (w : Int32) (hw : w = 0 ∨ w = 1) : yOk 117 0 [(0, .ref 93), (1, .int (nI a)), (2, .int (nI b)), (3, .int w)] [] M (some (.long (if w = 0 then zfu (zUr (zfu S D) (zfd S D) (zfu (zmu dom a b) (zmd dom a b)) (zfd (zmu dom a b) (zmd dom a b))) (zVr (zfd S D) (zfd (zmu dom a b) (zmd dom a b))) else zfd (zUr (zfu S D) (zfd S D) (zfu (zmu dom a b) (zmd dom a b)) (zfd (zmu dom a b) (zmd dom a b))) (zVr (zfd S D) (zfd (zmu dom a b) (zmd dom a b)))))) (zansR (zansR (zansR M (zmu dom a b) (zmd dom a b)) S D) (zUr (zfu S D) (zfd S D) (zfu (zmu dom a b) (zmd dom a b)) (zfd (zmu dom a b) (zmd dom a b))) (zVr (zfd S D) (zfd (zmu dom a b) (zmd dom a b)))) := by
  refine yOk.adv 2 (pc' := 2) (lv' := [(0, .ref 93), (1, .int (nI a)), (2, .int (nI b)), (3, .int w)]) (st' := [.int (nI b), .int (nI a)]) (M' := M) rfl ?_
  refine yOk.call (M1 := M) _ rfl rfl rfl rfl rfl (r_isPower M (nI a) (nI b) 1 (Or.inl ⟨hp, rfl⟩)) ?_
  show yOk 117 5 [(0, .ref 93), (1, .int (nI a)), (2, .int (nI b)), (3, .int w)] [.int 1] M _ _
  refine yOk.if1 .eq _ _ _ _ rfl (fun c1 => ?_) (fun c1 => ?_)
  · exact absurd c1 (by decide)
  · refine yOk.adv 1 (pc' := 9) (lv' := [(0, .ref 93), (1, .int (nI a)), (2, .int (nI b)), (3, .int w)]) (st' := [.int w]) (M' := M) rfl ?_
    refine yOk.call (M1 := M) _ rfl rfl rfl rfl rfl (r_isWhich M w 1 (Or.inl ⟨hw, rfl⟩)) ?_
    show yOk 117 12 [(0, .ref 93), (1, .int (nI a)), (2, .int (nI b)), (3, .int w)] [.int 1] M _ _
    refine yOk.if1 .ne _ _ _ _ rfl (fun c2 => ?_) (fun c2 => ?_)
    · refine yOk.adv 3 (pc' := 22) (lv' := [(0, .ref 93), (1, .int (nI a)), (2, .int (nI b)), (3, .int w)]) (st' := [.int (nI b), .int (nI a), .ref 93]) (M' := M) rfl ?_
      refine yOk.call (M1 := zansR (zansR (zansR M (zmu dom a b) (zmd dom a b)) S D) (zUr (zfu S D) (zfd S D) (zfu (zmu dom a b) (zmd dom a b)) (zfd (zmu dom a b) (zmd dom a b))) (zVr (zfd S D) (zfd (zmu dom a b) (zmd dom a b)))) _ rfl rfl rfl rfl rfl (r_errorOf M n dom a b hs hn hm hdom ha hb hab S D hS hD hSb hDb) ?_
      show yOk 117 25 [(0, .ref 93), (1, .int (nI a)), (2, .int (nI b)), (3, .int w)] [] (zansR (zansR (zansR M (zmu dom a b) (zmd dom a b)) S D) (zUr (zfu S D) (zfd S D) (zfu (zmu dom a b) (zmd dom a b)) (zfd (zmu dom a b) (zmd dom a b))) (zVr (zfd S D) (zfd (zmu dom a b) (zmd dom a b)))) _ _
      refine yOk.adv 2 (pc' := 27) (lv' := [(0, .ref 93), (1, .int (nI a)), (2, .int (nI b)), (3, .int w)]) (st' := [.int w, .ref 93]) (M' := zansR (zansR (zansR M (zmu dom a b) (zmd dom a b)) S D) (zUr (zfu S D) (zfd S D) (zfu (zmu dom a b) (zmd dom a b)) (zfd (zmu dom a b) (zmd dom a b))) (zVr (zfd S D) (zfd (zmu dom a b) (zmd dom a b)))) rfl ?_
      refine yOk.call (M1 := zansR (zansR (zansR M (zmu dom a b) (zmd dom a b)) S D) (zUr (zfu S D) (zfd S D) (zfu (zmu dom a b) (zmd dom a b)) (zfd (zmu dom a b) (zmd dom a b))) (zVr (zfd S D) (zfd (zmu dom a b) (zmd dom a b)))) _ rfl rfl rfl rfl rfl (r_part (zansR (zansR (zansR M (zmu dom a b) (zmd dom a b)) S D) (zUr (zfu S D) (zfd S D) (zfu (zmu dom a b) (zmd dom a b)) (zfd (zmu dom a b) (zmd dom a b))) (zVr (zfd S D) (zfd (zmu dom a b) (zmd dom a b)))) w) ?_
      show yOk 117 30 [(0, .ref 93), (1, .int (nI a)), (2, .int (nI b)), (3, .int w)] [.long (if w = 0 then (zansR (zansR (zansR M (zmu dom a b) (zmd dom a b)) S D) (zUr (zfu S D) (zfd S D) (zfu (zmu dom a b) (zmd dom a b)) (zfd (zmu dom a b) (zmd dom a b))) (zVr (zfd S D) (zfd (zmu dom a b) (zmd dom a b)))).2 93 2 else (zansR (zansR (zansR M (zmu dom a b) (zmd dom a b)) S D) (zUr (zfu S D) (zfd S D) (zfu (zmu dom a b) (zmd dom a b)) (zfd (zmu dom a b) (zmd dom a b))) (zVr (zfd S D) (zfd (zmu dom a b) (zmd dom a b)))).2 93 3)] (zansR (zansR (zansR M (zmu dom a b) (zmd dom a b)) S D) (zUr (zfu S D) (zfd S D) (zfu (zmu dom a b) (zmd dom a b)) (zfd (zmu dom a b) (zmd dom a b))) (zVr (zfd S D) (zfd (zmu dom a b) (zmd dom a b)))) _ _
      rw [zl93]
      exact yOk.ret _ rfl rfl rfl
    · exact absurd c2 (by decide)
