/-! ===== public methods: trace, fault, least, begin, term, place ===== -/
theorem yOk.tab {k pc : Nat} {lv : zL} {st : List Value} {M N : zMm} {r : Option Value} {x : Int32} (dflt lo hi : Int) (offs : Array Int) (len a b d : Nat) (he : zP k pc = some (.tableswitch dflt lo hi offs, len, a, b, d)) (off : Int) (t : Nat) (ho : ztab dflt lo hi offs x = some off) (ht : ztgt pc off = some t) (h2 : yOk k t lv st M r N) : yOk k pc lv (.int x :: st) M r N := by
  refine yOk.step _ he rfl (t, lv, st, M) ?_ h2
  show ylift M (zsw (ztab dflt lo hi offs) pc lv (.int x :: st) []) = _
  unfold zsw
  dsimp only
  rw [ho]
  dsimp only
  rw [ht]
  rfl
theorem m_trace (M : zMm) : yOk 64 0 [(0, .ref 0)] [] M (some (.int (M.1 0 13))) M := by
  refine yOk.adv 2 (pc' := 4) (lv' := [(0, .ref 0)]) (st' := [.int (M.1 0 13)]) (M' := M) rfl ?_
  exact yOk.ret _ rfl rfl rfl
theorem r_trace (M : zMm) : yOk 161 0 [(0, .ref 93)] [] M (some (.int (M.1 93 1))) M := by
  refine yOk.adv 2 (pc' := 4) (lv' := [(0, .ref 93)]) (st' := [.int (M.1 93 1)]) (M' := M) rfl ?_
  exact yOk.ret _ rfl rfl rfl
theorem m_fault (M : zMm) : yOk 65 0 [(0, .ref 0)] [] M (some (.int (M.1 0 14))) M := by
  refine yOk.adv 2 (pc' := 4) (lv' := [(0, .ref 0)]) (st' := [.int (M.1 0 14)]) (M' := M) rfl ?_
  exact yOk.ret _ rfl rfl rfl
theorem r_fault (M : zMm) : yOk 162 0 [(0, .ref 93)] [] M (some (.int (M.1 93 0))) M := by
  refine yOk.adv 2 (pc' := 4) (lv' := [(0, .ref 93)]) (st' := [.int (M.1 93 0)]) (M' := M) rfl ?_
  exact yOk.ret _ rfl rfl rfl
def zleast (d : Int32) : Int32 := (d / 2 + 1) * (d / 2 + 2) / 2
theorem m_least (M : zMm) (d : Int32) (v : Int32) (hv : ((0 ≤ d.toInt ∧ d.toInt ≤ 6) ∧ v = zleast d) ∨ (¬ (0 ≤ d.toInt ∧ d.toInt ≤ 6) ∧ v = -2)) : yOk 50 0 [(0, .ref 0), (1, .int d)] [] M (some (.int v)) M := by
  have two : ¬ (2 : Int32) = 0 := by decide
  obtain ⟨r1, g1⟩ := zem (0 ≤ d.toInt ∧ d.toInt ≤ 6)
  refine yOk.adv 3 (pc' := 4) (lv' := [(0, .ref 0), (1, .int d)]) (st' := [.int 6, .int 0, .int d]) (M' := M) rfl ?_
  refine yOk.call (M1 := M) _ rfl rfl rfl rfl rfl (m_fromV M d 0 6 0 6 rfl rfl r1 g1) ?_
  show yOk 50 7 [(0, .ref 0), (1, .int d)] [.int r1] M _ _
  refine yOk.if1 .ne _ _ _ _ rfl (fun c1 => ?_) (fun c1 => ?_)
  · have : v = zleast d := hv.elim (fun z => z.2) (fun z => absurd (zne0 g1 c1) z.1)
    subst this
    refine yOk.adv 2 (pc' := 15) (lv' := [(0, .ref 0), (1, .int d)]) (st' := [.int 2, .int d]) (M' := M) rfl ?_
    refine yOk.idiv _ _ _ rfl (two) ?_
    refine yOk.adv 9 (pc' := 25) (lv' := [(2, .int (d / 2)), (0, .ref 0), (1, .int d)]) (st' := [.int 2, .int (((d / 2) + 1) * ((d / 2) + 2))]) (M' := M) rfl ?_
    refine yOk.idiv _ _ _ rfl (two) ?_
    exact yOk.ret _ rfl rfl rfl
  · have : v = -2 := hv.elim (fun z => absurd z.1 (zne1 g1 c1)) (fun z => z.2)
    subst this
    refine yOk.adv 1 (pc' := 12) (lv' := [(0, .ref 0), (1, .int d)]) (st' := [.int (-2)]) (M' := M) rfl ?_
    exact yOk.ret _ rfl rfl rfl
theorem r_least (M : zMm) (d : Int32) (v : Int32) (hv : ((0 ≤ d.toInt ∧ d.toInt ≤ 6) ∧ v = zleast d) ∨ (¬ (0 ≤ d.toInt ∧ d.toInt ≤ 6) ∧ v = -2)) : yOk 138 0 [(0, .ref 93), (1, .int d)] [] M (some (.int v)) M := by
  have two : ¬ (2 : Int32) = 0 := by decide
  have ed : d.toInt64.toInt = d.toInt := Kit.i64_of_i32 d
  obtain ⟨r1, g1⟩ := zem (0 ≤ d.toInt64.toInt ∧ d.toInt64.toInt ≤ 6)
  refine yOk.adv 4 (pc' := 6) (lv' := [(0, .ref 93), (1, .int d)]) (st' := [.long 6, .long 0, .long d.toInt64]) (M' := M) rfl ?_
  refine yOk.call (M1 := M) _ rfl rfl rfl rfl rfl (r_withinV M d.toInt64 0 6 0 6 rfl rfl r1 g1) ?_
  show yOk 138 9 [(0, .ref 93), (1, .int d)] [.int r1] M _ _
  rw [ed] at g1
  refine yOk.if1 .ne _ _ _ _ rfl (fun c1 => ?_) (fun c1 => ?_)
  · have : v = zleast d := hv.elim (fun z => z.2) (fun z => absurd (zne0 g1 c1) z.1)
    subst this
    refine yOk.adv 2 (pc' := 17) (lv' := [(0, .ref 93), (1, .int d)]) (st' := [.int 2, .int d]) (M' := M) rfl ?_
    refine yOk.idiv _ _ _ rfl (two) ?_
    refine yOk.adv 9 (pc' := 27) (lv' := [(2, .int (d / 2)), (0, .ref 93), (1, .int d)]) (st' := [.int 2, .int (((d / 2) + 1) * ((d / 2) + 2))]) (M' := M) rfl ?_
    refine yOk.idiv _ _ _ rfl (two) ?_
    exact yOk.ret _ rfl rfl rfl
  · have : v = -2 := hv.elim (fun z => absurd z.1 (zne1 g1 c1)) (fun z => z.2)
    subst this
    refine yOk.adv 1 (pc' := 14) (lv' := [(0, .ref 93), (1, .int d)]) (st' := [.int (-2)]) (M' := M) rfl ?_
    exact yOk.ret _ rfl rfl rfl
def zbeg (d q w : Int32) : Prop := (0 ≤ d.toInt ∧ d.toInt ≤ 2) ∧ (1 ≤ q.toInt ∧ q.toInt ≤ 12) ∧ (1 ≤ w.toInt ∧ w.toInt ≤ 10000)
theorem m_startAnew_1 (M : zMm) (d q w : Int32) : yOk 20 0 [(0, .ref 1), (1, .int d), (2, .int q), (3, .int w)] [] M none (zup (zup (zup (zup M 1 0 d) 1 1 q) 1 2 w) 1 3 0) := by
  refine yOk.adv 12 (pc' := 20) (lv' := [(0, .ref 1), (1, .int d), (2, .int q), (3, .int w)]) (st' := []) (M' := zup (zup (zup (zup M 1 0 d) 1 1 q) 1 2 w) 1 3 0) rfl ?_
  exact yOk.ret _ rfl rfl rfl
theorem m_begin (M N : zMm) (d q w : Int32) (v : Int32) (hv : (zbeg d q w ∧ v = 1 ∧ N = zup (zup (zup (zup M 1 0 d) 1 1 q) 1 2 w) 1 3 0) ∨ (¬ zbeg d q w ∧ v = -2 ∧ N = M)) : yOk 38 0 [(0, .ref 0), (1, .int d), (2, .int q), (3, .int w)] [] M (some (.int v)) N := by
  obtain ⟨r1, g1⟩ := zem (0 ≤ d.toInt ∧ d.toInt ≤ 2)
  obtain ⟨r2, g2⟩ := zem (1 ≤ q.toInt ∧ q.toInt ≤ 12)
  obtain ⟨r3, g3⟩ := zem (1 ≤ w.toInt ∧ w.toInt ≤ 10000)
  have out : ¬ zbeg d q w → yOk 38 30 [(0, .ref 0), (1, .int d), (2, .int q), (3, .int w)] [] M (some (.int v)) N := by
    intro h
    obtain ⟨rfl, rfl⟩ : v = -2 ∧ N = M := hv.elim (fun z => absurd z.1 h) (fun z => z.2)
    refine yOk.adv 1 (pc' := 32) (lv' := [(0, .ref 0), (1, .int d), (2, .int q), (3, .int w)]) (st' := [.int (-2)]) (M' := N) rfl ?_
    exact yOk.ret _ rfl rfl rfl
  refine yOk.adv 3 (pc' := 3) (lv' := [(0, .ref 0), (1, .int d), (2, .int q), (3, .int w)]) (st' := [.int 2, .int 0, .int d]) (M' := M) rfl ?_
  refine yOk.call (M1 := M) _ rfl rfl rfl rfl rfl (m_fromV M d 0 2 0 2 rfl rfl r1 g1) ?_
  show yOk 38 6 [(0, .ref 0), (1, .int d), (2, .int q), (3, .int w)] [.int r1] M _ _
  refine yOk.if1 .eq _ _ _ _ rfl (fun c1 => ?_) (fun c1 => ?_)
  · exact out (fun h => zeq0 g1 c1 h.1)
  · refine yOk.adv 3 (pc' := 13) (lv' := [(0, .ref 0), (1, .int d), (2, .int q), (3, .int w)]) (st' := [.int 12, .int 1, .int q]) (M' := M) rfl ?_
    refine yOk.call (M1 := M) _ rfl rfl rfl rfl rfl (m_fromV M q 1 12 1 12 rfl rfl r2 g2) ?_
    show yOk 38 16 [(0, .ref 0), (1, .int d), (2, .int q), (3, .int w)] [.int r2] M _ _
    refine yOk.if1 .eq _ _ _ _ rfl (fun c2 => ?_) (fun c2 => ?_)
    · exact out (fun h => zeq0 g2 c2 h.2.1)
    · refine yOk.adv 3 (pc' := 24) (lv' := [(0, .ref 0), (1, .int d), (2, .int q), (3, .int w)]) (st' := [.int 10000, .int 1, .int w]) (M' := M) rfl ?_
      refine yOk.call (M1 := M) _ rfl rfl rfl rfl rfl (m_fromV M w 1 10000 1 10000 rfl rfl r3 g3) ?_
      show yOk 38 27 [(0, .ref 0), (1, .int d), (2, .int q), (3, .int w)] [.int r3] M _ _
      refine yOk.if1 .ne _ _ _ _ rfl (fun c3 => ?_) (fun c3 => ?_)
      · obtain ⟨rfl, rfl⟩ : v = 1 ∧ N = zup (zup (zup (zup M 1 0 d) 1 1 q) 1 2 w) 1 3 0 := hv.elim (fun z => z.2) (fun z => absurd ⟨zeq1 g1 c1, zeq1 g2 c2, zne0 g3 c3⟩ z.1)
        refine yOk.adv 5 (pc' := 40) (lv' := [(0, .ref 0), (1, .int d), (2, .int q), (3, .int w)]) (st' := [.int w, .int q, .int d, .ref 1]) (M' := M) rfl ?_
        refine yOk.call (M1 := zup (zup (zup (zup M 1 0 d) 1 1 q) 1 2 w) 1 3 0) _ rfl rfl rfl rfl rfl (m_startAnew_1 M d q w) ?_
        show yOk 38 43 [(0, .ref 0), (1, .int d), (2, .int q), (3, .int w)] [] (zup (zup (zup (zup M 1 0 d) 1 1 q) 1 2 w) 1 3 0) _ _
        refine yOk.adv 1 (pc' := 44) (lv' := [(0, .ref 0), (1, .int d), (2, .int q), (3, .int w)]) (st' := [.int 1]) (M' := zup (zup (zup (zup M 1 0 d) 1 1 q) 1 2 w) 1 3 0) rfl ?_
        exact yOk.ret _ rfl rfl rfl
      · exact out (fun h => zne1 g3 c3 h.2.2)
theorem r_begin (M N : zMm) (d q w : Int32) (v : Int32) (hv : (zbeg d q w ∧ v = 1 ∧ N = zup (zup (zup (zup M 93 4 d) 93 5 q) 93 6 w) 93 7 0) ∨ (¬ zbeg d q w ∧ v = -2 ∧ N = M)) : yOk 110 0 [(0, .ref 93), (1, .int d), (2, .int q), (3, .int w)] [] M (some (.int v)) N := by
  have ed : d.toInt64.toInt = d.toInt := Kit.i64_of_i32 d
  have eq : q.toInt64.toInt = q.toInt := Kit.i64_of_i32 q
  have ew : w.toInt64.toInt = w.toInt := Kit.i64_of_i32 w
  obtain ⟨r1, g1⟩ := zem (0 ≤ d.toInt64.toInt ∧ d.toInt64.toInt ≤ 2)
  obtain ⟨r2, g2⟩ := zem (1 ≤ q.toInt64.toInt ∧ q.toInt64.toInt ≤ 12)
  obtain ⟨r3, g3⟩ := zem (1 ≤ w.toInt64.toInt ∧ w.toInt64.toInt ≤ 10000)
  have f1 := g1
  have f2 := g2
  have f3 := g3
  rw [ed] at f1
  rw [eq] at f2
  rw [ew] at f3
  have out : ¬ zbeg d q w → yOk 110 36 [(0, .ref 93), (1, .int d), (2, .int q), (3, .int w)] [] M (some (.int v)) N := by
    intro h
    obtain ⟨rfl, rfl⟩ : v = -2 ∧ N = M := hv.elim (fun z => absurd z.1 h) (fun z => z.2)
    refine yOk.adv 1 (pc' := 38) (lv' := [(0, .ref 93), (1, .int d), (2, .int q), (3, .int w)]) (st' := [.int (-2)]) (M' := N) rfl ?_
    exact yOk.ret _ rfl rfl rfl
  refine yOk.adv 4 (pc' := 6) (lv' := [(0, .ref 93), (1, .int d), (2, .int q), (3, .int w)]) (st' := [.long 2, .long 0, .long d.toInt64]) (M' := M) rfl ?_
  refine yOk.call (M1 := M) _ rfl rfl rfl rfl rfl (r_withinV M d.toInt64 0 2 0 2 rfl rfl r1 g1) ?_
  show yOk 110 9 [(0, .ref 93), (1, .int d), (2, .int q), (3, .int w)] [.int r1] M _ _
  refine yOk.if1 .eq _ _ _ _ rfl (fun c1 => ?_) (fun c1 => ?_)
  · exact out (fun h => zeq0 f1 c1 h.1)
  · refine yOk.adv 4 (pc' := 18) (lv' := [(0, .ref 93), (1, .int d), (2, .int q), (3, .int w)]) (st' := [.long 12, .long 1, .long q.toInt64]) (M' := M) rfl ?_
    refine yOk.call (M1 := M) _ rfl rfl rfl rfl rfl (r_withinV M q.toInt64 1 12 1 12 rfl rfl r2 g2) ?_
    show yOk 110 21 [(0, .ref 93), (1, .int d), (2, .int q), (3, .int w)] [.int r2] M _ _
    refine yOk.if1 .eq _ _ _ _ rfl (fun c2 => ?_) (fun c2 => ?_)
    · exact out (fun h => zeq0 f2 c2 h.2.1)
    · refine yOk.adv 4 (pc' := 30) (lv' := [(0, .ref 93), (1, .int d), (2, .int q), (3, .int w)]) (st' := [.long 10000, .long 1, .long w.toInt64]) (M' := M) rfl ?_
      refine yOk.call (M1 := M) _ rfl rfl rfl rfl rfl (r_withinV M w.toInt64 1 10000 1 10000 rfl rfl r3 g3) ?_
      show yOk 110 33 [(0, .ref 93), (1, .int d), (2, .int q), (3, .int w)] [.int r3] M _ _
      refine yOk.if1 .ne _ _ _ _ rfl (fun c3 => ?_) (fun c3 => ?_)
      · obtain ⟨rfl, rfl⟩ : v = 1 ∧ N = zup (zup (zup (zup M 93 4 d) 93 5 q) 93 6 w) 93 7 0 := hv.elim (fun z => z.2) (fun z => absurd ⟨zeq1 f1 c1, zeq1 f2 c2, zne0 f3 c3⟩ z.1)
        refine yOk.adv 13 (pc' := 60) (lv' := [(0, .ref 93), (1, .int d), (2, .int q), (3, .int w)]) (st' := [.int 1]) (M' := zup (zup (zup (zup M 93 4 d) 93 5 q) 93 6 w) 93 7 0) rfl ?_
        exact yOk.ret _ rfl rfl rfl
      · exact out (fun h => zne1 f3 c3 h.2.2)
theorem m_place_bad (M : zMm) (n : Nat) (hs : M.1 1 3 = nI n) (hn : n ≤ 24) (hW : ∀ p, p < n → zwr (M.1 4 p).toInt) (x y w : Int32) (hb : zbad (M.1 2) (M.1 3) (M.1 4) n x y w) : yOk 40 0 [(0, .ref 0), (1, .int x), (2, .int y), (3, .int w)] [] M (some (.int (-2))) M := by
  refine yOk.adv 5 (pc' := 7) (lv' := [(0, .ref 0), (1, .int x), (2, .int y), (3, .int w)]) (st' := [.int w, .int y, .int x, .ref 1]) (M' := M) rfl ?_
  refine yOk.call (M1 := M) _ rfl rfl rfl rfl rfl (m_add_bad_1 M n hs hn hW x y w hb) ?_
  show yOk 40 10 [(0, .ref 0), (1, .int x), (2, .int y), (3, .int w)] [.int (-2)] M _ _
  exact yOk.ret _ rfl rfl rfl
theorem m_place (M : zMm) (n : Nat) (hs : M.1 1 3 = nI n) (hn : n ≤ 24) (hW : ∀ p, p < n → zwr (M.1 4 p).toInt) (x y w : Int32) (hb : ¬ zbad (M.1 2) (M.1 3) (M.1 4) n x y w) (hroom : n < 24 ∨ ∃ p, zfnd (M.1 2) (M.1 3) x y n 0 = some p) : yOk 40 0 [(0, .ref 0), (1, .int x), (2, .int y), (3, .int w)] [] M (some (.int (zlayR 2 3 M n x y))) (zlayM 1 3 2 3 4 M n x y w) := by
  refine yOk.adv 5 (pc' := 7) (lv' := [(0, .ref 0), (1, .int x), (2, .int y), (3, .int w)]) (st' := [.int w, .int y, .int x, .ref 1]) (M' := M) rfl ?_
  refine yOk.call (M1 := zlayM 1 3 2 3 4 M n x y w) _ rfl rfl rfl rfl rfl (m_add_1 M n hs hn hW x y w hb hroom) ?_
  show yOk 40 10 [(0, .ref 0), (1, .int x), (2, .int y), (3, .int w)] [.int (zlayR 2 3 M n x y)] (zlayM 1 3 2 3 4 M n x y w) _ _
  exact yOk.ret _ rfl rfl rfl
theorem r_place_no (M : zMm) (n : Nat) (hs : M.1 93 7 = nI n) (hn : n ≤ 24) (hW : ∀ p, p < n → zwr (M.1 96 p).toInt) (x y w : Int32) (v : Int32) (h0 : ¬ v = 0) (hv : (zbad (M.1 94) (M.1 95) (M.1 96) n x y w ∧ v = -2) ∨ (¬ zbad (M.1 94) (M.1 95) (M.1 96) n x y w ∧ (zfnd (M.1 94) (M.1 95) x y n 0 = none ∧ n = 24) ∧ v = -4)) : yOk 126 0 [(0, .ref 93), (1, .int x), (2, .int y), (3, .int w)] [] M (some (.int v)) M := by
  refine yOk.adv 4 (pc' := 4) (lv' := [(0, .ref 93), (1, .int x), (2, .int y), (3, .int w)]) (st' := [.int w, .int y, .int x, .ref 93]) (M' := M) rfl ?_
  refine yOk.call (M1 := M) _ rfl rfl rfl rfl rfl (r_against M n hs hn hW x y w v (hv.elim Or.inl (fun z => Or.inr ⟨z.1, Or.inl z.2⟩))) ?_
  show yOk 126 7 [(0, .ref 93), (1, .int x), (2, .int y), (3, .int w)] [.int v] M _ _
  refine yOk.adv 2 (pc' := 11) (lv' := [(4, .int v), (0, .ref 93), (1, .int x), (2, .int y), (3, .int w)]) (st' := [.int v]) (M' := M) rfl ?_
  refine yOk.if1 .eq _ _ _ _ rfl (fun c1 => ?_) (fun c1 => ?_)
  · exact absurd (zeq_t c1) h0
  · refine yOk.adv 2 (pc' := 26) (lv' := [(4, .int v), (0, .ref 93), (1, .int x), (2, .int y), (3, .int w)]) (st' := [.int v]) (M' := M) rfl ?_
    exact yOk.ret _ rfl rfl rfl
theorem r_place (M : zMm) (n : Nat) (hs : M.1 93 7 = nI n) (hn : n ≤ 24) (hW : ∀ p, p < n → zwr (M.1 96 p).toInt) (x y w : Int32) (hb : ¬ zbad (M.1 94) (M.1 95) (M.1 96) n x y w) (hroom : n < 24 ∨ ∃ p, zfnd (M.1 94) (M.1 95) x y n 0 = some p) : yOk 126 0 [(0, .ref 93), (1, .int x), (2, .int y), (3, .int w)] [] M (some (.int (zlayR 94 95 M n x y))) (zlayM 93 7 94 95 96 M n x y w) := by
  refine yOk.adv 4 (pc' := 4) (lv' := [(0, .ref 93), (1, .int x), (2, .int y), (3, .int w)]) (st' := [.int w, .int y, .int x, .ref 93]) (M' := M) rfl ?_
  refine yOk.call (M1 := M) _ rfl rfl rfl rfl rfl (r_against M n hs hn hW x y w 0 (Or.inr ⟨hb, Or.inr ⟨fun h => hroom.elim (fun q => by omega) (fun q => by obtain ⟨p, hp⟩ := q; rw [h.1] at hp; cases hp), rfl⟩⟩)) ?_
  show yOk 126 7 [(0, .ref 93), (1, .int x), (2, .int y), (3, .int w)] [.int 0] M _ _
  refine yOk.adv 2 (pc' := 11) (lv' := [(4, .int 0), (0, .ref 93), (1, .int x), (2, .int y), (3, .int w)]) (st' := [.int 0]) (M' := M) rfl ?_
  refine yOk.if1 .eq _ _ _ _ rfl (fun c1 => ?_) (fun c1 => ?_)
  · refine yOk.adv 4 (pc' := 23) (lv' := [(4, .int 0), (0, .ref 93), (1, .int x), (2, .int y), (3, .int w)]) (st' := [.int w, .int y, .int x, .ref 93]) (M' := M) rfl ?_
    refine yOk.call (M1 := zlayM 93 7 94 95 96 M n x y w) _ rfl rfl rfl rfl rfl (r_lay M n hs hn x y w hroom) ?_
    show yOk 126 26 [(4, .int 0), (0, .ref 93), (1, .int x), (2, .int y), (3, .int w)] [.int (zlayR 94 95 M n x y)] (zlayM 93 7 94 95 96 M n x y w) _ _
    exact yOk.ret _ rfl rfl rfl
  · exact absurd c1 (by decide)
