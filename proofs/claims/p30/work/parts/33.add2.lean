/-! ===== add of the class, against and lay of the reference ===== -/
/-- the numbers behind a place that came: c, f the row and where its size stands; o where it was found -/
def zlayM (c f ax ay aw : Nat) (M : zMm) (n : Nat) (x y w : Int32) : zMm := match zfnd (M.1 ax) (M.1 ay) x y n 0 with
  | some p => zup M aw p (M.1 aw p + w)
  | none => zup (zup (zup (zup M ax n x) ay n y) aw n w) c f (nI (n + 1))
def zlayR (ax ay : Nat) (M : zMm) (n : Nat) (x y : Int32) : Int32 := match zfnd (M.1 ax) (M.1 ay) x y n 0 with
  | some p => nI p
  | none => nI n
theorem zI_pred (n : Nat) : nI (n + 1) - 1 = nI n := by rw [nI_succ, Int32.add_sub_cancel]
theorem m_add_bad_1 (M : zMm) (n : Nat) (hs : M.1 1 3 = nI n) (hn : n ≤ 24) (hW : ∀ p, p < n → zwr (M.1 4 p).toInt) (x y w : Int32) (hb : zbad (M.1 2) (M.1 3) (M.1 4) n x y w) : yOk 26 0 [(0, .ref 1), (1, .int x), (2, .int y), (3, .int w)] [] M (some (.int (-2))) M := by
  refine yOk.adv 4 (pc' := 4) (lv' := [(0, .ref 1), (1, .int x), (2, .int y), (3, .int w)]) (st' := [.int w, .int y, .int x, .ref 1]) (M' := M) rfl ?_
  refine yOk.call (M1 := M) _ rfl rfl rfl rfl rfl (m_refusal_1 M n hs hn hW x y w (-2) (Or.inl ⟨hb, rfl⟩)) ?_
  show yOk 26 7 [(0, .ref 1), (1, .int x), (2, .int y), (3, .int w)] [.int (-2)] M _ _
  refine yOk.adv 2 (pc' := 11) (lv' := [(4, .int (-2)), (0, .ref 1), (1, .int x), (2, .int y), (3, .int w)]) (st' := [.int (-2)]) (M' := M) rfl ?_
  refine yOk.if1 .eq _ _ _ _ rfl (fun c1 => ?_) (fun c1 => ?_)
  · exact absurd c1 (by decide)
  · refine yOk.adv 1 (pc' := 16) (lv' := [(4, .int (-2)), (0, .ref 1), (1, .int x), (2, .int y), (3, .int w)]) (st' := [.int (-2)]) (M' := M) rfl ?_
    exact yOk.ret _ rfl rfl rfl
theorem m_add_1 (M : zMm) (n : Nat) (hs : M.1 1 3 = nI n) (hn : n ≤ 24) (hW : ∀ p, p < n → zwr (M.1 4 p).toInt) (x y w : Int32) (hb : ¬ zbad (M.1 2) (M.1 3) (M.1 4) n x y w) (hroom : n < 24 ∨ ∃ p, zfnd (M.1 2) (M.1 3) x y n 0 = some p) : yOk 26 0 [(0, .ref 1), (1, .int x), (2, .int y), (3, .int w)] [] M (some (.int (zlayR 2 3 M n x y))) (zlayM 1 3 2 3 4 M n x y w) := by
  refine yOk.adv 4 (pc' := 4) (lv' := [(0, .ref 1), (1, .int x), (2, .int y), (3, .int w)]) (st' := [.int w, .int y, .int x, .ref 1]) (M' := M) rfl ?_
  refine yOk.call (M1 := M) _ rfl rfl rfl rfl rfl (m_refusal_1 M n hs hn hW x y w 0 (Or.inr ⟨hb, rfl⟩)) ?_
  show yOk 26 7 [(0, .ref 1), (1, .int x), (2, .int y), (3, .int w)] [.int 0] M _ _
  refine yOk.adv 2 (pc' := 11) (lv' := [(4, .int 0), (0, .ref 1), (1, .int x), (2, .int y), (3, .int w)]) (st' := [.int 0]) (M' := M) rfl ?_
  refine yOk.if1 .eq _ _ _ _ rfl (fun c1 => ?_) (fun c1 => ?_)
  · refine yOk.adv 3 (pc' := 20) (lv' := [(4, .int 0), (0, .ref 1), (1, .int x), (2, .int y), (3, .int w)]) (st' := [.int y, .int x, .ref 1]) (M' := M) rfl ?_
    refine yOk.call (M1 := M) _ rfl rfl rfl rfl rfl (m_numberOf_1 M n hs hn x y) ?_
    show yOk 26 23 [(4, .int 0), (0, .ref 1), (1, .int x), (2, .int y), (3, .int w)] [.int (zfv (-1) (zfnd (M.1 2) (M.1 3) x y n 0))] M _ _
    unfold zlayM zlayR
    cases hf : zfnd (M.1 2) (M.1 3) x y n 0 with
    | none =>
      have hn2 : n < 24 := hroom.elim id (fun h => by obtain ⟨p, hp⟩ := h; rw [hf] at hp; cases hp)
      have ck : (nI n).toNatClampNeg = n := nI_clamp (by omega)
      have hin : zin (nI n) 24 = true := zin_nI (by omega) (by omega)
      show yOk 26 23 [(4, .int 0), (0, .ref 1), (1, .int x), (2, .int y), (3, .int w)] [.int (-1)] M _ _
      refine yOk.adv 3 (pc' := 28) (lv' := [(5, .int (-1)), (4, .int 0), (0, .ref 1), (1, .int x), (2, .int y), (3, .int w)]) (st' := [.int (-1), .int (-1)]) (M' := M) rfl ?_
      refine yOk.if2 .eq _ _ _ _ rfl (fun c2 => ?_) (fun c2 => ?_)
      · refine yOk.adv 3 (pc' := 51) (lv' := [(5, .int (-1)), (4, .int 0), (0, .ref 1), (1, .int x), (2, .int y), (3, .int w)]) (st' := [.int 24, .int (M.1 1 3)]) (M' := M) rfl ?_
        rw [hs]
        refine yOk.if2 .lt _ _ _ _ rfl (fun c3 => ?_) (fun c3 => ?_)
        · refine yOk.adv 4 (pc' := 65) (lv' := [(5, .int (-1)), (4, .int 0), (0, .ref 1), (1, .int x), (2, .int y), (3, .int w)]) (st' := [.int (M.1 1 3), .ref 2]) (M' := M) rfl ?_
          rw [hs]
          refine yOk.adv 1 (pc' := 66) (lv' := [(5, .int (-1)), (4, .int 0), (0, .ref 1), (1, .int x), (2, .int y), (3, .int w)]) (st' := [.int x, .int (nI n), .ref 2]) (M' := M) rfl ?_
          refine yOk.iast _ _ _ rfl rfl (hin) ?_
          rw [ck]
          refine yOk.adv 4 (pc' := 75) (lv' := [(5, .int (-1)), (4, .int 0), (0, .ref 1), (1, .int x), (2, .int y), (3, .int w)]) (st' := [.int ((zup M 2 n x).1 1 3), .ref 3]) (M' := zup M 2 n x) rfl ?_
          have e1 : (zup M 2 n x).1 1 3 = nI n := by rw [← hs]; unfold zup; simp
          rw [e1]
          refine yOk.adv 1 (pc' := 76) (lv' := [(5, .int (-1)), (4, .int 0), (0, .ref 1), (1, .int x), (2, .int y), (3, .int w)]) (st' := [.int y, .int (nI n), .ref 3]) (M' := zup M 2 n x) rfl ?_
          refine yOk.iast _ _ _ rfl rfl (hin) ?_
          rw [ck]
          refine yOk.adv 4 (pc' := 85) (lv' := [(5, .int (-1)), (4, .int 0), (0, .ref 1), (1, .int x), (2, .int y), (3, .int w)]) (st' := [.int ((zup (zup M 2 n x) 3 n y).1 1 3), .ref 4]) (M' := zup (zup M 2 n x) 3 n y) rfl ?_
          have e2 : (zup (zup M 2 n x) 3 n y).1 1 3 = nI n := by rw [← hs]; unfold zup; simp
          rw [e2]
          refine yOk.adv 1 (pc' := 86) (lv' := [(5, .int (-1)), (4, .int 0), (0, .ref 1), (1, .int x), (2, .int y), (3, .int w)]) (st' := [.int w, .int (nI n), .ref 4]) (M' := zup (zup M 2 n x) 3 n y) rfl ?_
          refine yOk.iast _ _ _ rfl rfl (hin) ?_
          rw [ck]
          refine yOk.adv 3 (pc' := 92) (lv' := [(5, .int (-1)), (4, .int 0), (0, .ref 1), (1, .int x), (2, .int y), (3, .int w)]) (st' := [.int ((zup (zup (zup M 2 n x) 3 n y) 4 n w).1 1 3), .ref 1]) (M' := zup (zup (zup M 2 n x) 3 n y) 4 n w) rfl ?_
          have e3 : (zup (zup (zup M 2 n x) 3 n y) 4 n w).1 1 3 = nI n := by rw [← hs]; unfold zup; simp
          rw [e3]
          refine yOk.adv 2 (pc' := 94) (lv' := [(5, .int (-1)), (4, .int 0), (0, .ref 1), (1, .int x), (2, .int y), (3, .int w)]) (st' := [.int ((nI n) + 1), .ref 1]) (M' := zup (zup (zup M 2 n x) 3 n y) 4 n w) rfl ?_
          rw [← nI_succ]
          refine yOk.adv 3 (pc' := 101) (lv' := [(5, .int (-1)), (4, .int 0), (0, .ref 1), (1, .int x), (2, .int y), (3, .int w)]) (st' := [.int ((zup (zup (zup (zup M 2 n x) 3 n y) 4 n w) 1 3 (nI (n + 1))).1 1 3)]) (M' := zup (zup (zup (zup M 2 n x) 3 n y) 4 n w) 1 3 (nI (n + 1))) rfl ?_
          have e4 : (zup (zup (zup (zup M 2 n x) 3 n y) 4 n w) 1 3 (nI (n + 1))).1 1 3 = nI (n + 1) := by unfold zup; simp
          rw [e4]
          refine yOk.adv 2 (pc' := 103) (lv' := [(5, .int (-1)), (4, .int 0), (0, .ref 1), (1, .int x), (2, .int y), (3, .int w)]) (st' := [.int ((nI (n + 1)) - 1)]) (M' := zup (zup (zup (zup M 2 n x) 3 n y) 4 n w) 1 3 (nI (n + 1))) rfl ?_
          rw [zI_pred]
          exact yOk.ret _ rfl rfl rfl
        · exact absurd (nI_lt (show n < 24 by omega) (by omega)) (zlt_f c3)
      · exact absurd c2 (by decide)
    | some p =>
      obtain ⟨p1, p2, p3⟩ := zfnd_some hf
      have ck : (nI p).toNatClampNeg = p := nI_clamp (by omega)
      have hin : zin (nI p) 24 = true := zin_nI (by omega) (by omega)
      show yOk 26 23 [(4, .int 0), (0, .ref 1), (1, .int x), (2, .int y), (3, .int w)] [.int (nI p)] M _ _
      refine yOk.adv 3 (pc' := 28) (lv' := [(5, .int (nI p)), (4, .int 0), (0, .ref 1), (1, .int x), (2, .int y), (3, .int w)]) (st' := [.int (-1), .int (nI p)]) (M' := M) rfl ?_
      refine yOk.if2 .eq _ _ _ _ rfl (fun c2 => ?_) (fun c2 => ?_)
      · exact absurd (zeq_t c2) (nI_nm1 p (by omega))
      · refine yOk.adv 4 (pc' := 38) (lv' := [(5, .int (nI p)), (4, .int 0), (0, .ref 1), (1, .int x), (2, .int y), (3, .int w)]) (st' := [.int (nI p), .ref 4, .int (nI p), .ref 4]) (M' := M) rfl ?_
        refine yOk.iald _ _ _ rfl rfl (hin) ?_
        rw [ck]
        refine yOk.adv 2 (pc' := 41) (lv' := [(5, .int (nI p)), (4, .int 0), (0, .ref 1), (1, .int x), (2, .int y), (3, .int w)]) (st' := [.int ((M.1 4 p) + w), .int (nI p), .ref 4]) (M' := M) rfl ?_
        refine yOk.iast _ _ _ rfl rfl (hin) ?_
        rw [ck]
        refine yOk.adv 1 (pc' := 44) (lv' := [(5, .int (nI p)), (4, .int 0), (0, .ref 1), (1, .int x), (2, .int y), (3, .int w)]) (st' := [.int (nI p)]) (M' := zup M 4 p (M.1 4 p + w)) rfl ?_
        exact yOk.ret _ rfl rfl rfl
  · exact absurd c1 (by decide)
theorem m_add_bad_5 (M : zMm) (n : Nat) (hs : M.1 5 3 = nI n) (hn : n ≤ 24) (hW : ∀ p, p < n → zwr (M.1 8 p).toInt) (x y w : Int32) (hb : zbad (M.1 6) (M.1 7) (M.1 8) n x y w) : yOk 26 0 [(0, .ref 5), (1, .int x), (2, .int y), (3, .int w)] [] M (some (.int (-2))) M := by
  refine yOk.adv 4 (pc' := 4) (lv' := [(0, .ref 5), (1, .int x), (2, .int y), (3, .int w)]) (st' := [.int w, .int y, .int x, .ref 5]) (M' := M) rfl ?_
  refine yOk.call (M1 := M) _ rfl rfl rfl rfl rfl (m_refusal_5 M n hs hn hW x y w (-2) (Or.inl ⟨hb, rfl⟩)) ?_
  show yOk 26 7 [(0, .ref 5), (1, .int x), (2, .int y), (3, .int w)] [.int (-2)] M _ _
  refine yOk.adv 2 (pc' := 11) (lv' := [(4, .int (-2)), (0, .ref 5), (1, .int x), (2, .int y), (3, .int w)]) (st' := [.int (-2)]) (M' := M) rfl ?_
  refine yOk.if1 .eq _ _ _ _ rfl (fun c1 => ?_) (fun c1 => ?_)
  · exact absurd c1 (by decide)
  · refine yOk.adv 1 (pc' := 16) (lv' := [(4, .int (-2)), (0, .ref 5), (1, .int x), (2, .int y), (3, .int w)]) (st' := [.int (-2)]) (M' := M) rfl ?_
    exact yOk.ret _ rfl rfl rfl
theorem m_add_5 (M : zMm) (n : Nat) (hs : M.1 5 3 = nI n) (hn : n ≤ 24) (hW : ∀ p, p < n → zwr (M.1 8 p).toInt) (x y w : Int32) (hb : ¬ zbad (M.1 6) (M.1 7) (M.1 8) n x y w) (hroom : n < 24 ∨ ∃ p, zfnd (M.1 6) (M.1 7) x y n 0 = some p) : yOk 26 0 [(0, .ref 5), (1, .int x), (2, .int y), (3, .int w)] [] M (some (.int (zlayR 6 7 M n x y))) (zlayM 5 3 6 7 8 M n x y w) := by
  refine yOk.adv 4 (pc' := 4) (lv' := [(0, .ref 5), (1, .int x), (2, .int y), (3, .int w)]) (st' := [.int w, .int y, .int x, .ref 5]) (M' := M) rfl ?_
  refine yOk.call (M1 := M) _ rfl rfl rfl rfl rfl (m_refusal_5 M n hs hn hW x y w 0 (Or.inr ⟨hb, rfl⟩)) ?_
  show yOk 26 7 [(0, .ref 5), (1, .int x), (2, .int y), (3, .int w)] [.int 0] M _ _
  refine yOk.adv 2 (pc' := 11) (lv' := [(4, .int 0), (0, .ref 5), (1, .int x), (2, .int y), (3, .int w)]) (st' := [.int 0]) (M' := M) rfl ?_
  refine yOk.if1 .eq _ _ _ _ rfl (fun c1 => ?_) (fun c1 => ?_)
  · refine yOk.adv 3 (pc' := 20) (lv' := [(4, .int 0), (0, .ref 5), (1, .int x), (2, .int y), (3, .int w)]) (st' := [.int y, .int x, .ref 5]) (M' := M) rfl ?_
    refine yOk.call (M1 := M) _ rfl rfl rfl rfl rfl (m_numberOf_5 M n hs hn x y) ?_
    show yOk 26 23 [(4, .int 0), (0, .ref 5), (1, .int x), (2, .int y), (3, .int w)] [.int (zfv (-1) (zfnd (M.1 6) (M.1 7) x y n 0))] M _ _
    unfold zlayM zlayR
    cases hf : zfnd (M.1 6) (M.1 7) x y n 0 with
    | none =>
      have hn2 : n < 24 := hroom.elim id (fun h => by obtain ⟨p, hp⟩ := h; rw [hf] at hp; cases hp)
      have ck : (nI n).toNatClampNeg = n := nI_clamp (by omega)
      have hin : zin (nI n) 24 = true := zin_nI (by omega) (by omega)
      show yOk 26 23 [(4, .int 0), (0, .ref 5), (1, .int x), (2, .int y), (3, .int w)] [.int (-1)] M _ _
      refine yOk.adv 3 (pc' := 28) (lv' := [(5, .int (-1)), (4, .int 0), (0, .ref 5), (1, .int x), (2, .int y), (3, .int w)]) (st' := [.int (-1), .int (-1)]) (M' := M) rfl ?_
      refine yOk.if2 .eq _ _ _ _ rfl (fun c2 => ?_) (fun c2 => ?_)
      · refine yOk.adv 3 (pc' := 51) (lv' := [(5, .int (-1)), (4, .int 0), (0, .ref 5), (1, .int x), (2, .int y), (3, .int w)]) (st' := [.int 24, .int (M.1 5 3)]) (M' := M) rfl ?_
        rw [hs]
        refine yOk.if2 .lt _ _ _ _ rfl (fun c3 => ?_) (fun c3 => ?_)
        · refine yOk.adv 4 (pc' := 65) (lv' := [(5, .int (-1)), (4, .int 0), (0, .ref 5), (1, .int x), (2, .int y), (3, .int w)]) (st' := [.int (M.1 5 3), .ref 6]) (M' := M) rfl ?_
          rw [hs]
          refine yOk.adv 1 (pc' := 66) (lv' := [(5, .int (-1)), (4, .int 0), (0, .ref 5), (1, .int x), (2, .int y), (3, .int w)]) (st' := [.int x, .int (nI n), .ref 6]) (M' := M) rfl ?_
          refine yOk.iast _ _ _ rfl rfl (hin) ?_
          rw [ck]
          refine yOk.adv 4 (pc' := 75) (lv' := [(5, .int (-1)), (4, .int 0), (0, .ref 5), (1, .int x), (2, .int y), (3, .int w)]) (st' := [.int ((zup M 6 n x).1 5 3), .ref 7]) (M' := zup M 6 n x) rfl ?_
          have e1 : (zup M 6 n x).1 5 3 = nI n := by rw [← hs]; unfold zup; simp
          rw [e1]
          refine yOk.adv 1 (pc' := 76) (lv' := [(5, .int (-1)), (4, .int 0), (0, .ref 5), (1, .int x), (2, .int y), (3, .int w)]) (st' := [.int y, .int (nI n), .ref 7]) (M' := zup M 6 n x) rfl ?_
          refine yOk.iast _ _ _ rfl rfl (hin) ?_
          rw [ck]
          refine yOk.adv 4 (pc' := 85) (lv' := [(5, .int (-1)), (4, .int 0), (0, .ref 5), (1, .int x), (2, .int y), (3, .int w)]) (st' := [.int ((zup (zup M 6 n x) 7 n y).1 5 3), .ref 8]) (M' := zup (zup M 6 n x) 7 n y) rfl ?_
          have e2 : (zup (zup M 6 n x) 7 n y).1 5 3 = nI n := by rw [← hs]; unfold zup; simp
          rw [e2]
          refine yOk.adv 1 (pc' := 86) (lv' := [(5, .int (-1)), (4, .int 0), (0, .ref 5), (1, .int x), (2, .int y), (3, .int w)]) (st' := [.int w, .int (nI n), .ref 8]) (M' := zup (zup M 6 n x) 7 n y) rfl ?_
          refine yOk.iast _ _ _ rfl rfl (hin) ?_
          rw [ck]
          refine yOk.adv 3 (pc' := 92) (lv' := [(5, .int (-1)), (4, .int 0), (0, .ref 5), (1, .int x), (2, .int y), (3, .int w)]) (st' := [.int ((zup (zup (zup M 6 n x) 7 n y) 8 n w).1 5 3), .ref 5]) (M' := zup (zup (zup M 6 n x) 7 n y) 8 n w) rfl ?_
          have e3 : (zup (zup (zup M 6 n x) 7 n y) 8 n w).1 5 3 = nI n := by rw [← hs]; unfold zup; simp
          rw [e3]
          refine yOk.adv 2 (pc' := 94) (lv' := [(5, .int (-1)), (4, .int 0), (0, .ref 5), (1, .int x), (2, .int y), (3, .int w)]) (st' := [.int ((nI n) + 1), .ref 5]) (M' := zup (zup (zup M 6 n x) 7 n y) 8 n w) rfl ?_
          rw [← nI_succ]
          refine yOk.adv 3 (pc' := 101) (lv' := [(5, .int (-1)), (4, .int 0), (0, .ref 5), (1, .int x), (2, .int y), (3, .int w)]) (st' := [.int ((zup (zup (zup (zup M 6 n x) 7 n y) 8 n w) 5 3 (nI (n + 1))).1 5 3)]) (M' := zup (zup (zup (zup M 6 n x) 7 n y) 8 n w) 5 3 (nI (n + 1))) rfl ?_
          have e4 : (zup (zup (zup (zup M 6 n x) 7 n y) 8 n w) 5 3 (nI (n + 1))).1 5 3 = nI (n + 1) := by unfold zup; simp
          rw [e4]
          refine yOk.adv 2 (pc' := 103) (lv' := [(5, .int (-1)), (4, .int 0), (0, .ref 5), (1, .int x), (2, .int y), (3, .int w)]) (st' := [.int ((nI (n + 1)) - 1)]) (M' := zup (zup (zup (zup M 6 n x) 7 n y) 8 n w) 5 3 (nI (n + 1))) rfl ?_
          rw [zI_pred]
          exact yOk.ret _ rfl rfl rfl
        · exact absurd (nI_lt (show n < 24 by omega) (by omega)) (zlt_f c3)
      · exact absurd c2 (by decide)
    | some p =>
      obtain ⟨p1, p2, p3⟩ := zfnd_some hf
      have ck : (nI p).toNatClampNeg = p := nI_clamp (by omega)
      have hin : zin (nI p) 24 = true := zin_nI (by omega) (by omega)
      show yOk 26 23 [(4, .int 0), (0, .ref 5), (1, .int x), (2, .int y), (3, .int w)] [.int (nI p)] M _ _
      refine yOk.adv 3 (pc' := 28) (lv' := [(5, .int (nI p)), (4, .int 0), (0, .ref 5), (1, .int x), (2, .int y), (3, .int w)]) (st' := [.int (-1), .int (nI p)]) (M' := M) rfl ?_
      refine yOk.if2 .eq _ _ _ _ rfl (fun c2 => ?_) (fun c2 => ?_)
      · exact absurd (zeq_t c2) (nI_nm1 p (by omega))
      · refine yOk.adv 4 (pc' := 38) (lv' := [(5, .int (nI p)), (4, .int 0), (0, .ref 5), (1, .int x), (2, .int y), (3, .int w)]) (st' := [.int (nI p), .ref 8, .int (nI p), .ref 8]) (M' := M) rfl ?_
        refine yOk.iald _ _ _ rfl rfl (hin) ?_
        rw [ck]
        refine yOk.adv 2 (pc' := 41) (lv' := [(5, .int (nI p)), (4, .int 0), (0, .ref 5), (1, .int x), (2, .int y), (3, .int w)]) (st' := [.int ((M.1 8 p) + w), .int (nI p), .ref 8]) (M' := M) rfl ?_
        refine yOk.iast _ _ _ rfl rfl (hin) ?_
        rw [ck]
        refine yOk.adv 1 (pc' := 44) (lv' := [(5, .int (nI p)), (4, .int 0), (0, .ref 5), (1, .int x), (2, .int y), (3, .int w)]) (st' := [.int (nI p)]) (M' := zup M 8 p (M.1 8 p + w)) rfl ?_
        exact yOk.ret _ rfl rfl rfl
  · exact absurd c1 (by decide)
theorem r_isGrid (M : zMm) (x y : Int32) (v : Int32) (hv : ((zgr x ∧ zgr y) ∧ v = 1) ∨ (¬ (zgr x ∧ zgr y) ∧ v = 0)) : yOk 122 0 [(0, .int x), (1, .int y)] [] M (some (.int v)) M := by
  obtain ⟨r1, g1⟩ := zem (-24 ≤ x.toInt64.toInt ∧ x.toInt64.toInt ≤ 24)
  obtain ⟨r2, g2⟩ := zem (-24 ≤ y.toInt64.toInt ∧ y.toInt64.toInt ≤ 24)
  have ex : x.toInt64.toInt = x.toInt := Kit.i64_of_i32 x
  have ey : y.toInt64.toInt = y.toInt := Kit.i64_of_i32 y
  have out : ¬ (zgr x ∧ zgr y) → yOk 122 32 [(0, .int x), (1, .int y)] [] M (some (.int v)) M := by
    intro h
    have : v = 0 := hv.elim (fun z => absurd z.1 h) (fun z => z.2)
    subst this
    refine yOk.adv 1 (pc' := 33) (lv' := [(0, .int x), (1, .int y)]) (st' := [.int 0]) (M' := M) rfl ?_
    exact yOk.ret _ rfl rfl rfl
  refine yOk.adv 4 (pc' := 8) (lv' := [(0, .int x), (1, .int y)]) (st' := [.long 24, .long (-24), .long x.toInt64]) (M' := M) rfl ?_
  refine yOk.call (M1 := M) _ rfl rfl rfl rfl rfl (r_withinV M x.toInt64 (-24) 24 (-24) 24 rfl rfl r1 g1) ?_
  show yOk 122 11 [(0, .int x), (1, .int y)] [.int r1] M _ _
  refine yOk.if1 .eq _ _ _ _ rfl (fun c1 => ?_) (fun c1 => ?_)
  · refine out (fun h => zeq0 g1 c1 ?_)
    rw [ex]; exact h.1
  · refine yOk.adv 4 (pc' := 22) (lv' := [(0, .int x), (1, .int y)]) (st' := [.long 24, .long (-24), .long y.toInt64]) (M' := M) rfl ?_
    refine yOk.call (M1 := M) _ rfl rfl rfl rfl rfl (r_withinV M y.toInt64 (-24) 24 (-24) 24 rfl rfl r2 g2) ?_
    show yOk 122 25 [(0, .int x), (1, .int y)] [.int r2] M _ _
    refine yOk.if1 .eq _ _ _ _ rfl (fun c2 => ?_) (fun c2 => ?_)
    · refine out (fun h => zeq0 g2 c2 ?_)
      rw [ey]; exact h.2
    · have h1 := zeq1 g1 c1
      have h2 := zeq1 g2 c2
      rw [ex] at h1
      rw [ey] at h2
      have : v = 1 := hv.elim (fun z => z.2) (fun z => absurd ⟨h1, h2⟩ z.1)
      subst this
      refine yOk.adv 2 (pc' := 33) (lv' := [(0, .int x), (1, .int y)]) (st' := [.int 1]) (M' := M) rfl ?_
      exact yOk.ret _ rfl rfl rfl
theorem r_isWeight (M : zMm) (w : Int64) (v : Int32) (hv : (zwr w.toInt ∧ v = 1) ∨ (¬ zwr w.toInt ∧ v = 0)) : yOk 123 0 [(0, .long w)] [] M (some (.int v)) M := by
  refine yOk.adv 3 (pc' := 7) (lv' := [(0, .long w)]) (st' := [.long 10000, .long (-10000), .long w]) (M' := M) rfl ?_
  refine yOk.call (M1 := M) _ rfl rfl rfl rfl rfl (r_withinV M w (-10000) 10000 (-10000) 10000 rfl rfl v hv) ?_
  show yOk 123 10 [(0, .long w)] [.int v] M _ _
  rcases hv with ⟨-, rfl⟩ | ⟨-, rfl⟩
  · exact yOk.ret _ rfl rfl rfl
  · exact yOk.ret _ rfl rfl rfl
theorem r_against (M : zMm) (n : Nat) (hs : M.1 93 7 = nI n) (hn : n ≤ 24) (hW : ∀ p, p < n → zwr (M.1 96 p).toInt) (x y w : Int32) (v : Int32) (hv : (zbad (M.1 94) (M.1 95) (M.1 96) n x y w ∧ v = -2) ∨ (¬ zbad (M.1 94) (M.1 95) (M.1 96) n x y w ∧ ((zfnd (M.1 94) (M.1 95) x y n 0 = none ∧ n = 24) ∧ v = -4 ∨ ¬ (zfnd (M.1 94) (M.1 95) x y n 0 = none ∧ n = 24) ∧ v = 0))) : yOk 124 0 [(0, .ref 93), (1, .int x), (2, .int y), (3, .int w)] [] M (some (.int v)) M := by
  have yes : zbad (M.1 94) (M.1 95) (M.1 96) n x y w → v = -2 := fun h => hv.elim (fun z => z.2) (fun z => absurd h z.1)
  have no : ¬ zbad (M.1 94) (M.1 95) (M.1 96) n x y w → ((zfnd (M.1 94) (M.1 95) x y n 0 = none ∧ n = 24) ∧ v = -4 ∨ ¬ (zfnd (M.1 94) (M.1 95) x y n 0 = none ∧ n = 24) ∧ v = 0) := fun h => hv.elim (fun z => absurd z.1 h) (fun z => z.2)
  obtain ⟨r1, g1⟩ := zem (zgr x ∧ zgr y)
  obtain ⟨r2, g2⟩ := zem (zwr w.toInt64.toInt)
  have ew : w.toInt64.toInt = w.toInt := Kit.i64_of_i32 w
  have out : zbad (M.1 94) (M.1 95) (M.1 96) n x y w → yOk 124 16 [(0, .ref 93), (1, .int x), (2, .int y), (3, .int w)] [] M (some (.int v)) M := by
    intro h
    rw [yes h]
    refine yOk.adv 1 (pc' := 18) (lv' := [(0, .ref 93), (1, .int x), (2, .int y), (3, .int w)]) (st' := [.int (-2)]) (M' := M) rfl ?_
    exact yOk.ret _ rfl rfl rfl
  refine yOk.adv 2 (pc' := 2) (lv' := [(0, .ref 93), (1, .int x), (2, .int y), (3, .int w)]) (st' := [.int y, .int x]) (M' := M) rfl ?_
  refine yOk.call (M1 := M) _ rfl rfl rfl rfl rfl (r_isGrid M x y r1 g1) ?_
  show yOk 124 5 [(0, .ref 93), (1, .int x), (2, .int y), (3, .int w)] [.int r1] M _ _
  refine yOk.if1 .eq _ _ _ _ rfl (fun c1 => ?_) (fun c1 => ?_)
  · exact out (Or.inl fun h => zeq0 g1 c1 ⟨h.1, h.2.1⟩)
  · have hg := zeq1 g1 c1
    refine yOk.adv 2 (pc' := 10) (lv' := [(0, .ref 93), (1, .int x), (2, .int y), (3, .int w)]) (st' := [.long w.toInt64]) (M' := M) rfl ?_
    refine yOk.call (M1 := M) _ rfl rfl rfl rfl rfl (r_isWeight M w.toInt64 r2 g2) ?_
    show yOk 124 13 [(0, .ref 93), (1, .int x), (2, .int y), (3, .int w)] [.int r2] M _ _
    refine yOk.if1 .ne _ _ _ _ rfl (fun c2 => ?_) (fun c2 => ?_)
    · have hw := zne0 g2 c2
      rw [ew] at hw
      refine yOk.adv 3 (pc' := 22) (lv' := [(0, .ref 93), (1, .int x), (2, .int y), (3, .int w)]) (st' := [.int y, .int x, .ref 93]) (M' := M) rfl ?_
      refine yOk.call (M1 := M) _ rfl rfl rfl rfl rfl (r_placeAt M n hs hn x y) ?_
      show yOk 124 25 [(0, .ref 93), (1, .int x), (2, .int y), (3, .int w)] [.int (zfv (-9) (zfnd (M.1 94) (M.1 95) x y n 0))] M _ _
      cases hf : zfnd (M.1 94) (M.1 95) x y n 0 with
      | none =>
        have hnb : ¬ zbad (M.1 94) (M.1 95) (M.1 96) n x y w := fun h => by
          rcases h with h | ⟨p, hp, -⟩
          · exact h ⟨hg.1, hg.2, hw⟩
          · rw [hf] at hp; cases hp
        have hv2 := no hnb
        rw [hf] at hv2
        show yOk 124 25 [(0, .ref 93), (1, .int x), (2, .int y), (3, .int w)] [.int (-9)] M _ _
        refine yOk.adv 3 (pc' := 31) (lv' := [(4, .int (-9)), (0, .ref 93), (1, .int x), (2, .int y), (3, .int w)]) (st' := [.int (-9), .int (-9)]) (M' := M) rfl ?_
        refine yOk.if2 .eq _ _ _ _ rfl (fun c3 => ?_) (fun c3 => ?_)
        · refine yOk.adv 3 (pc' := 64) (lv' := [(4, .int (-9)), (0, .ref 93), (1, .int x), (2, .int y), (3, .int w)]) (st' := [.int 24, .int (M.1 93 7)]) (M' := M) rfl ?_
          rw [hs]
          refine yOk.if2 .ne _ _ _ _ rfl (fun c4 => ?_) (fun c4 => ?_)
          · have hn4 : ¬ n = 24 := fun h => zne_t c4 (by rw [h]; rfl)
            have : v = 0 := hv2.elim (fun z => absurd z.1.2 hn4) (fun z => z.2)
            subst this
            refine yOk.adv 1 (pc' := 73) (lv' := [(4, .int (-9)), (0, .ref 93), (1, .int x), (2, .int y), (3, .int w)]) (st' := [.int 0]) (M' := M) rfl ?_
            exact yOk.ret _ rfl rfl rfl
          · have hn4 : n = 24 := Classical.byContradiction fun h => by
              have e := congrArg Int32.toInt (zne_f c4)
              rw [nI_toInt (by omega)] at e
              have e24 : ((24 : Int32)).toInt = 24 := rfl
              omega
            have : v = -4 := hv2.elim (fun z => z.2) (fun z => absurd ⟨rfl, hn4⟩ z.1)
            subst this
            refine yOk.adv 2 (pc' := 73) (lv' := [(4, .int (-9)), (0, .ref 93), (1, .int x), (2, .int y), (3, .int w)]) (st' := [.int (-4)]) (M' := M) rfl ?_
            exact yOk.ret _ rfl rfl rfl
        · exact absurd c3 (by decide)
      | some p =>
        obtain ⟨p1, p2, p3⟩ := zfnd_some hf
        have hWp := hW p (by omega)
        have ck : (nI p).toNatClampNeg = p := nI_clamp (by omega)
        have hin : zin (nI p) 24 = true := zin_nI (by omega) (by omega)
        obtain ⟨r3, g3⟩ := zem (zwr ((M.1 96 p).toInt64 + w.toInt64).toInt)
        have es : ((M.1 96 p).toInt64 + w.toInt64).toInt = (M.1 96 p).toInt + w.toInt := by
          unfold zwr at hWp hw
          rw [Kit.i64_add (by rw [ew, Kit.i64_of_i32]; omega) (by rw [ew, Kit.i64_of_i32]; omega), ew, Kit.i64_of_i32]
        show yOk 124 25 [(0, .ref 93), (1, .int x), (2, .int y), (3, .int w)] [.int (nI p)] M _ _
        refine yOk.adv 3 (pc' := 31) (lv' := [(4, .int (nI p)), (0, .ref 93), (1, .int x), (2, .int y), (3, .int w)]) (st' := [.int (-9), .int (nI p)]) (M' := M) rfl ?_
        refine yOk.if2 .eq _ _ _ _ rfl (fun c3 => ?_) (fun c3 => ?_)
        · exact absurd (zeq_t c3) (nI_nm9 p (by omega))
        · refine yOk.adv 3 (pc' := 40) (lv' := [(4, .int (nI p)), (0, .ref 93), (1, .int x), (2, .int y), (3, .int w)]) (st' := [.int (nI p), .ref 96]) (M' := M) rfl ?_
          refine yOk.iald _ _ _ rfl rfl (hin) ?_
          rw [ck]
          refine yOk.adv 4 (pc' := 45) (lv' := [(4, .int (nI p)), (0, .ref 93), (1, .int x), (2, .int y), (3, .int w)]) (st' := [.long (((M.1 96 p).toInt64) + w.toInt64)]) (M' := M) rfl ?_
          refine yOk.call (M1 := M) _ rfl rfl rfl rfl rfl (r_isWeight M ((M.1 96 p).toInt64 + w.toInt64) r3 g3) ?_
          show yOk 124 48 [(4, .int (nI p)), (0, .ref 93), (1, .int x), (2, .int y), (3, .int w)] [.int r3] M _ _
          refine yOk.if1 .eq _ _ _ _ rfl (fun c4 => ?_) (fun c4 => ?_)
          · have hb := zeq0 g3 c4
            rw [es] at hb
            rw [yes (Or.inr ⟨p, hf, hb⟩)]
            refine yOk.adv 1 (pc' := 57) (lv' := [(4, .int (nI p)), (0, .ref 93), (1, .int x), (2, .int y), (3, .int w)]) (st' := [.int (-2)]) (M' := M) rfl ?_
            exact yOk.ret _ rfl rfl rfl
          · have hb := zeq1 g3 c4
            rw [es] at hb
            have hnb : ¬ zbad (M.1 94) (M.1 95) (M.1 96) n x y w := fun h => by
              rcases h with h | ⟨p', hp', hb'⟩
              · exact h ⟨hg.1, hg.2, hw⟩
              · rw [hf] at hp'
                obtain rfl := Option.some.inj hp'
                exact hb' hb
            have : v = 0 := (no hnb).elim (fun z => by rw [hf] at z; cases z.1.1) (fun z => z.2)
            subst this
            refine yOk.adv 2 (pc' := 57) (lv' := [(4, .int (nI p)), (0, .ref 93), (1, .int x), (2, .int y), (3, .int w)]) (st' := [.int 0]) (M' := M) rfl ?_
            exact yOk.ret _ rfl rfl rfl
    · refine out (Or.inl fun h => zne1 g2 c2 ?_)
      rw [ew]; exact h.2.2
theorem r_lay (M : zMm) (n : Nat) (hs : M.1 93 7 = nI n) (hn : n ≤ 24) (x y w : Int32) (hroom : n < 24 ∨ ∃ p, zfnd (M.1 94) (M.1 95) x y n 0 = some p) : yOk 125 0 [(0, .ref 93), (1, .int x), (2, .int y), (3, .int w)] [] M (some (.int (zlayR 94 95 M n x y))) (zlayM 93 7 94 95 96 M n x y w) := by
  refine yOk.adv 3 (pc' := 3) (lv' := [(0, .ref 93), (1, .int x), (2, .int y), (3, .int w)]) (st' := [.int y, .int x, .ref 93]) (M' := M) rfl ?_
  refine yOk.call (M1 := M) _ rfl rfl rfl rfl rfl (r_placeAt M n hs hn x y) ?_
  show yOk 125 6 [(0, .ref 93), (1, .int x), (2, .int y), (3, .int w)] [.int (zfv (-9) (zfnd (M.1 94) (M.1 95) x y n 0))] M _ _
  unfold zlayM zlayR
  cases hf : zfnd (M.1 94) (M.1 95) x y n 0 with
  | none =>
    have hn2 : n < 24 := hroom.elim id (fun h => by obtain ⟨p, hp⟩ := h; rw [hf] at hp; cases hp)
    have ck : (nI n).toNatClampNeg = n := nI_clamp (by omega)
    have hin : zin (nI n) 24 = true := zin_nI (by omega) (by omega)
    show yOk 125 6 [(0, .ref 93), (1, .int x), (2, .int y), (3, .int w)] [.int (-9)] M _ _
    refine yOk.adv 3 (pc' := 12) (lv' := [(4, .int (-9)), (0, .ref 93), (1, .int x), (2, .int y), (3, .int w)]) (st' := [.int (-9), .int (-9)]) (M' := M) rfl ?_
    refine yOk.if2 .eq _ _ _ _ rfl (fun c2 => ?_) (fun c2 => ?_)
    · refine yOk.adv 4 (pc' := 37) (lv' := [(4, .int (-9)), (0, .ref 93), (1, .int x), (2, .int y), (3, .int w)]) (st' := [.int (M.1 93 7), .ref 94]) (M' := M) rfl ?_
      rw [hs]
      refine yOk.adv 1 (pc' := 38) (lv' := [(4, .int (-9)), (0, .ref 93), (1, .int x), (2, .int y), (3, .int w)]) (st' := [.int x, .int (nI n), .ref 94]) (M' := M) rfl ?_
      refine yOk.iast _ _ _ rfl rfl (hin) ?_
      rw [ck]
      refine yOk.adv 4 (pc' := 47) (lv' := [(4, .int (-9)), (0, .ref 93), (1, .int x), (2, .int y), (3, .int w)]) (st' := [.int ((zup M 94 n x).1 93 7), .ref 95]) (M' := zup M 94 n x) rfl ?_
      have e1 : (zup M 94 n x).1 93 7 = nI n := by rw [← hs]; unfold zup; simp
      rw [e1]
      refine yOk.adv 1 (pc' := 48) (lv' := [(4, .int (-9)), (0, .ref 93), (1, .int x), (2, .int y), (3, .int w)]) (st' := [.int y, .int (nI n), .ref 95]) (M' := zup M 94 n x) rfl ?_
      refine yOk.iast _ _ _ rfl rfl (hin) ?_
      rw [ck]
      refine yOk.adv 4 (pc' := 57) (lv' := [(4, .int (-9)), (0, .ref 93), (1, .int x), (2, .int y), (3, .int w)]) (st' := [.int ((zup (zup M 94 n x) 95 n y).1 93 7), .ref 96]) (M' := zup (zup M 94 n x) 95 n y) rfl ?_
      have e2 : (zup (zup M 94 n x) 95 n y).1 93 7 = nI n := by rw [← hs]; unfold zup; simp
      rw [e2]
      refine yOk.adv 1 (pc' := 58) (lv' := [(4, .int (-9)), (0, .ref 93), (1, .int x), (2, .int y), (3, .int w)]) (st' := [.int w, .int (nI n), .ref 96]) (M' := zup (zup M 94 n x) 95 n y) rfl ?_
      refine yOk.iast _ _ _ rfl rfl (hin) ?_
      rw [ck]
      refine yOk.adv 3 (pc' := 64) (lv' := [(4, .int (-9)), (0, .ref 93), (1, .int x), (2, .int y), (3, .int w)]) (st' := [.int ((zup (zup (zup M 94 n x) 95 n y) 96 n w).1 93 7), .ref 93]) (M' := zup (zup (zup M 94 n x) 95 n y) 96 n w) rfl ?_
      have e3 : (zup (zup (zup M 94 n x) 95 n y) 96 n w).1 93 7 = nI n := by rw [← hs]; unfold zup; simp
      rw [e3]
      refine yOk.adv 2 (pc' := 66) (lv' := [(4, .int (-9)), (0, .ref 93), (1, .int x), (2, .int y), (3, .int w)]) (st' := [.int ((nI n) + 1), .ref 93]) (M' := zup (zup (zup M 94 n x) 95 n y) 96 n w) rfl ?_
      rw [← nI_succ]
      refine yOk.adv 3 (pc' := 73) (lv' := [(4, .int (-9)), (0, .ref 93), (1, .int x), (2, .int y), (3, .int w)]) (st' := [.int ((zup (zup (zup (zup M 94 n x) 95 n y) 96 n w) 93 7 (nI (n + 1))).1 93 7)]) (M' := zup (zup (zup (zup M 94 n x) 95 n y) 96 n w) 93 7 (nI (n + 1))) rfl ?_
      have e4 : (zup (zup (zup (zup M 94 n x) 95 n y) 96 n w) 93 7 (nI (n + 1))).1 93 7 = nI (n + 1) := by unfold zup; simp
      rw [e4]
      refine yOk.adv 2 (pc' := 75) (lv' := [(4, .int (-9)), (0, .ref 93), (1, .int x), (2, .int y), (3, .int w)]) (st' := [.int ((nI (n + 1)) - 1)]) (M' := zup (zup (zup (zup M 94 n x) 95 n y) 96 n w) 93 7 (nI (n + 1))) rfl ?_
      rw [zI_pred]
      exact yOk.ret _ rfl rfl rfl
    · exact absurd c2 (by decide)
  | some p =>
    obtain ⟨p1, p2, p3⟩ := zfnd_some hf
    have ck : (nI p).toNatClampNeg = p := nI_clamp (by omega)
    have hin : zin (nI p) 24 = true := zin_nI (by omega) (by omega)
    show yOk 125 6 [(0, .ref 93), (1, .int x), (2, .int y), (3, .int w)] [.int (nI p)] M _ _
    refine yOk.adv 3 (pc' := 12) (lv' := [(4, .int (nI p)), (0, .ref 93), (1, .int x), (2, .int y), (3, .int w)]) (st' := [.int (-9), .int (nI p)]) (M' := M) rfl ?_
    refine yOk.if2 .eq _ _ _ _ rfl (fun c2 => ?_) (fun c2 => ?_)
    · exact absurd (zeq_t c2) (nI_nm9 p (by omega))
    · refine yOk.adv 4 (pc' := 22) (lv' := [(4, .int (nI p)), (0, .ref 93), (1, .int x), (2, .int y), (3, .int w)]) (st' := [.int (nI p), .ref 96, .int (nI p), .ref 96]) (M' := M) rfl ?_
      refine yOk.iald _ _ _ rfl rfl (hin) ?_
      rw [ck]
      refine yOk.adv 2 (pc' := 25) (lv' := [(4, .int (nI p)), (0, .ref 93), (1, .int x), (2, .int y), (3, .int w)]) (st' := [.int ((M.1 96 p) + w), .int (nI p), .ref 96]) (M' := M) rfl ?_
      refine yOk.iast _ _ _ rfl rfl (hin) ?_
      rw [ck]
      refine yOk.adv 1 (pc' := 28) (lv' := [(4, .int (nI p)), (0, .ref 93), (1, .int x), (2, .int y), (3, .int w)]) (st' := [.int (nI p)]) (M' := zup M 96 p (M.1 96 p + w)) rfl ?_
      exact yOk.ret _ rfl rfl rfl
