/-! ===== sheet of the reference, term of both ===== -/
def zfilR (M : zMm) (a o n : Nat) (x : Int32) : zMm := (fun a' i' => if a' = a ∧ o ≤ i' ∧ i' < o + n then x else M.1 a' i', M.2)
theorem zfilR_0 (M : zMm) (a o : Nat) (x : Int32) : zfilR M a o 0 x = M := by
  unfold zfilR
  have : (fun a' i' => if a' = a ∧ o ≤ i' ∧ i' < o + 0 then x else M.1 a' i') = M.1 := by
    funext a' i'
    rw [if_neg (by omega)]
  rw [this]
theorem zfilR_s (M : zMm) (a o n : Nat) (x : Int32) : zup (zfilR M a o n x) a (o + n) x = zfilR M a o (n + 1) x := by
  unfold zup zfilR
  congr 1
  funext a' i'
  dsimp only
  by_cases h1 : a' = a ∧ i' = o + n
  · rw [if_pos h1, if_pos ⟨h1.1, by omega, by omega⟩]
  · rw [if_neg h1]
    by_cases h2 : a' = a ∧ o ≤ i' ∧ i' < o + n
    · rw [if_pos h2, if_pos ⟨h2.1, by omega, by omega⟩]
    · rw [if_neg h2, if_neg (fun q => h2 ⟨q.1, by omega, Classical.byContradiction fun hh => h1 ⟨q.1, by omega⟩⟩)]
theorem r_sheet_0_loop (M : zMm) (l n : Int32) : ∀ (d i : Nat), i + d = 72 → yOk 153 67 [(0, .ref 93), (1, .int 0), (2, .int l), (3, .int n), (4, .int (nI i))] [] (zfilR M 101 0 i 0) (some (.int 1)) (zfilR M 101 0 72 0)
  | 0, i, h => by
    have : i = 72 := by omega
    subst this
    refine yOk.adv 2 (pc' := 71) (lv' := [(0, .ref 93), (1, .int 0), (2, .int l), (3, .int n), (4, .int (nI 72))]) (st' := [.int 72, .int (nI 72)]) (M' := zfilR M 101 0 72 0) rfl ?_
    refine yOk.if2 .ge _ _ _ _ rfl (fun c1 => ?_) (fun c1 => ?_)
    · refine yOk.adv 1 (pc' := 94) (lv' := [(0, .ref 93), (1, .int 0), (2, .int l), (3, .int n), (4, .int (nI 72))]) (st' := [.int 1]) (M' := zfilR M 101 0 72 0) rfl ?_
      exact yOk.ret _ rfl rfl rfl
    · exact absurd c1 (by decide)
  | d + 1, i, h => by
    have ck : (nI (0 + i)).toNatClampNeg = 0 + i := nI_clamp (by omega)
    have hin : zin (nI (0 + i)) 288 = true := zin_nI (by omega) (by omega)
    refine yOk.adv 2 (pc' := 71) (lv' := [(0, .ref 93), (1, .int 0), (2, .int l), (3, .int n), (4, .int (nI i))]) (st' := [.int 72, .int (nI i)]) (M' := zfilR M 101 0 i 0) rfl ?_
    refine yOk.if2 .ge _ _ _ _ rfl (fun c1 => ?_) (fun c1 => ?_)
    · exact absurd (nI_lt (show i < 72 by omega) (by omega)) (zge_t c1)
    · refine yOk.adv 7 (pc' := 85) (lv' := [(0, .ref 93), (1, .int 0), (2, .int l), (3, .int n), (4, .int (nI i))]) (st' := [.int ((72 * 0) + (nI i)), .ref 101]) (M' := zfilR M 101 0 i 0) rfl ?_
      rw [show (72 * 0 : Int32) + nI i = nI (0 + i) from nI_add 0 i]
      refine yOk.adv 1 (pc' := 86) (lv' := [(0, .ref 93), (1, .int 0), (2, .int l), (3, .int n), (4, .int (nI i))]) (st' := [.int 0, .int (nI (0 + i)), .ref 101]) (M' := zfilR M 101 0 i 0) rfl ?_
      refine yOk.iast _ _ _ rfl rfl (hin) ?_
      rw [ck, zfilR_s]
      refine yOk.adv 2 (pc' := 67) (lv' := [(4, .int (nI i + 1)), (0, .ref 93), (1, .int 0), (2, .int l), (3, .int n)]) (st' := []) (M' := zfilR M 101 0 (i + 1) 0) rfl ?_
      have ih := r_sheet_0_loop M l n d (i + 1) (by omega)
      rw [nI_succ] at ih
      exact ih.drop (by refine ⟨?_, ?_⟩ <;> simp [zget, zwf])
theorem r_sheet_0 (M N : zMm) (l n : Int32) (v : Int32) (hl : 0 ≤ l.toInt ∧ l.toInt ≤ 2) (hn : n.toInt ≤ 72) (hv : (n.toInt < 0 ∧ v = -10 - 4 ∧ N = zup (zup M 93 0 0) 93 0 4) ∨ (0 ≤ n.toInt ∧ v = 1 ∧ N = zfilR (zup (zup (zup M 93 0 0) 99 0 l) 100 0 n) 101 0 72 0)) : yOk 153 0 [(0, .ref 93), (1, .int 0), (2, .int l), (3, .int n)] [] M (some (.int v)) N := by
  have e72 : ((72 : Int32)).toInt = 72 := rfl
  have e0 : ((0 : Int32)).toInt = 0 := rfl
  have el : l.toInt64.toInt = l.toInt := Kit.i64_of_i32 l
  refine yOk.adv 7 (pc' := 11) (lv' := [(0, .ref 93), (1, .int 0), (2, .int l), (3, .int n)]) (st' := [.long 3, .long 0, .long 0]) (M' := zup M 93 0 0) rfl ?_
  refine yOk.call (M1 := zup M 93 0 0) _ rfl rfl rfl rfl rfl (r_withinV (zup M 93 0 0) 0 0 3 0 3 rfl rfl 1 (Or.inl ⟨by decide, rfl⟩)) ?_
  show yOk 153 14 [(0, .ref 93), (1, .int 0), (2, .int l), (3, .int n)] [.int 1] (zup M 93 0 0) _ _
  refine yOk.if1 .ne _ _ _ _ rfl (fun c1 => ?_) (fun c1 => ?_)
  · refine yOk.adv 4 (pc' := 25) (lv' := [(0, .ref 93), (1, .int 0), (2, .int l), (3, .int n)]) (st' := [.long 2, .long 0, .long l.toInt64]) (M' := zup M 93 0 0) rfl ?_
    refine yOk.call (M1 := zup M 93 0 0) _ rfl rfl rfl rfl rfl (r_withinV (zup M 93 0 0) l.toInt64 0 2 0 2 rfl rfl 1 (Or.inl ⟨by rw [el]; exact hl, rfl⟩)) ?_
    show yOk 153 28 [(0, .ref 93), (1, .int 0), (2, .int l), (3, .int n)] [.int 1] (zup M 93 0 0) _ _
    refine yOk.if1 .eq _ _ _ _ rfl (fun c2 => ?_) (fun c2 => ?_)
    · exact absurd c2 (by decide)
    · refine yOk.adv 2 (pc' := 34) (lv' := [(0, .ref 93), (1, .int 0), (2, .int l), (3, .int n)]) (st' := [.int 72, .int n]) (M' := zup M 93 0 0) rfl ?_
      refine yOk.if2 .le _ _ _ _ rfl (fun c3 => ?_) (fun c3 => ?_)
      · refine yOk.adv 1 (pc' := 41) (lv' := [(0, .ref 93), (1, .int 0), (2, .int l), (3, .int n)]) (st' := [.int n]) (M' := zup M 93 0 0) rfl ?_
        refine yOk.if1 .ge _ _ _ _ rfl (fun c4 => ?_) (fun c4 => ?_)
        · have h0 : 0 ≤ n.toInt := Classical.byContradiction fun hh => zge_t c4 (i32_lt.mpr (by omega))
          obtain ⟨rfl, rfl⟩ : v = 1 ∧ N = zfilR (zup (zup (zup M 93 0 0) 99 0 l) 100 0 n) 101 0 72 0 := hv.elim (fun z => absurd z.1 (by omega)) (fun z => z.2)
          refine yOk.adv 12 (pc' := 67) (lv' := [(4, .int 0), (0, .ref 93), (1, .int 0), (2, .int l), (3, .int n)]) (st' := []) (M' := zup (zup (zup M 93 0 0) 99 0 l) 100 0 n) rfl ?_
          have h := r_sheet_0_loop (zup (zup (zup M 93 0 0) 99 0 l) 100 0 n) l n 72 0 rfl
          rw [zfilR_0] at h
          exact h.drop (by refine ⟨?_, ?_⟩ <;> simp [zget, zwf, nI])
        · have h0 := i32_lt.mp (zge_f c4)
          obtain ⟨rfl, rfl⟩ : v = -10 - 4 ∧ N = zup (zup M 93 0 0) 93 0 4 := hv.elim (fun z => z.2) (fun z => absurd z.1 (by omega))
          refine yOk.adv 2 (pc' := 46) (lv' := [(0, .ref 93), (1, .int 0), (2, .int l), (3, .int n)]) (st' := [.int 4, .ref 93]) (M' := zup M 93 0 0) rfl ?_
          refine yOk.call (M1 := zup (zup M 93 0 0) 93 0 4) _ rfl rfl rfl rfl rfl (r_fails (zup M 93 0 0) 4) ?_
          show yOk 153 49 [(0, .ref 93), (1, .int 0), (2, .int l), (3, .int n)] [.int (-10 - 4)] (zup (zup M 93 0 0) 93 0 4) _ _
          exact yOk.ret _ rfl rfl rfl
      · have := i32_lt.mp (zle_f c3)
        omega
  · exact absurd c1 (by decide)
theorem r_sheet_1_loop (M : zMm) (l n : Int32) : ∀ (d i : Nat), i + d = 72 → yOk 153 67 [(0, .ref 93), (1, .int 1), (2, .int l), (3, .int n), (4, .int (nI i))] [] (zfilR M 101 72 i 0) (some (.int 1)) (zfilR M 101 72 72 0)
  | 0, i, h => by
    have : i = 72 := by omega
    subst this
    refine yOk.adv 2 (pc' := 71) (lv' := [(0, .ref 93), (1, .int 1), (2, .int l), (3, .int n), (4, .int (nI 72))]) (st' := [.int 72, .int (nI 72)]) (M' := zfilR M 101 72 72 0) rfl ?_
    refine yOk.if2 .ge _ _ _ _ rfl (fun c1 => ?_) (fun c1 => ?_)
    · refine yOk.adv 1 (pc' := 94) (lv' := [(0, .ref 93), (1, .int 1), (2, .int l), (3, .int n), (4, .int (nI 72))]) (st' := [.int 1]) (M' := zfilR M 101 72 72 0) rfl ?_
      exact yOk.ret _ rfl rfl rfl
    · exact absurd c1 (by decide)
  | d + 1, i, h => by
    have ck : (nI (72 + i)).toNatClampNeg = 72 + i := nI_clamp (by omega)
    have hin : zin (nI (72 + i)) 288 = true := zin_nI (by omega) (by omega)
    refine yOk.adv 2 (pc' := 71) (lv' := [(0, .ref 93), (1, .int 1), (2, .int l), (3, .int n), (4, .int (nI i))]) (st' := [.int 72, .int (nI i)]) (M' := zfilR M 101 72 i 0) rfl ?_
    refine yOk.if2 .ge _ _ _ _ rfl (fun c1 => ?_) (fun c1 => ?_)
    · exact absurd (nI_lt (show i < 72 by omega) (by omega)) (zge_t c1)
    · refine yOk.adv 7 (pc' := 85) (lv' := [(0, .ref 93), (1, .int 1), (2, .int l), (3, .int n), (4, .int (nI i))]) (st' := [.int ((72 * 1) + (nI i)), .ref 101]) (M' := zfilR M 101 72 i 0) rfl ?_
      rw [show (72 * 1 : Int32) + nI i = nI (72 + i) from nI_add 72 i]
      refine yOk.adv 1 (pc' := 86) (lv' := [(0, .ref 93), (1, .int 1), (2, .int l), (3, .int n), (4, .int (nI i))]) (st' := [.int 0, .int (nI (72 + i)), .ref 101]) (M' := zfilR M 101 72 i 0) rfl ?_
      refine yOk.iast _ _ _ rfl rfl (hin) ?_
      rw [ck, zfilR_s]
      refine yOk.adv 2 (pc' := 67) (lv' := [(4, .int (nI i + 1)), (0, .ref 93), (1, .int 1), (2, .int l), (3, .int n)]) (st' := []) (M' := zfilR M 101 72 (i + 1) 0) rfl ?_
      have ih := r_sheet_1_loop M l n d (i + 1) (by omega)
      rw [nI_succ] at ih
      exact ih.drop (by refine ⟨?_, ?_⟩ <;> simp [zget, zwf])
theorem r_sheet_1 (M N : zMm) (l n : Int32) (v : Int32) (hl : 0 ≤ l.toInt ∧ l.toInt ≤ 2) (hn : n.toInt ≤ 72) (hv : (n.toInt < 0 ∧ v = -10 - 4 ∧ N = zup (zup M 93 0 0) 93 0 4) ∨ (0 ≤ n.toInt ∧ v = 1 ∧ N = zfilR (zup (zup (zup M 93 0 0) 99 1 l) 100 1 n) 101 72 72 0)) : yOk 153 0 [(0, .ref 93), (1, .int 1), (2, .int l), (3, .int n)] [] M (some (.int v)) N := by
  have e72 : ((72 : Int32)).toInt = 72 := rfl
  have e0 : ((0 : Int32)).toInt = 0 := rfl
  have el : l.toInt64.toInt = l.toInt := Kit.i64_of_i32 l
  refine yOk.adv 7 (pc' := 11) (lv' := [(0, .ref 93), (1, .int 1), (2, .int l), (3, .int n)]) (st' := [.long 3, .long 0, .long 1]) (M' := zup M 93 0 0) rfl ?_
  refine yOk.call (M1 := zup M 93 0 0) _ rfl rfl rfl rfl rfl (r_withinV (zup M 93 0 0) 1 0 3 0 3 rfl rfl 1 (Or.inl ⟨by decide, rfl⟩)) ?_
  show yOk 153 14 [(0, .ref 93), (1, .int 1), (2, .int l), (3, .int n)] [.int 1] (zup M 93 0 0) _ _
  refine yOk.if1 .ne _ _ _ _ rfl (fun c1 => ?_) (fun c1 => ?_)
  · refine yOk.adv 4 (pc' := 25) (lv' := [(0, .ref 93), (1, .int 1), (2, .int l), (3, .int n)]) (st' := [.long 2, .long 0, .long l.toInt64]) (M' := zup M 93 0 0) rfl ?_
    refine yOk.call (M1 := zup M 93 0 0) _ rfl rfl rfl rfl rfl (r_withinV (zup M 93 0 0) l.toInt64 0 2 0 2 rfl rfl 1 (Or.inl ⟨by rw [el]; exact hl, rfl⟩)) ?_
    show yOk 153 28 [(0, .ref 93), (1, .int 1), (2, .int l), (3, .int n)] [.int 1] (zup M 93 0 0) _ _
    refine yOk.if1 .eq _ _ _ _ rfl (fun c2 => ?_) (fun c2 => ?_)
    · exact absurd c2 (by decide)
    · refine yOk.adv 2 (pc' := 34) (lv' := [(0, .ref 93), (1, .int 1), (2, .int l), (3, .int n)]) (st' := [.int 72, .int n]) (M' := zup M 93 0 0) rfl ?_
      refine yOk.if2 .le _ _ _ _ rfl (fun c3 => ?_) (fun c3 => ?_)
      · refine yOk.adv 1 (pc' := 41) (lv' := [(0, .ref 93), (1, .int 1), (2, .int l), (3, .int n)]) (st' := [.int n]) (M' := zup M 93 0 0) rfl ?_
        refine yOk.if1 .ge _ _ _ _ rfl (fun c4 => ?_) (fun c4 => ?_)
        · have h0 : 0 ≤ n.toInt := Classical.byContradiction fun hh => zge_t c4 (i32_lt.mpr (by omega))
          obtain ⟨rfl, rfl⟩ : v = 1 ∧ N = zfilR (zup (zup (zup M 93 0 0) 99 1 l) 100 1 n) 101 72 72 0 := hv.elim (fun z => absurd z.1 (by omega)) (fun z => z.2)
          refine yOk.adv 12 (pc' := 67) (lv' := [(4, .int 0), (0, .ref 93), (1, .int 1), (2, .int l), (3, .int n)]) (st' := []) (M' := zup (zup (zup M 93 0 0) 99 1 l) 100 1 n) rfl ?_
          have h := r_sheet_1_loop (zup (zup (zup M 93 0 0) 99 1 l) 100 1 n) l n 72 0 rfl
          rw [zfilR_0] at h
          exact h.drop (by refine ⟨?_, ?_⟩ <;> simp [zget, zwf, nI])
        · have h0 := i32_lt.mp (zge_f c4)
          obtain ⟨rfl, rfl⟩ : v = -10 - 4 ∧ N = zup (zup M 93 0 0) 93 0 4 := hv.elim (fun z => z.2) (fun z => absurd z.1 (by omega))
          refine yOk.adv 2 (pc' := 46) (lv' := [(0, .ref 93), (1, .int 1), (2, .int l), (3, .int n)]) (st' := [.int 4, .ref 93]) (M' := zup M 93 0 0) rfl ?_
          refine yOk.call (M1 := zup (zup M 93 0 0) 93 0 4) _ rfl rfl rfl rfl rfl (r_fails (zup M 93 0 0) 4) ?_
          show yOk 153 49 [(0, .ref 93), (1, .int 1), (2, .int l), (3, .int n)] [.int (-10 - 4)] (zup (zup M 93 0 0) 93 0 4) _ _
          exact yOk.ret _ rfl rfl rfl
      · have := i32_lt.mp (zle_f c3)
        omega
  · exact absurd c1 (by decide)
theorem r_sheet_2_loop (M : zMm) (l n : Int32) : ∀ (d i : Nat), i + d = 72 → yOk 153 67 [(0, .ref 93), (1, .int 2), (2, .int l), (3, .int n), (4, .int (nI i))] [] (zfilR M 101 144 i 0) (some (.int 1)) (zfilR M 101 144 72 0)
  | 0, i, h => by
    have : i = 72 := by omega
    subst this
    refine yOk.adv 2 (pc' := 71) (lv' := [(0, .ref 93), (1, .int 2), (2, .int l), (3, .int n), (4, .int (nI 72))]) (st' := [.int 72, .int (nI 72)]) (M' := zfilR M 101 144 72 0) rfl ?_
    refine yOk.if2 .ge _ _ _ _ rfl (fun c1 => ?_) (fun c1 => ?_)
    · refine yOk.adv 1 (pc' := 94) (lv' := [(0, .ref 93), (1, .int 2), (2, .int l), (3, .int n), (4, .int (nI 72))]) (st' := [.int 1]) (M' := zfilR M 101 144 72 0) rfl ?_
      exact yOk.ret _ rfl rfl rfl
    · exact absurd c1 (by decide)
  | d + 1, i, h => by
    have ck : (nI (144 + i)).toNatClampNeg = 144 + i := nI_clamp (by omega)
    have hin : zin (nI (144 + i)) 288 = true := zin_nI (by omega) (by omega)
    refine yOk.adv 2 (pc' := 71) (lv' := [(0, .ref 93), (1, .int 2), (2, .int l), (3, .int n), (4, .int (nI i))]) (st' := [.int 72, .int (nI i)]) (M' := zfilR M 101 144 i 0) rfl ?_
    refine yOk.if2 .ge _ _ _ _ rfl (fun c1 => ?_) (fun c1 => ?_)
    · exact absurd (nI_lt (show i < 72 by omega) (by omega)) (zge_t c1)
    · refine yOk.adv 7 (pc' := 85) (lv' := [(0, .ref 93), (1, .int 2), (2, .int l), (3, .int n), (4, .int (nI i))]) (st' := [.int ((72 * 2) + (nI i)), .ref 101]) (M' := zfilR M 101 144 i 0) rfl ?_
      rw [show (72 * 2 : Int32) + nI i = nI (144 + i) from nI_add 144 i]
      refine yOk.adv 1 (pc' := 86) (lv' := [(0, .ref 93), (1, .int 2), (2, .int l), (3, .int n), (4, .int (nI i))]) (st' := [.int 0, .int (nI (144 + i)), .ref 101]) (M' := zfilR M 101 144 i 0) rfl ?_
      refine yOk.iast _ _ _ rfl rfl (hin) ?_
      rw [ck, zfilR_s]
      refine yOk.adv 2 (pc' := 67) (lv' := [(4, .int (nI i + 1)), (0, .ref 93), (1, .int 2), (2, .int l), (3, .int n)]) (st' := []) (M' := zfilR M 101 144 (i + 1) 0) rfl ?_
      have ih := r_sheet_2_loop M l n d (i + 1) (by omega)
      rw [nI_succ] at ih
      exact ih.drop (by refine ⟨?_, ?_⟩ <;> simp [zget, zwf])
theorem r_sheet_2 (M N : zMm) (l n : Int32) (v : Int32) (hl : 0 ≤ l.toInt ∧ l.toInt ≤ 2) (hn : n.toInt ≤ 72) (hv : (n.toInt < 0 ∧ v = -10 - 4 ∧ N = zup (zup M 93 0 0) 93 0 4) ∨ (0 ≤ n.toInt ∧ v = 1 ∧ N = zfilR (zup (zup (zup M 93 0 0) 99 2 l) 100 2 n) 101 144 72 0)) : yOk 153 0 [(0, .ref 93), (1, .int 2), (2, .int l), (3, .int n)] [] M (some (.int v)) N := by
  have e72 : ((72 : Int32)).toInt = 72 := rfl
  have e0 : ((0 : Int32)).toInt = 0 := rfl
  have el : l.toInt64.toInt = l.toInt := Kit.i64_of_i32 l
  refine yOk.adv 7 (pc' := 11) (lv' := [(0, .ref 93), (1, .int 2), (2, .int l), (3, .int n)]) (st' := [.long 3, .long 0, .long 2]) (M' := zup M 93 0 0) rfl ?_
  refine yOk.call (M1 := zup M 93 0 0) _ rfl rfl rfl rfl rfl (r_withinV (zup M 93 0 0) 2 0 3 0 3 rfl rfl 1 (Or.inl ⟨by decide, rfl⟩)) ?_
  show yOk 153 14 [(0, .ref 93), (1, .int 2), (2, .int l), (3, .int n)] [.int 1] (zup M 93 0 0) _ _
  refine yOk.if1 .ne _ _ _ _ rfl (fun c1 => ?_) (fun c1 => ?_)
  · refine yOk.adv 4 (pc' := 25) (lv' := [(0, .ref 93), (1, .int 2), (2, .int l), (3, .int n)]) (st' := [.long 2, .long 0, .long l.toInt64]) (M' := zup M 93 0 0) rfl ?_
    refine yOk.call (M1 := zup M 93 0 0) _ rfl rfl rfl rfl rfl (r_withinV (zup M 93 0 0) l.toInt64 0 2 0 2 rfl rfl 1 (Or.inl ⟨by rw [el]; exact hl, rfl⟩)) ?_
    show yOk 153 28 [(0, .ref 93), (1, .int 2), (2, .int l), (3, .int n)] [.int 1] (zup M 93 0 0) _ _
    refine yOk.if1 .eq _ _ _ _ rfl (fun c2 => ?_) (fun c2 => ?_)
    · exact absurd c2 (by decide)
    · refine yOk.adv 2 (pc' := 34) (lv' := [(0, .ref 93), (1, .int 2), (2, .int l), (3, .int n)]) (st' := [.int 72, .int n]) (M' := zup M 93 0 0) rfl ?_
      refine yOk.if2 .le _ _ _ _ rfl (fun c3 => ?_) (fun c3 => ?_)
      · refine yOk.adv 1 (pc' := 41) (lv' := [(0, .ref 93), (1, .int 2), (2, .int l), (3, .int n)]) (st' := [.int n]) (M' := zup M 93 0 0) rfl ?_
        refine yOk.if1 .ge _ _ _ _ rfl (fun c4 => ?_) (fun c4 => ?_)
        · have h0 : 0 ≤ n.toInt := Classical.byContradiction fun hh => zge_t c4 (i32_lt.mpr (by omega))
          obtain ⟨rfl, rfl⟩ : v = 1 ∧ N = zfilR (zup (zup (zup M 93 0 0) 99 2 l) 100 2 n) 101 144 72 0 := hv.elim (fun z => absurd z.1 (by omega)) (fun z => z.2)
          refine yOk.adv 12 (pc' := 67) (lv' := [(4, .int 0), (0, .ref 93), (1, .int 2), (2, .int l), (3, .int n)]) (st' := []) (M' := zup (zup (zup M 93 0 0) 99 2 l) 100 2 n) rfl ?_
          have h := r_sheet_2_loop (zup (zup (zup M 93 0 0) 99 2 l) 100 2 n) l n 72 0 rfl
          rw [zfilR_0] at h
          exact h.drop (by refine ⟨?_, ?_⟩ <;> simp [zget, zwf, nI])
        · have h0 := i32_lt.mp (zge_f c4)
          obtain ⟨rfl, rfl⟩ : v = -10 - 4 ∧ N = zup (zup M 93 0 0) 93 0 4 := hv.elim (fun z => z.2) (fun z => absurd z.1 (by omega))
          refine yOk.adv 2 (pc' := 46) (lv' := [(0, .ref 93), (1, .int 2), (2, .int l), (3, .int n)]) (st' := [.int 4, .ref 93]) (M' := zup M 93 0 0) rfl ?_
          refine yOk.call (M1 := zup (zup M 93 0 0) 93 0 4) _ rfl rfl rfl rfl rfl (r_fails (zup M 93 0 0) 4) ?_
          show yOk 153 49 [(0, .ref 93), (1, .int 2), (2, .int l), (3, .int n)] [.int (-10 - 4)] (zup (zup M 93 0 0) 93 0 4) _ _
          exact yOk.ret _ rfl rfl rfl
      · have := i32_lt.mp (zle_f c3)
        omega
  · exact absurd c1 (by decide)
theorem r_sheet_3_loop (M : zMm) (l n : Int32) : ∀ (d i : Nat), i + d = 72 → yOk 153 67 [(0, .ref 93), (1, .int 3), (2, .int l), (3, .int n), (4, .int (nI i))] [] (zfilR M 101 216 i 0) (some (.int 1)) (zfilR M 101 216 72 0)
  | 0, i, h => by
    have : i = 72 := by omega
    subst this
    refine yOk.adv 2 (pc' := 71) (lv' := [(0, .ref 93), (1, .int 3), (2, .int l), (3, .int n), (4, .int (nI 72))]) (st' := [.int 72, .int (nI 72)]) (M' := zfilR M 101 216 72 0) rfl ?_
    refine yOk.if2 .ge _ _ _ _ rfl (fun c1 => ?_) (fun c1 => ?_)
    · refine yOk.adv 1 (pc' := 94) (lv' := [(0, .ref 93), (1, .int 3), (2, .int l), (3, .int n), (4, .int (nI 72))]) (st' := [.int 1]) (M' := zfilR M 101 216 72 0) rfl ?_
      exact yOk.ret _ rfl rfl rfl
    · exact absurd c1 (by decide)
  | d + 1, i, h => by
    have ck : (nI (216 + i)).toNatClampNeg = 216 + i := nI_clamp (by omega)
    have hin : zin (nI (216 + i)) 288 = true := zin_nI (by omega) (by omega)
    refine yOk.adv 2 (pc' := 71) (lv' := [(0, .ref 93), (1, .int 3), (2, .int l), (3, .int n), (4, .int (nI i))]) (st' := [.int 72, .int (nI i)]) (M' := zfilR M 101 216 i 0) rfl ?_
    refine yOk.if2 .ge _ _ _ _ rfl (fun c1 => ?_) (fun c1 => ?_)
    · exact absurd (nI_lt (show i < 72 by omega) (by omega)) (zge_t c1)
    · refine yOk.adv 7 (pc' := 85) (lv' := [(0, .ref 93), (1, .int 3), (2, .int l), (3, .int n), (4, .int (nI i))]) (st' := [.int ((72 * 3) + (nI i)), .ref 101]) (M' := zfilR M 101 216 i 0) rfl ?_
      rw [show (72 * 3 : Int32) + nI i = nI (216 + i) from nI_add 216 i]
      refine yOk.adv 1 (pc' := 86) (lv' := [(0, .ref 93), (1, .int 3), (2, .int l), (3, .int n), (4, .int (nI i))]) (st' := [.int 0, .int (nI (216 + i)), .ref 101]) (M' := zfilR M 101 216 i 0) rfl ?_
      refine yOk.iast _ _ _ rfl rfl (hin) ?_
      rw [ck, zfilR_s]
      refine yOk.adv 2 (pc' := 67) (lv' := [(4, .int (nI i + 1)), (0, .ref 93), (1, .int 3), (2, .int l), (3, .int n)]) (st' := []) (M' := zfilR M 101 216 (i + 1) 0) rfl ?_
      have ih := r_sheet_3_loop M l n d (i + 1) (by omega)
      rw [nI_succ] at ih
      exact ih.drop (by refine ⟨?_, ?_⟩ <;> simp [zget, zwf])
theorem r_sheet_3 (M N : zMm) (l n : Int32) (v : Int32) (hl : 0 ≤ l.toInt ∧ l.toInt ≤ 2) (hn : n.toInt ≤ 72) (hv : (n.toInt < 0 ∧ v = -10 - 4 ∧ N = zup (zup M 93 0 0) 93 0 4) ∨ (0 ≤ n.toInt ∧ v = 1 ∧ N = zfilR (zup (zup (zup M 93 0 0) 99 3 l) 100 3 n) 101 216 72 0)) : yOk 153 0 [(0, .ref 93), (1, .int 3), (2, .int l), (3, .int n)] [] M (some (.int v)) N := by
  have e72 : ((72 : Int32)).toInt = 72 := rfl
  have e0 : ((0 : Int32)).toInt = 0 := rfl
  have el : l.toInt64.toInt = l.toInt := Kit.i64_of_i32 l
  refine yOk.adv 7 (pc' := 11) (lv' := [(0, .ref 93), (1, .int 3), (2, .int l), (3, .int n)]) (st' := [.long 3, .long 0, .long 3]) (M' := zup M 93 0 0) rfl ?_
  refine yOk.call (M1 := zup M 93 0 0) _ rfl rfl rfl rfl rfl (r_withinV (zup M 93 0 0) 3 0 3 0 3 rfl rfl 1 (Or.inl ⟨by decide, rfl⟩)) ?_
  show yOk 153 14 [(0, .ref 93), (1, .int 3), (2, .int l), (3, .int n)] [.int 1] (zup M 93 0 0) _ _
  refine yOk.if1 .ne _ _ _ _ rfl (fun c1 => ?_) (fun c1 => ?_)
  · refine yOk.adv 4 (pc' := 25) (lv' := [(0, .ref 93), (1, .int 3), (2, .int l), (3, .int n)]) (st' := [.long 2, .long 0, .long l.toInt64]) (M' := zup M 93 0 0) rfl ?_
    refine yOk.call (M1 := zup M 93 0 0) _ rfl rfl rfl rfl rfl (r_withinV (zup M 93 0 0) l.toInt64 0 2 0 2 rfl rfl 1 (Or.inl ⟨by rw [el]; exact hl, rfl⟩)) ?_
    show yOk 153 28 [(0, .ref 93), (1, .int 3), (2, .int l), (3, .int n)] [.int 1] (zup M 93 0 0) _ _
    refine yOk.if1 .eq _ _ _ _ rfl (fun c2 => ?_) (fun c2 => ?_)
    · exact absurd c2 (by decide)
    · refine yOk.adv 2 (pc' := 34) (lv' := [(0, .ref 93), (1, .int 3), (2, .int l), (3, .int n)]) (st' := [.int 72, .int n]) (M' := zup M 93 0 0) rfl ?_
      refine yOk.if2 .le _ _ _ _ rfl (fun c3 => ?_) (fun c3 => ?_)
      · refine yOk.adv 1 (pc' := 41) (lv' := [(0, .ref 93), (1, .int 3), (2, .int l), (3, .int n)]) (st' := [.int n]) (M' := zup M 93 0 0) rfl ?_
        refine yOk.if1 .ge _ _ _ _ rfl (fun c4 => ?_) (fun c4 => ?_)
        · have h0 : 0 ≤ n.toInt := Classical.byContradiction fun hh => zge_t c4 (i32_lt.mpr (by omega))
          obtain ⟨rfl, rfl⟩ : v = 1 ∧ N = zfilR (zup (zup (zup M 93 0 0) 99 3 l) 100 3 n) 101 216 72 0 := hv.elim (fun z => absurd z.1 (by omega)) (fun z => z.2)
          refine yOk.adv 12 (pc' := 67) (lv' := [(4, .int 0), (0, .ref 93), (1, .int 3), (2, .int l), (3, .int n)]) (st' := []) (M' := zup (zup (zup M 93 0 0) 99 3 l) 100 3 n) rfl ?_
          have h := r_sheet_3_loop (zup (zup (zup M 93 0 0) 99 3 l) 100 3 n) l n 72 0 rfl
          rw [zfilR_0] at h
          exact h.drop (by refine ⟨?_, ?_⟩ <;> simp [zget, zwf, nI])
        · have h0 := i32_lt.mp (zge_f c4)
          obtain ⟨rfl, rfl⟩ : v = -10 - 4 ∧ N = zup (zup M 93 0 0) 93 0 4 := hv.elim (fun z => z.2) (fun z => absurd z.1 (by omega))
          refine yOk.adv 2 (pc' := 46) (lv' := [(0, .ref 93), (1, .int 3), (2, .int l), (3, .int n)]) (st' := [.int 4, .ref 93]) (M' := zup M 93 0 0) rfl ?_
          refine yOk.call (M1 := zup (zup M 93 0 0) 93 0 4) _ rfl rfl rfl rfl rfl (r_fails (zup M 93 0 0) 4) ?_
          show yOk 153 49 [(0, .ref 93), (1, .int 3), (2, .int l), (3, .int n)] [.int (-10 - 4)] (zup (zup M 93 0 0) 93 0 4) _ _
          exact yOk.ret _ rfl rfl rfl
      · have := i32_lt.mp (zle_f c3)
        omega
  · exact absurd c1 (by decide)
def zterm (t c : Int32) : Prop := (0 ≤ t.toInt ∧ t.toInt ≤ 14) ∧ (-1000 ≤ c.toInt ∧ c.toInt ≤ 1000)
theorem m_term_no (M : zMm) (t c : Int32) (h : ¬ zterm t c) : yOk 54 0 [(0, .ref 0), (1, .int t), (2, .int c)] [] M (some (.long zlost)) M := by
  obtain ⟨r1, g1⟩ := zem (0 ≤ t.toInt ∧ t.toInt ≤ 14)
  obtain ⟨r2, g2⟩ := zem (-1000 ≤ c.toInt ∧ c.toInt ≤ 1000)
  have out : yOk 54 23 [(0, .ref 0), (1, .int t), (2, .int c)] [] M (some (.long zlost)) M := by
    refine yOk.adv 1 (pc' := 26) (lv' := [(0, .ref 0), (1, .int t), (2, .int c)]) (st' := [.long (-9223372036854775808)]) (M' := M) rfl ?_
    exact yOk.ret _ rfl rfl rfl
  refine yOk.adv 3 (pc' := 4) (lv' := [(0, .ref 0), (1, .int t), (2, .int c)]) (st' := [.int 14, .int 0, .int t]) (M' := M) rfl ?_
  refine yOk.call (M1 := M) _ rfl rfl rfl rfl rfl (m_fromV M t 0 14 0 14 rfl rfl r1 g1) ?_
  show yOk 54 7 [(0, .ref 0), (1, .int t), (2, .int c)] [.int r1] M _ _
  refine yOk.if1 .eq _ _ _ _ rfl (fun c1 => ?_) (fun c1 => ?_)
  · exact out
  · refine yOk.adv 3 (pc' := 17) (lv' := [(0, .ref 0), (1, .int t), (2, .int c)]) (st' := [.int 1000, .int (-1000), .int c]) (M' := M) rfl ?_
    refine yOk.call (M1 := M) _ rfl rfl rfl rfl rfl (m_fromV M c (-1000) 1000 (-1000) 1000 rfl rfl r2 g2) ?_
    show yOk 54 20 [(0, .ref 0), (1, .int t), (2, .int c)] [.int r2] M _ _
    refine yOk.if1 .ne _ _ _ _ rfl (fun c2 => ?_) (fun c2 => ?_)
    · exact absurd ⟨zeq1 g1 c1, zne0 g2 c2⟩ h
    · exact out
theorem r_term_no (M : zMm) (t c : Int32) (h : ¬ zterm t c) : yOk 148 0 [(0, .ref 93), (1, .int t), (2, .int c)] [] M (some (.long zlost)) M := by
  have et : t.toInt64.toInt = t.toInt := Kit.i64_of_i32 t
  have ec : c.toInt64.toInt = c.toInt := Kit.i64_of_i32 c
  obtain ⟨r1, g1⟩ := zem (0 ≤ t.toInt64.toInt ∧ t.toInt64.toInt ≤ 14)
  obtain ⟨r2, g2⟩ := zem (-1000 ≤ c.toInt64.toInt ∧ c.toInt64.toInt ≤ 1000)
  have out : yOk 148 26 [(0, .ref 93), (1, .int t), (2, .int c)] [] M (some (.long zlost)) M := by
    refine yOk.adv 1 (pc' := 29) (lv' := [(0, .ref 93), (1, .int t), (2, .int c)]) (st' := [.long (-9223372036854775808)]) (M' := M) rfl ?_
    exact yOk.ret _ rfl rfl rfl
  refine yOk.adv 4 (pc' := 6) (lv' := [(0, .ref 93), (1, .int t), (2, .int c)]) (st' := [.long 14, .long 0, .long t.toInt64]) (M' := M) rfl ?_
  refine yOk.call (M1 := M) _ rfl rfl rfl rfl rfl (r_withinV M t.toInt64 0 14 0 14 rfl rfl r1 g1) ?_
  show yOk 148 9 [(0, .ref 93), (1, .int t), (2, .int c)] [.int r1] M _ _
  refine yOk.if1 .eq _ _ _ _ rfl (fun c1 => ?_) (fun c1 => ?_)
  · exact out
  · refine yOk.adv 4 (pc' := 20) (lv' := [(0, .ref 93), (1, .int t), (2, .int c)]) (st' := [.long 1000, .long (-1000), .long c.toInt64]) (M' := M) rfl ?_
    refine yOk.call (M1 := M) _ rfl rfl rfl rfl rfl (r_withinV M c.toInt64 (-1000) 1000 (-1000) 1000 rfl rfl r2 g2) ?_
    show yOk 148 23 [(0, .ref 93), (1, .int t), (2, .int c)] [.int r2] M _ _
    refine yOk.if1 .ne _ _ _ _ rfl (fun c2 => ?_) (fun c2 => ?_)
    · have h1 := zeq1 g1 c1
      have h2 := zne0 g2 c2
      rw [et] at h1
      rw [ec] at h2
      exact absurd ⟨h1, h2⟩ h
    · exact out
theorem m_term (M : zMm) (t : Nat) (ht : t < 15) (c : Int32) (hc : -1000 ≤ c.toInt ∧ c.toInt ≤ 1000) : yOk 54 0 [(0, .ref 0), (1, .int (nI t)), (2, .int c)] [] M (some (.long (M.1 56 t).toInt64)) (zup M 56 t c) := by
  have ck : (nI t).toNatClampNeg = t := nI_clamp (by omega)
  have hin : zin (nI t) 15 = true := zin_nI (by omega) (by omega)
  refine yOk.adv 3 (pc' := 4) (lv' := [(0, .ref 0), (1, .int (nI t)), (2, .int c)]) (st' := [.int 14, .int 0, .int (nI t)]) (M' := M) rfl ?_
  refine yOk.call (M1 := M) _ rfl rfl rfl rfl rfl (m_fromV M (nI t) 0 14 0 14 rfl rfl 1 (Or.inl ⟨by rw [nI_toInt (by omega)]; omega, rfl⟩)) ?_
  show yOk 54 7 [(0, .ref 0), (1, .int (nI t)), (2, .int c)] [.int 1] M _ _
  refine yOk.if1 .eq _ _ _ _ rfl (fun c1 => ?_) (fun c1 => ?_)
  · exact absurd c1 (by decide)
  · refine yOk.adv 3 (pc' := 17) (lv' := [(0, .ref 0), (1, .int (nI t)), (2, .int c)]) (st' := [.int 1000, .int (-1000), .int c]) (M' := M) rfl ?_
    refine yOk.call (M1 := M) _ rfl rfl rfl rfl rfl (m_fromV M c (-1000) 1000 (-1000) 1000 rfl rfl 1 (Or.inl ⟨hc, rfl⟩)) ?_
    show yOk 54 20 [(0, .ref 0), (1, .int (nI t)), (2, .int c)] [.int 1] M _ _
    refine yOk.if1 .ne _ _ _ _ rfl (fun c2 => ?_) (fun c2 => ?_)
    · refine yOk.adv 3 (pc' := 32) (lv' := [(0, .ref 0), (1, .int (nI t)), (2, .int c)]) (st' := [.int (nI t), .ref 56]) (M' := M) rfl ?_
      refine yOk.iald _ _ _ rfl rfl (hin) ?_
      rw [ck]
      refine yOk.adv 5 (pc' := 40) (lv' := [(3, .int (M.1 56 t)), (0, .ref 0), (1, .int (nI t)), (2, .int c)]) (st' := [.int c, .int (nI t), .ref 56]) (M' := M) rfl ?_
      refine yOk.iast _ _ _ rfl rfl (hin) ?_
      rw [ck]
      refine yOk.adv 2 (pc' := 43) (lv' := [(3, .int (M.1 56 t)), (0, .ref 0), (1, .int (nI t)), (2, .int c)]) (st' := [.long ((M.1 56 t).toInt64)]) (M' := zup M 56 t c) rfl ?_
      exact yOk.ret _ rfl rfl rfl
    · exact absurd c2 (by decide)
theorem r_term (M : zMm) (t : Nat) (ht : t < 15) (c : Int32) (hc : -1000 ≤ c.toInt ∧ c.toInt ≤ 1000) : yOk 148 0 [(0, .ref 93), (1, .int (nI t)), (2, .int c)] [] M (some (.long (M.1 117 t).toInt64)) (zup M 117 t c) := by
  have ck : (nI t).toNatClampNeg = t := nI_clamp (by omega)
  have hin : zin (nI t) 15 = true := zin_nI (by omega) (by omega)
  refine yOk.adv 4 (pc' := 6) (lv' := [(0, .ref 93), (1, .int (nI t)), (2, .int c)]) (st' := [.long 14, .long 0, .long ((nI t).toInt64)]) (M' := M) rfl ?_
  refine yOk.call (M1 := M) _ rfl rfl rfl rfl rfl (r_withinV M (nI t).toInt64 0 14 0 14 rfl rfl 1 (Or.inl ⟨by rw [Kit.i64_of_i32, nI_toInt (by omega)]; omega, rfl⟩)) ?_
  show yOk 148 9 [(0, .ref 93), (1, .int (nI t)), (2, .int c)] [.int 1] M _ _
  refine yOk.if1 .eq _ _ _ _ rfl (fun c1 => ?_) (fun c1 => ?_)
  · exact absurd c1 (by decide)
  · refine yOk.adv 4 (pc' := 20) (lv' := [(0, .ref 93), (1, .int (nI t)), (2, .int c)]) (st' := [.long 1000, .long (-1000), .long c.toInt64]) (M' := M) rfl ?_
    refine yOk.call (M1 := M) _ rfl rfl rfl rfl rfl (r_withinV M c.toInt64 (-1000) 1000 (-1000) 1000 rfl rfl 1 (Or.inl ⟨by rw [Kit.i64_of_i32]; exact hc, rfl⟩)) ?_
    show yOk 148 23 [(0, .ref 93), (1, .int (nI t)), (2, .int c)] [.int 1] M _ _
    refine yOk.if1 .ne _ _ _ _ rfl (fun c2 => ?_) (fun c2 => ?_)
    · refine yOk.adv 3 (pc' := 35) (lv' := [(0, .ref 93), (1, .int (nI t)), (2, .int c)]) (st' := [.int (nI t), .ref 117]) (M' := M) rfl ?_
      refine yOk.iald _ _ _ rfl rfl (hin) ?_
      rw [ck]
      refine yOk.adv 5 (pc' := 43) (lv' := [(3, .int (M.1 117 t)), (0, .ref 93), (1, .int (nI t)), (2, .int c)]) (st' := [.int c, .int (nI t), .ref 117]) (M' := M) rfl ?_
      refine yOk.iast _ _ _ rfl rfl (hin) ?_
      rw [ck]
      refine yOk.adv 2 (pc' := 46) (lv' := [(3, .int (M.1 117 t)), (0, .ref 93), (1, .int (nI t)), (2, .int c)]) (st' := [.long ((M.1 117 t).toInt64)]) (M' := zup M 117 t c) rfl ?_
      exact yOk.ret _ rfl rfl rfl
    · exact absurd c2 (by decide)
