/-! ===== load of the reference ===== -/
def zldM (M : zMm) (o i : Nat) : zMm := (fun a j => if (a = 94 ∨ a = 95 ∨ a = 96) ∧ j < i then M.1 (a + 13) (o + j) else M.1 a j, M.2)
theorem zldM_0 (M : zMm) (o : Nat) : zldM M o 0 = M := by
  unfold zldM
  have : (fun a j => if (a = 94 ∨ a = 95 ∨ a = 96) ∧ j < 0 then M.1 (a + 13) (o + j) else M.1 a j) = M.1 := by
    funext a j
    rw [if_neg (by omega)]
  rw [this]
theorem zldM_s (M : zMm) (o i : Nat) : zup (zup (zup (zldM M o i) 94 i (M.1 107 (o + i))) 95 i (M.1 108 (o + i))) 96 i (M.1 109 (o + i)) = zldM M o (i + 1) := by
  unfold zup zldM
  congr 1
  funext a j
  dsimp only
  by_cases hj : j = i
  · subst hj
    by_cases h1 : a = 96
    · subst h1; simp
    · by_cases h2 : a = 95
      · subst h2; simp
      · by_cases h3 : a = 94
        · subst h3; simp
        · simp [h1, h2, h3]
  · simp only [hj, and_false, if_false]
    by_cases hc : (a = 94 ∨ a = 95 ∨ a = 96) ∧ j < i
    · rw [if_pos hc, if_pos ⟨hc.1, by omega⟩]
    · rw [if_neg hc, if_neg (fun q => hc ⟨q.1, by omega⟩)]
theorem zldM_at (M : zMm) (o i a j : Nat) (h1 : a ≠ 94) (h2 : a ≠ 95) (h3 : a ≠ 96) : (zldM M o i).1 a j = M.1 a j := by
  unfold zldM
  dsimp only
  rw [if_neg (fun q => q.1.elim h1 (fun q => q.elim h2 h3))]
theorem r_load_no (M : zMm) (k : Int32) (h : ¬ (0 ≤ k.toInt ∧ k.toInt ≤ 5)) : yOk 140 0 [(0, .ref 93), (1, .int k)] [] M (some (.int (-1))) M := by
  refine yOk.adv 4 (pc' := 6) (lv' := [(0, .ref 93), (1, .int k)]) (st' := [.long 5, .long 0, .long k.toInt64]) (M' := M) rfl ?_
  refine yOk.call (M1 := M) _ rfl rfl rfl rfl rfl (r_withinV M k.toInt64 0 5 0 5 rfl rfl 0 (Or.inr ⟨by rw [Kit.i64_of_i32]; exact h, rfl⟩)) ?_
  show yOk 140 9 [(0, .ref 93), (1, .int k)] [.int 0] M _ _
  refine yOk.if1 .eq _ _ _ _ rfl (fun c1 => ?_) (fun c1 => ?_)
  · refine yOk.adv 1 (pc' := 24) (lv' := [(0, .ref 93), (1, .int k)]) (st' := [.int (-1)]) (M' := M) rfl ?_
    exact yOk.ret _ rfl rfl rfl
  · exact absurd c1 (by decide)
theorem r_load_0_loop (M : zMm) (n : Nat) (hs : M.1 93 7 = nI n) (hn : n ≤ 24) : ∀ (d i : Nat), i + d = n → yOk 140 67 [(0, .ref 93), (1, .int 0), (2, .int (nI i))] [] (zldM M 0 i) (some (.int (nI n))) (zldM M 0 n)
  | 0, i, h => by
    have : i = n := by omega
    subst this
    have e : (zldM M 0 i).1 93 7 = nI i := (zldM_at M 0 i 93 7 (by decide) (by decide) (by decide)).trans hs
    refine yOk.adv 3 (pc' := 72) (lv' := [(0, .ref 93), (1, .int 0), (2, .int (nI i))]) (st' := [.int ((zldM M 0 i).1 93 7), .int (nI i)]) (M' := zldM M 0 i) rfl ?_
    rw [e]
    refine yOk.if2 .ge _ _ _ _ rfl (fun c1 => ?_) (fun c1 => ?_)
    · refine yOk.adv 2 (pc' := 136) (lv' := [(0, .ref 93), (1, .int 0), (2, .int (nI i))]) (st' := [.int ((zldM M 0 i).1 93 7)]) (M' := zldM M 0 i) rfl ?_
      rw [e]
      exact yOk.ret _ rfl rfl rfl
    · exact absurd (zge_f c1) (nI_nlt (by omega) (by omega))
  | d + 1, i, h => by
    have e : (zldM M 0 i).1 93 7 = nI n := (zldM_at M 0 i 93 7 (by decide) (by decide) (by decide)).trans hs
    have ci : (nI i).toNatClampNeg = i := nI_clamp (by omega)
    have ck : (nI (0 + i)).toNatClampNeg = 0 + i := nI_clamp (by omega)
    have hin : zin (nI i) 24 = true := zin_nI (by omega) (by omega)
    have hin2 : zin (nI (0 + i)) 144 = true := zin_nI (by omega) (by omega)
    have hix : (24 * 0 : Int32) + nI i = nI (0 + i) := nI_add 0 i
    refine yOk.adv 3 (pc' := 72) (lv' := [(0, .ref 93), (1, .int 0), (2, .int (nI i))]) (st' := [.int ((zldM M 0 i).1 93 7), .int (nI i)]) (M' := zldM M 0 i) rfl ?_
    rw [e]
    refine yOk.if2 .ge _ _ _ _ rfl (fun c1 => ?_) (fun c1 => ?_)
    · exact absurd (nI_lt (show i < n by omega) (by omega)) (zge_t c1)
    · refine yOk.adv 10 (pc' := 90) (lv' := [(0, .ref 93), (1, .int 0), (2, .int (nI i))]) (st' := [.int ((24 * 0) + (nI i)), .ref 107, .int (nI i), .ref 94]) (M' := zldM M 0 i) rfl ?_
      rw [hix]
      refine yOk.iald _ _ _ rfl rfl (hin2) ?_
      rw [ck, zldM_at M 0 i 107 (0 + i) (by decide) (by decide) (by decide)]
      refine yOk.iast _ _ _ rfl rfl (hin) ?_
      rw [ci]
      refine yOk.adv 10 (pc' := 107) (lv' := [(0, .ref 93), (1, .int 0), (2, .int (nI i))]) (st' := [.int ((24 * 0) + (nI i)), .ref 108, .int (nI i), .ref 95]) (M' := zup (zldM M 0 i) 94 i (M.1 107 (0 + i))) rfl ?_
      rw [hix]
      refine yOk.iald _ _ _ rfl rfl (hin2) ?_
      have e5 : (zup (zldM M 0 i) 94 i (M.1 107 (0 + i))).1 108 (nI (0 + i)).toNatClampNeg = M.1 108 (0 + i) := by
        rw [ck, ← zldM_at M 0 i 108 (0 + i) (by decide) (by decide) (by decide)]; unfold zup; simp
      rw [e5]
      refine yOk.iast _ _ _ rfl rfl (hin) ?_
      rw [ci]
      refine yOk.adv 10 (pc' := 124) (lv' := [(0, .ref 93), (1, .int 0), (2, .int (nI i))]) (st' := [.int ((24 * 0) + (nI i)), .ref 109, .int (nI i), .ref 96]) (M' := zup (zup (zldM M 0 i) 94 i (M.1 107 (0 + i))) 95 i (M.1 108 (0 + i))) rfl ?_
      rw [hix]
      refine yOk.iald _ _ _ rfl rfl (hin2) ?_
      have e6 : (zup (zup (zldM M 0 i) 94 i (M.1 107 (0 + i))) 95 i (M.1 108 (0 + i))).1 109 (nI (0 + i)).toNatClampNeg = M.1 109 (0 + i) := by
        rw [ck, ← zldM_at M 0 i 109 (0 + i) (by decide) (by decide) (by decide)]; unfold zup; simp
      rw [e6]
      refine yOk.iast _ _ _ rfl rfl (hin) ?_
      rw [ci, zldM_s]
      refine yOk.adv 2 (pc' := 67) (lv' := [(2, .int (nI i + 1)), (0, .ref 93), (1, .int 0)]) (st' := []) (M' := zldM M 0 (i + 1)) rfl ?_
      have ih := r_load_0_loop M n hs hn d (i + 1) (by omega)
      rw [nI_succ] at ih
      exact ih.drop (by refine ⟨?_, ?_⟩ <;> simp [zget, zwf])
theorem r_load_0_no (M : zMm) (h : M.1 103 0 = -9) : yOk 140 0 [(0, .ref 93), (1, .int 0)] [] M (some (.int (-1))) M := by
  refine yOk.adv 4 (pc' := 6) (lv' := [(0, .ref 93), (1, .int 0)]) (st' := [.long 5, .long 0, .long 0]) (M' := M) rfl ?_
  refine yOk.call (M1 := M) _ rfl rfl rfl rfl rfl (r_withinV M 0 0 5 0 5 rfl rfl 1 (Or.inl ⟨by decide, rfl⟩)) ?_
  show yOk 140 9 [(0, .ref 93), (1, .int 0)] [.int 1] M _ _
  refine yOk.if1 .eq _ _ _ _ rfl (fun c1 => ?_) (fun c1 => ?_)
  · exact absurd c1 (by decide)
  · refine yOk.adv 4 (pc' := 18) (lv' := [(0, .ref 93), (1, .int 0)]) (st' := [.int (M.1 103 0)]) (M' := M) rfl ?_
    rw [h]
    refine yOk.adv 1 (pc' := 20) (lv' := [(0, .ref 93), (1, .int 0)]) (st' := [.int (-9), .int (-9)]) (M' := M) rfl ?_
    refine yOk.if2 .ne _ _ _ _ rfl (fun c2 => ?_) (fun c2 => ?_)
    · exact absurd c2 (by decide)
    · refine yOk.adv 1 (pc' := 24) (lv' := [(0, .ref 93), (1, .int 0)]) (st' := [.int (-1)]) (M' := M) rfl ?_
      exact yOk.ret _ rfl rfl rfl
theorem r_load_0 (M : zMm) (n : Nat) (hk : M.1 103 0 = nI n) (hn : n ≤ 24) : yOk 140 0 [(0, .ref 93), (1, .int 0)] [] M (some (.int (nI n))) (zldM (zup (zup (zup (zup M 93 7 (nI n)) 93 4 (M.1 104 0)) 93 5 (M.1 105 0)) 93 6 (M.1 106 0)) 0 n) := by
  refine yOk.adv 4 (pc' := 6) (lv' := [(0, .ref 93), (1, .int 0)]) (st' := [.long 5, .long 0, .long 0]) (M' := M) rfl ?_
  refine yOk.call (M1 := M) _ rfl rfl rfl rfl rfl (r_withinV M 0 0 5 0 5 rfl rfl 1 (Or.inl ⟨by decide, rfl⟩)) ?_
  show yOk 140 9 [(0, .ref 93), (1, .int 0)] [.int 1] M _ _
  refine yOk.if1 .eq _ _ _ _ rfl (fun c1 => ?_) (fun c1 => ?_)
  · exact absurd c1 (by decide)
  · refine yOk.adv 4 (pc' := 18) (lv' := [(0, .ref 93), (1, .int 0)]) (st' := [.int (M.1 103 0)]) (M' := M) rfl ?_
    rw [hk]
    refine yOk.adv 1 (pc' := 20) (lv' := [(0, .ref 93), (1, .int 0)]) (st' := [.int (-9), .int (nI n)]) (M' := M) rfl ?_
    refine yOk.if2 .ne _ _ _ _ rfl (fun c2 => ?_) (fun c2 => ?_)
    · refine yOk.adv 5 (pc' := 32) (lv' := [(0, .ref 93), (1, .int 0)]) (st' := [.int (M.1 103 0), .ref 93]) (M' := M) rfl ?_
      rw [hk]
      refine yOk.adv 6 (pc' := 42) (lv' := [(0, .ref 93), (1, .int 0)]) (st' := [.int ((zup M 93 7 (nI n)).1 104 0), .ref 93]) (M' := zup M 93 7 (nI n)) rfl ?_
      have e1 : (zup M 93 7 (nI n)).1 104 0 = M.1 104 0 := by unfold zup; simp
      rw [e1]
      refine yOk.adv 6 (pc' := 52) (lv' := [(0, .ref 93), (1, .int 0)]) (st' := [.int ((zup (zup M 93 7 (nI n)) 93 4 (M.1 104 0)).1 105 0), .ref 93]) (M' := zup (zup M 93 7 (nI n)) 93 4 (M.1 104 0)) rfl ?_
      have e2 : (zup (zup M 93 7 (nI n)) 93 4 (M.1 104 0)).1 105 0 = M.1 105 0 := by unfold zup; simp
      rw [e2]
      refine yOk.adv 6 (pc' := 62) (lv' := [(0, .ref 93), (1, .int 0)]) (st' := [.int ((zup (zup (zup M 93 7 (nI n)) 93 4 (M.1 104 0)) 93 5 (M.1 105 0)).1 106 0), .ref 93]) (M' := zup (zup (zup M 93 7 (nI n)) 93 4 (M.1 104 0)) 93 5 (M.1 105 0)) rfl ?_
      have e3 : (zup (zup (zup M 93 7 (nI n)) 93 4 (M.1 104 0)) 93 5 (M.1 105 0)).1 106 0 = M.1 106 0 := by unfold zup; simp
      rw [e3]
      refine yOk.adv 3 (pc' := 67) (lv' := [(2, .int 0), (0, .ref 93), (1, .int 0)]) (st' := []) (M' := zup (zup (zup (zup M 93 7 (nI n)) 93 4 (M.1 104 0)) 93 5 (M.1 105 0)) 93 6 (M.1 106 0)) rfl ?_
      have e4 : (zup (zup (zup (zup M 93 7 (nI n)) 93 4 (M.1 104 0)) 93 5 (M.1 105 0)) 93 6 (M.1 106 0)).1 93 7 = nI n := by unfold zup; simp
      have h := r_load_0_loop (zup (zup (zup (zup M 93 7 (nI n)) 93 4 (M.1 104 0)) 93 5 (M.1 105 0)) 93 6 (M.1 106 0)) n e4 hn n 0 (by omega)
      rw [zldM_0] at h
      exact h.drop (by refine ⟨?_, ?_⟩ <;> simp [zget, zwf, nI])
    · exact absurd (zne_f c2) (nI_nm9 n (by omega))
theorem r_load_1_loop (M : zMm) (n : Nat) (hs : M.1 93 7 = nI n) (hn : n ≤ 24) : ∀ (d i : Nat), i + d = n → yOk 140 67 [(0, .ref 93), (1, .int 1), (2, .int (nI i))] [] (zldM M 24 i) (some (.int (nI n))) (zldM M 24 n)
  | 0, i, h => by
    have : i = n := by omega
    subst this
    have e : (zldM M 24 i).1 93 7 = nI i := (zldM_at M 24 i 93 7 (by decide) (by decide) (by decide)).trans hs
    refine yOk.adv 3 (pc' := 72) (lv' := [(0, .ref 93), (1, .int 1), (2, .int (nI i))]) (st' := [.int ((zldM M 24 i).1 93 7), .int (nI i)]) (M' := zldM M 24 i) rfl ?_
    rw [e]
    refine yOk.if2 .ge _ _ _ _ rfl (fun c1 => ?_) (fun c1 => ?_)
    · refine yOk.adv 2 (pc' := 136) (lv' := [(0, .ref 93), (1, .int 1), (2, .int (nI i))]) (st' := [.int ((zldM M 24 i).1 93 7)]) (M' := zldM M 24 i) rfl ?_
      rw [e]
      exact yOk.ret _ rfl rfl rfl
    · exact absurd (zge_f c1) (nI_nlt (by omega) (by omega))
  | d + 1, i, h => by
    have e : (zldM M 24 i).1 93 7 = nI n := (zldM_at M 24 i 93 7 (by decide) (by decide) (by decide)).trans hs
    have ci : (nI i).toNatClampNeg = i := nI_clamp (by omega)
    have ck : (nI (24 + i)).toNatClampNeg = 24 + i := nI_clamp (by omega)
    have hin : zin (nI i) 24 = true := zin_nI (by omega) (by omega)
    have hin2 : zin (nI (24 + i)) 144 = true := zin_nI (by omega) (by omega)
    have hix : (24 * 1 : Int32) + nI i = nI (24 + i) := nI_add 24 i
    refine yOk.adv 3 (pc' := 72) (lv' := [(0, .ref 93), (1, .int 1), (2, .int (nI i))]) (st' := [.int ((zldM M 24 i).1 93 7), .int (nI i)]) (M' := zldM M 24 i) rfl ?_
    rw [e]
    refine yOk.if2 .ge _ _ _ _ rfl (fun c1 => ?_) (fun c1 => ?_)
    · exact absurd (nI_lt (show i < n by omega) (by omega)) (zge_t c1)
    · refine yOk.adv 10 (pc' := 90) (lv' := [(0, .ref 93), (1, .int 1), (2, .int (nI i))]) (st' := [.int ((24 * 1) + (nI i)), .ref 107, .int (nI i), .ref 94]) (M' := zldM M 24 i) rfl ?_
      rw [hix]
      refine yOk.iald _ _ _ rfl rfl (hin2) ?_
      rw [ck, zldM_at M 24 i 107 (24 + i) (by decide) (by decide) (by decide)]
      refine yOk.iast _ _ _ rfl rfl (hin) ?_
      rw [ci]
      refine yOk.adv 10 (pc' := 107) (lv' := [(0, .ref 93), (1, .int 1), (2, .int (nI i))]) (st' := [.int ((24 * 1) + (nI i)), .ref 108, .int (nI i), .ref 95]) (M' := zup (zldM M 24 i) 94 i (M.1 107 (24 + i))) rfl ?_
      rw [hix]
      refine yOk.iald _ _ _ rfl rfl (hin2) ?_
      have e5 : (zup (zldM M 24 i) 94 i (M.1 107 (24 + i))).1 108 (nI (24 + i)).toNatClampNeg = M.1 108 (24 + i) := by
        rw [ck, ← zldM_at M 24 i 108 (24 + i) (by decide) (by decide) (by decide)]; unfold zup; simp
      rw [e5]
      refine yOk.iast _ _ _ rfl rfl (hin) ?_
      rw [ci]
      refine yOk.adv 10 (pc' := 124) (lv' := [(0, .ref 93), (1, .int 1), (2, .int (nI i))]) (st' := [.int ((24 * 1) + (nI i)), .ref 109, .int (nI i), .ref 96]) (M' := zup (zup (zldM M 24 i) 94 i (M.1 107 (24 + i))) 95 i (M.1 108 (24 + i))) rfl ?_
      rw [hix]
      refine yOk.iald _ _ _ rfl rfl (hin2) ?_
      have e6 : (zup (zup (zldM M 24 i) 94 i (M.1 107 (24 + i))) 95 i (M.1 108 (24 + i))).1 109 (nI (24 + i)).toNatClampNeg = M.1 109 (24 + i) := by
        rw [ck, ← zldM_at M 24 i 109 (24 + i) (by decide) (by decide) (by decide)]; unfold zup; simp
      rw [e6]
      refine yOk.iast _ _ _ rfl rfl (hin) ?_
      rw [ci, zldM_s]
      refine yOk.adv 2 (pc' := 67) (lv' := [(2, .int (nI i + 1)), (0, .ref 93), (1, .int 1)]) (st' := []) (M' := zldM M 24 (i + 1)) rfl ?_
      have ih := r_load_1_loop M n hs hn d (i + 1) (by omega)
      rw [nI_succ] at ih
      exact ih.drop (by refine ⟨?_, ?_⟩ <;> simp [zget, zwf])
theorem r_load_1_no (M : zMm) (h : M.1 103 1 = -9) : yOk 140 0 [(0, .ref 93), (1, .int 1)] [] M (some (.int (-1))) M := by
  refine yOk.adv 4 (pc' := 6) (lv' := [(0, .ref 93), (1, .int 1)]) (st' := [.long 5, .long 0, .long 1]) (M' := M) rfl ?_
  refine yOk.call (M1 := M) _ rfl rfl rfl rfl rfl (r_withinV M 1 0 5 0 5 rfl rfl 1 (Or.inl ⟨by decide, rfl⟩)) ?_
  show yOk 140 9 [(0, .ref 93), (1, .int 1)] [.int 1] M _ _
  refine yOk.if1 .eq _ _ _ _ rfl (fun c1 => ?_) (fun c1 => ?_)
  · exact absurd c1 (by decide)
  · refine yOk.adv 4 (pc' := 18) (lv' := [(0, .ref 93), (1, .int 1)]) (st' := [.int (M.1 103 1)]) (M' := M) rfl ?_
    rw [h]
    refine yOk.adv 1 (pc' := 20) (lv' := [(0, .ref 93), (1, .int 1)]) (st' := [.int (-9), .int (-9)]) (M' := M) rfl ?_
    refine yOk.if2 .ne _ _ _ _ rfl (fun c2 => ?_) (fun c2 => ?_)
    · exact absurd c2 (by decide)
    · refine yOk.adv 1 (pc' := 24) (lv' := [(0, .ref 93), (1, .int 1)]) (st' := [.int (-1)]) (M' := M) rfl ?_
      exact yOk.ret _ rfl rfl rfl
theorem r_load_1 (M : zMm) (n : Nat) (hk : M.1 103 1 = nI n) (hn : n ≤ 24) : yOk 140 0 [(0, .ref 93), (1, .int 1)] [] M (some (.int (nI n))) (zldM (zup (zup (zup (zup M 93 7 (nI n)) 93 4 (M.1 104 1)) 93 5 (M.1 105 1)) 93 6 (M.1 106 1)) 24 n) := by
  refine yOk.adv 4 (pc' := 6) (lv' := [(0, .ref 93), (1, .int 1)]) (st' := [.long 5, .long 0, .long 1]) (M' := M) rfl ?_
  refine yOk.call (M1 := M) _ rfl rfl rfl rfl rfl (r_withinV M 1 0 5 0 5 rfl rfl 1 (Or.inl ⟨by decide, rfl⟩)) ?_
  show yOk 140 9 [(0, .ref 93), (1, .int 1)] [.int 1] M _ _
  refine yOk.if1 .eq _ _ _ _ rfl (fun c1 => ?_) (fun c1 => ?_)
  · exact absurd c1 (by decide)
  · refine yOk.adv 4 (pc' := 18) (lv' := [(0, .ref 93), (1, .int 1)]) (st' := [.int (M.1 103 1)]) (M' := M) rfl ?_
    rw [hk]
    refine yOk.adv 1 (pc' := 20) (lv' := [(0, .ref 93), (1, .int 1)]) (st' := [.int (-9), .int (nI n)]) (M' := M) rfl ?_
    refine yOk.if2 .ne _ _ _ _ rfl (fun c2 => ?_) (fun c2 => ?_)
    · refine yOk.adv 5 (pc' := 32) (lv' := [(0, .ref 93), (1, .int 1)]) (st' := [.int (M.1 103 1), .ref 93]) (M' := M) rfl ?_
      rw [hk]
      refine yOk.adv 6 (pc' := 42) (lv' := [(0, .ref 93), (1, .int 1)]) (st' := [.int ((zup M 93 7 (nI n)).1 104 1), .ref 93]) (M' := zup M 93 7 (nI n)) rfl ?_
      have e1 : (zup M 93 7 (nI n)).1 104 1 = M.1 104 1 := by unfold zup; simp
      rw [e1]
      refine yOk.adv 6 (pc' := 52) (lv' := [(0, .ref 93), (1, .int 1)]) (st' := [.int ((zup (zup M 93 7 (nI n)) 93 4 (M.1 104 1)).1 105 1), .ref 93]) (M' := zup (zup M 93 7 (nI n)) 93 4 (M.1 104 1)) rfl ?_
      have e2 : (zup (zup M 93 7 (nI n)) 93 4 (M.1 104 1)).1 105 1 = M.1 105 1 := by unfold zup; simp
      rw [e2]
      refine yOk.adv 6 (pc' := 62) (lv' := [(0, .ref 93), (1, .int 1)]) (st' := [.int ((zup (zup (zup M 93 7 (nI n)) 93 4 (M.1 104 1)) 93 5 (M.1 105 1)).1 106 1), .ref 93]) (M' := zup (zup (zup M 93 7 (nI n)) 93 4 (M.1 104 1)) 93 5 (M.1 105 1)) rfl ?_
      have e3 : (zup (zup (zup M 93 7 (nI n)) 93 4 (M.1 104 1)) 93 5 (M.1 105 1)).1 106 1 = M.1 106 1 := by unfold zup; simp
      rw [e3]
      refine yOk.adv 3 (pc' := 67) (lv' := [(2, .int 0), (0, .ref 93), (1, .int 1)]) (st' := []) (M' := zup (zup (zup (zup M 93 7 (nI n)) 93 4 (M.1 104 1)) 93 5 (M.1 105 1)) 93 6 (M.1 106 1)) rfl ?_
      have e4 : (zup (zup (zup (zup M 93 7 (nI n)) 93 4 (M.1 104 1)) 93 5 (M.1 105 1)) 93 6 (M.1 106 1)).1 93 7 = nI n := by unfold zup; simp
      have h := r_load_1_loop (zup (zup (zup (zup M 93 7 (nI n)) 93 4 (M.1 104 1)) 93 5 (M.1 105 1)) 93 6 (M.1 106 1)) n e4 hn n 0 (by omega)
      rw [zldM_0] at h
      exact h.drop (by refine ⟨?_, ?_⟩ <;> simp [zget, zwf, nI])
    · exact absurd (zne_f c2) (nI_nm9 n (by omega))
theorem r_load_2_loop (M : zMm) (n : Nat) (hs : M.1 93 7 = nI n) (hn : n ≤ 24) : ∀ (d i : Nat), i + d = n → yOk 140 67 [(0, .ref 93), (1, .int 2), (2, .int (nI i))] [] (zldM M 48 i) (some (.int (nI n))) (zldM M 48 n)
  | 0, i, h => by
    have : i = n := by omega
    subst this
    have e : (zldM M 48 i).1 93 7 = nI i := (zldM_at M 48 i 93 7 (by decide) (by decide) (by decide)).trans hs
    refine yOk.adv 3 (pc' := 72) (lv' := [(0, .ref 93), (1, .int 2), (2, .int (nI i))]) (st' := [.int ((zldM M 48 i).1 93 7), .int (nI i)]) (M' := zldM M 48 i) rfl ?_
    rw [e]
    refine yOk.if2 .ge _ _ _ _ rfl (fun c1 => ?_) (fun c1 => ?_)
    · refine yOk.adv 2 (pc' := 136) (lv' := [(0, .ref 93), (1, .int 2), (2, .int (nI i))]) (st' := [.int ((zldM M 48 i).1 93 7)]) (M' := zldM M 48 i) rfl ?_
      rw [e]
      exact yOk.ret _ rfl rfl rfl
    · exact absurd (zge_f c1) (nI_nlt (by omega) (by omega))
  | d + 1, i, h => by
    have e : (zldM M 48 i).1 93 7 = nI n := (zldM_at M 48 i 93 7 (by decide) (by decide) (by decide)).trans hs
    have ci : (nI i).toNatClampNeg = i := nI_clamp (by omega)
    have ck : (nI (48 + i)).toNatClampNeg = 48 + i := nI_clamp (by omega)
    have hin : zin (nI i) 24 = true := zin_nI (by omega) (by omega)
    have hin2 : zin (nI (48 + i)) 144 = true := zin_nI (by omega) (by omega)
    have hix : (24 * 2 : Int32) + nI i = nI (48 + i) := nI_add 48 i
    refine yOk.adv 3 (pc' := 72) (lv' := [(0, .ref 93), (1, .int 2), (2, .int (nI i))]) (st' := [.int ((zldM M 48 i).1 93 7), .int (nI i)]) (M' := zldM M 48 i) rfl ?_
    rw [e]
    refine yOk.if2 .ge _ _ _ _ rfl (fun c1 => ?_) (fun c1 => ?_)
    · exact absurd (nI_lt (show i < n by omega) (by omega)) (zge_t c1)
    · refine yOk.adv 10 (pc' := 90) (lv' := [(0, .ref 93), (1, .int 2), (2, .int (nI i))]) (st' := [.int ((24 * 2) + (nI i)), .ref 107, .int (nI i), .ref 94]) (M' := zldM M 48 i) rfl ?_
      rw [hix]
      refine yOk.iald _ _ _ rfl rfl (hin2) ?_
      rw [ck, zldM_at M 48 i 107 (48 + i) (by decide) (by decide) (by decide)]
      refine yOk.iast _ _ _ rfl rfl (hin) ?_
      rw [ci]
      refine yOk.adv 10 (pc' := 107) (lv' := [(0, .ref 93), (1, .int 2), (2, .int (nI i))]) (st' := [.int ((24 * 2) + (nI i)), .ref 108, .int (nI i), .ref 95]) (M' := zup (zldM M 48 i) 94 i (M.1 107 (48 + i))) rfl ?_
      rw [hix]
      refine yOk.iald _ _ _ rfl rfl (hin2) ?_
      have e5 : (zup (zldM M 48 i) 94 i (M.1 107 (48 + i))).1 108 (nI (48 + i)).toNatClampNeg = M.1 108 (48 + i) := by
        rw [ck, ← zldM_at M 48 i 108 (48 + i) (by decide) (by decide) (by decide)]; unfold zup; simp
      rw [e5]
      refine yOk.iast _ _ _ rfl rfl (hin) ?_
      rw [ci]
      refine yOk.adv 10 (pc' := 124) (lv' := [(0, .ref 93), (1, .int 2), (2, .int (nI i))]) (st' := [.int ((24 * 2) + (nI i)), .ref 109, .int (nI i), .ref 96]) (M' := zup (zup (zldM M 48 i) 94 i (M.1 107 (48 + i))) 95 i (M.1 108 (48 + i))) rfl ?_
      rw [hix]
      refine yOk.iald _ _ _ rfl rfl (hin2) ?_
      have e6 : (zup (zup (zldM M 48 i) 94 i (M.1 107 (48 + i))) 95 i (M.1 108 (48 + i))).1 109 (nI (48 + i)).toNatClampNeg = M.1 109 (48 + i) := by
        rw [ck, ← zldM_at M 48 i 109 (48 + i) (by decide) (by decide) (by decide)]; unfold zup; simp
      rw [e6]
      refine yOk.iast _ _ _ rfl rfl (hin) ?_
      rw [ci, zldM_s]
      refine yOk.adv 2 (pc' := 67) (lv' := [(2, .int (nI i + 1)), (0, .ref 93), (1, .int 2)]) (st' := []) (M' := zldM M 48 (i + 1)) rfl ?_
      have ih := r_load_2_loop M n hs hn d (i + 1) (by omega)
      rw [nI_succ] at ih
      exact ih.drop (by refine ⟨?_, ?_⟩ <;> simp [zget, zwf])
theorem r_load_2_no (M : zMm) (h : M.1 103 2 = -9) : yOk 140 0 [(0, .ref 93), (1, .int 2)] [] M (some (.int (-1))) M := by
  refine yOk.adv 4 (pc' := 6) (lv' := [(0, .ref 93), (1, .int 2)]) (st' := [.long 5, .long 0, .long 2]) (M' := M) rfl ?_
  refine yOk.call (M1 := M) _ rfl rfl rfl rfl rfl (r_withinV M 2 0 5 0 5 rfl rfl 1 (Or.inl ⟨by decide, rfl⟩)) ?_
  show yOk 140 9 [(0, .ref 93), (1, .int 2)] [.int 1] M _ _
  refine yOk.if1 .eq _ _ _ _ rfl (fun c1 => ?_) (fun c1 => ?_)
  · exact absurd c1 (by decide)
  · refine yOk.adv 4 (pc' := 18) (lv' := [(0, .ref 93), (1, .int 2)]) (st' := [.int (M.1 103 2)]) (M' := M) rfl ?_
    rw [h]
    refine yOk.adv 1 (pc' := 20) (lv' := [(0, .ref 93), (1, .int 2)]) (st' := [.int (-9), .int (-9)]) (M' := M) rfl ?_
    refine yOk.if2 .ne _ _ _ _ rfl (fun c2 => ?_) (fun c2 => ?_)
    · exact absurd c2 (by decide)
    · refine yOk.adv 1 (pc' := 24) (lv' := [(0, .ref 93), (1, .int 2)]) (st' := [.int (-1)]) (M' := M) rfl ?_
      exact yOk.ret _ rfl rfl rfl
theorem r_load_2 (M : zMm) (n : Nat) (hk : M.1 103 2 = nI n) (hn : n ≤ 24) : yOk 140 0 [(0, .ref 93), (1, .int 2)] [] M (some (.int (nI n))) (zldM (zup (zup (zup (zup M 93 7 (nI n)) 93 4 (M.1 104 2)) 93 5 (M.1 105 2)) 93 6 (M.1 106 2)) 48 n) := by
  refine yOk.adv 4 (pc' := 6) (lv' := [(0, .ref 93), (1, .int 2)]) (st' := [.long 5, .long 0, .long 2]) (M' := M) rfl ?_
  refine yOk.call (M1 := M) _ rfl rfl rfl rfl rfl (r_withinV M 2 0 5 0 5 rfl rfl 1 (Or.inl ⟨by decide, rfl⟩)) ?_
  show yOk 140 9 [(0, .ref 93), (1, .int 2)] [.int 1] M _ _
  refine yOk.if1 .eq _ _ _ _ rfl (fun c1 => ?_) (fun c1 => ?_)
  · exact absurd c1 (by decide)
  · refine yOk.adv 4 (pc' := 18) (lv' := [(0, .ref 93), (1, .int 2)]) (st' := [.int (M.1 103 2)]) (M' := M) rfl ?_
    rw [hk]
    refine yOk.adv 1 (pc' := 20) (lv' := [(0, .ref 93), (1, .int 2)]) (st' := [.int (-9), .int (nI n)]) (M' := M) rfl ?_
    refine yOk.if2 .ne _ _ _ _ rfl (fun c2 => ?_) (fun c2 => ?_)
    · refine yOk.adv 5 (pc' := 32) (lv' := [(0, .ref 93), (1, .int 2)]) (st' := [.int (M.1 103 2), .ref 93]) (M' := M) rfl ?_
      rw [hk]
      refine yOk.adv 6 (pc' := 42) (lv' := [(0, .ref 93), (1, .int 2)]) (st' := [.int ((zup M 93 7 (nI n)).1 104 2), .ref 93]) (M' := zup M 93 7 (nI n)) rfl ?_
      have e1 : (zup M 93 7 (nI n)).1 104 2 = M.1 104 2 := by unfold zup; simp
      rw [e1]
      refine yOk.adv 6 (pc' := 52) (lv' := [(0, .ref 93), (1, .int 2)]) (st' := [.int ((zup (zup M 93 7 (nI n)) 93 4 (M.1 104 2)).1 105 2), .ref 93]) (M' := zup (zup M 93 7 (nI n)) 93 4 (M.1 104 2)) rfl ?_
      have e2 : (zup (zup M 93 7 (nI n)) 93 4 (M.1 104 2)).1 105 2 = M.1 105 2 := by unfold zup; simp
      rw [e2]
      refine yOk.adv 6 (pc' := 62) (lv' := [(0, .ref 93), (1, .int 2)]) (st' := [.int ((zup (zup (zup M 93 7 (nI n)) 93 4 (M.1 104 2)) 93 5 (M.1 105 2)).1 106 2), .ref 93]) (M' := zup (zup (zup M 93 7 (nI n)) 93 4 (M.1 104 2)) 93 5 (M.1 105 2)) rfl ?_
      have e3 : (zup (zup (zup M 93 7 (nI n)) 93 4 (M.1 104 2)) 93 5 (M.1 105 2)).1 106 2 = M.1 106 2 := by unfold zup; simp
      rw [e3]
      refine yOk.adv 3 (pc' := 67) (lv' := [(2, .int 0), (0, .ref 93), (1, .int 2)]) (st' := []) (M' := zup (zup (zup (zup M 93 7 (nI n)) 93 4 (M.1 104 2)) 93 5 (M.1 105 2)) 93 6 (M.1 106 2)) rfl ?_
      have e4 : (zup (zup (zup (zup M 93 7 (nI n)) 93 4 (M.1 104 2)) 93 5 (M.1 105 2)) 93 6 (M.1 106 2)).1 93 7 = nI n := by unfold zup; simp
      have h := r_load_2_loop (zup (zup (zup (zup M 93 7 (nI n)) 93 4 (M.1 104 2)) 93 5 (M.1 105 2)) 93 6 (M.1 106 2)) n e4 hn n 0 (by omega)
      rw [zldM_0] at h
      exact h.drop (by refine ⟨?_, ?_⟩ <;> simp [zget, zwf, nI])
    · exact absurd (zne_f c2) (nI_nm9 n (by omega))
theorem r_load_3_loop (M : zMm) (n : Nat) (hs : M.1 93 7 = nI n) (hn : n ≤ 24) : ∀ (d i : Nat), i + d = n → yOk 140 67 [(0, .ref 93), (1, .int 3), (2, .int (nI i))] [] (zldM M 72 i) (some (.int (nI n))) (zldM M 72 n)
  | 0, i, h => by
    have : i = n := by omega
    subst this
    have e : (zldM M 72 i).1 93 7 = nI i := (zldM_at M 72 i 93 7 (by decide) (by decide) (by decide)).trans hs
    refine yOk.adv 3 (pc' := 72) (lv' := [(0, .ref 93), (1, .int 3), (2, .int (nI i))]) (st' := [.int ((zldM M 72 i).1 93 7), .int (nI i)]) (M' := zldM M 72 i) rfl ?_
    rw [e]
    refine yOk.if2 .ge _ _ _ _ rfl (fun c1 => ?_) (fun c1 => ?_)
    · refine yOk.adv 2 (pc' := 136) (lv' := [(0, .ref 93), (1, .int 3), (2, .int (nI i))]) (st' := [.int ((zldM M 72 i).1 93 7)]) (M' := zldM M 72 i) rfl ?_
      rw [e]
      exact yOk.ret _ rfl rfl rfl
    · exact absurd (zge_f c1) (nI_nlt (by omega) (by omega))
  | d + 1, i, h => by
    have e : (zldM M 72 i).1 93 7 = nI n := (zldM_at M 72 i 93 7 (by decide) (by decide) (by decide)).trans hs
    have ci : (nI i).toNatClampNeg = i := nI_clamp (by omega)
    have ck : (nI (72 + i)).toNatClampNeg = 72 + i := nI_clamp (by omega)
    have hin : zin (nI i) 24 = true := zin_nI (by omega) (by omega)
    have hin2 : zin (nI (72 + i)) 144 = true := zin_nI (by omega) (by omega)
    have hix : (24 * 3 : Int32) + nI i = nI (72 + i) := nI_add 72 i
    refine yOk.adv 3 (pc' := 72) (lv' := [(0, .ref 93), (1, .int 3), (2, .int (nI i))]) (st' := [.int ((zldM M 72 i).1 93 7), .int (nI i)]) (M' := zldM M 72 i) rfl ?_
    rw [e]
    refine yOk.if2 .ge _ _ _ _ rfl (fun c1 => ?_) (fun c1 => ?_)
    · exact absurd (nI_lt (show i < n by omega) (by omega)) (zge_t c1)
    · refine yOk.adv 10 (pc' := 90) (lv' := [(0, .ref 93), (1, .int 3), (2, .int (nI i))]) (st' := [.int ((24 * 3) + (nI i)), .ref 107, .int (nI i), .ref 94]) (M' := zldM M 72 i) rfl ?_
      rw [hix]
      refine yOk.iald _ _ _ rfl rfl (hin2) ?_
      rw [ck, zldM_at M 72 i 107 (72 + i) (by decide) (by decide) (by decide)]
      refine yOk.iast _ _ _ rfl rfl (hin) ?_
      rw [ci]
      refine yOk.adv 10 (pc' := 107) (lv' := [(0, .ref 93), (1, .int 3), (2, .int (nI i))]) (st' := [.int ((24 * 3) + (nI i)), .ref 108, .int (nI i), .ref 95]) (M' := zup (zldM M 72 i) 94 i (M.1 107 (72 + i))) rfl ?_
      rw [hix]
      refine yOk.iald _ _ _ rfl rfl (hin2) ?_
      have e5 : (zup (zldM M 72 i) 94 i (M.1 107 (72 + i))).1 108 (nI (72 + i)).toNatClampNeg = M.1 108 (72 + i) := by
        rw [ck, ← zldM_at M 72 i 108 (72 + i) (by decide) (by decide) (by decide)]; unfold zup; simp
      rw [e5]
      refine yOk.iast _ _ _ rfl rfl (hin) ?_
      rw [ci]
      refine yOk.adv 10 (pc' := 124) (lv' := [(0, .ref 93), (1, .int 3), (2, .int (nI i))]) (st' := [.int ((24 * 3) + (nI i)), .ref 109, .int (nI i), .ref 96]) (M' := zup (zup (zldM M 72 i) 94 i (M.1 107 (72 + i))) 95 i (M.1 108 (72 + i))) rfl ?_
      rw [hix]
      refine yOk.iald _ _ _ rfl rfl (hin2) ?_
      have e6 : (zup (zup (zldM M 72 i) 94 i (M.1 107 (72 + i))) 95 i (M.1 108 (72 + i))).1 109 (nI (72 + i)).toNatClampNeg = M.1 109 (72 + i) := by
        rw [ck, ← zldM_at M 72 i 109 (72 + i) (by decide) (by decide) (by decide)]; unfold zup; simp
      rw [e6]
      refine yOk.iast _ _ _ rfl rfl (hin) ?_
      rw [ci, zldM_s]
      refine yOk.adv 2 (pc' := 67) (lv' := [(2, .int (nI i + 1)), (0, .ref 93), (1, .int 3)]) (st' := []) (M' := zldM M 72 (i + 1)) rfl ?_
      have ih := r_load_3_loop M n hs hn d (i + 1) (by omega)
      rw [nI_succ] at ih
      exact ih.drop (by refine ⟨?_, ?_⟩ <;> simp [zget, zwf])
theorem r_load_3_no (M : zMm) (h : M.1 103 3 = -9) : yOk 140 0 [(0, .ref 93), (1, .int 3)] [] M (some (.int (-1))) M := by
  refine yOk.adv 4 (pc' := 6) (lv' := [(0, .ref 93), (1, .int 3)]) (st' := [.long 5, .long 0, .long 3]) (M' := M) rfl ?_
  refine yOk.call (M1 := M) _ rfl rfl rfl rfl rfl (r_withinV M 3 0 5 0 5 rfl rfl 1 (Or.inl ⟨by decide, rfl⟩)) ?_
  show yOk 140 9 [(0, .ref 93), (1, .int 3)] [.int 1] M _ _
  refine yOk.if1 .eq _ _ _ _ rfl (fun c1 => ?_) (fun c1 => ?_)
  · exact absurd c1 (by decide)
  · refine yOk.adv 4 (pc' := 18) (lv' := [(0, .ref 93), (1, .int 3)]) (st' := [.int (M.1 103 3)]) (M' := M) rfl ?_
    rw [h]
    refine yOk.adv 1 (pc' := 20) (lv' := [(0, .ref 93), (1, .int 3)]) (st' := [.int (-9), .int (-9)]) (M' := M) rfl ?_
    refine yOk.if2 .ne _ _ _ _ rfl (fun c2 => ?_) (fun c2 => ?_)
    · exact absurd c2 (by decide)
    · refine yOk.adv 1 (pc' := 24) (lv' := [(0, .ref 93), (1, .int 3)]) (st' := [.int (-1)]) (M' := M) rfl ?_
      exact yOk.ret _ rfl rfl rfl
theorem r_load_3 (M : zMm) (n : Nat) (hk : M.1 103 3 = nI n) (hn : n ≤ 24) : yOk 140 0 [(0, .ref 93), (1, .int 3)] [] M (some (.int (nI n))) (zldM (zup (zup (zup (zup M 93 7 (nI n)) 93 4 (M.1 104 3)) 93 5 (M.1 105 3)) 93 6 (M.1 106 3)) 72 n) := by
  refine yOk.adv 4 (pc' := 6) (lv' := [(0, .ref 93), (1, .int 3)]) (st' := [.long 5, .long 0, .long 3]) (M' := M) rfl ?_
  refine yOk.call (M1 := M) _ rfl rfl rfl rfl rfl (r_withinV M 3 0 5 0 5 rfl rfl 1 (Or.inl ⟨by decide, rfl⟩)) ?_
  show yOk 140 9 [(0, .ref 93), (1, .int 3)] [.int 1] M _ _
  refine yOk.if1 .eq _ _ _ _ rfl (fun c1 => ?_) (fun c1 => ?_)
  · exact absurd c1 (by decide)
  · refine yOk.adv 4 (pc' := 18) (lv' := [(0, .ref 93), (1, .int 3)]) (st' := [.int (M.1 103 3)]) (M' := M) rfl ?_
    rw [hk]
    refine yOk.adv 1 (pc' := 20) (lv' := [(0, .ref 93), (1, .int 3)]) (st' := [.int (-9), .int (nI n)]) (M' := M) rfl ?_
    refine yOk.if2 .ne _ _ _ _ rfl (fun c2 => ?_) (fun c2 => ?_)
    · refine yOk.adv 5 (pc' := 32) (lv' := [(0, .ref 93), (1, .int 3)]) (st' := [.int (M.1 103 3), .ref 93]) (M' := M) rfl ?_
      rw [hk]
      refine yOk.adv 6 (pc' := 42) (lv' := [(0, .ref 93), (1, .int 3)]) (st' := [.int ((zup M 93 7 (nI n)).1 104 3), .ref 93]) (M' := zup M 93 7 (nI n)) rfl ?_
      have e1 : (zup M 93 7 (nI n)).1 104 3 = M.1 104 3 := by unfold zup; simp
      rw [e1]
      refine yOk.adv 6 (pc' := 52) (lv' := [(0, .ref 93), (1, .int 3)]) (st' := [.int ((zup (zup M 93 7 (nI n)) 93 4 (M.1 104 3)).1 105 3), .ref 93]) (M' := zup (zup M 93 7 (nI n)) 93 4 (M.1 104 3)) rfl ?_
      have e2 : (zup (zup M 93 7 (nI n)) 93 4 (M.1 104 3)).1 105 3 = M.1 105 3 := by unfold zup; simp
      rw [e2]
      refine yOk.adv 6 (pc' := 62) (lv' := [(0, .ref 93), (1, .int 3)]) (st' := [.int ((zup (zup (zup M 93 7 (nI n)) 93 4 (M.1 104 3)) 93 5 (M.1 105 3)).1 106 3), .ref 93]) (M' := zup (zup (zup M 93 7 (nI n)) 93 4 (M.1 104 3)) 93 5 (M.1 105 3)) rfl ?_
      have e3 : (zup (zup (zup M 93 7 (nI n)) 93 4 (M.1 104 3)) 93 5 (M.1 105 3)).1 106 3 = M.1 106 3 := by unfold zup; simp
      rw [e3]
      refine yOk.adv 3 (pc' := 67) (lv' := [(2, .int 0), (0, .ref 93), (1, .int 3)]) (st' := []) (M' := zup (zup (zup (zup M 93 7 (nI n)) 93 4 (M.1 104 3)) 93 5 (M.1 105 3)) 93 6 (M.1 106 3)) rfl ?_
      have e4 : (zup (zup (zup (zup M 93 7 (nI n)) 93 4 (M.1 104 3)) 93 5 (M.1 105 3)) 93 6 (M.1 106 3)).1 93 7 = nI n := by unfold zup; simp
      have h := r_load_3_loop (zup (zup (zup (zup M 93 7 (nI n)) 93 4 (M.1 104 3)) 93 5 (M.1 105 3)) 93 6 (M.1 106 3)) n e4 hn n 0 (by omega)
      rw [zldM_0] at h
      exact h.drop (by refine ⟨?_, ?_⟩ <;> simp [zget, zwf, nI])
    · exact absurd (zne_f c2) (nI_nm9 n (by omega))
theorem r_load_4_loop (M : zMm) (n : Nat) (hs : M.1 93 7 = nI n) (hn : n ≤ 24) : ∀ (d i : Nat), i + d = n → yOk 140 67 [(0, .ref 93), (1, .int 4), (2, .int (nI i))] [] (zldM M 96 i) (some (.int (nI n))) (zldM M 96 n)
  | 0, i, h => by
    have : i = n := by omega
    subst this
    have e : (zldM M 96 i).1 93 7 = nI i := (zldM_at M 96 i 93 7 (by decide) (by decide) (by decide)).trans hs
    refine yOk.adv 3 (pc' := 72) (lv' := [(0, .ref 93), (1, .int 4), (2, .int (nI i))]) (st' := [.int ((zldM M 96 i).1 93 7), .int (nI i)]) (M' := zldM M 96 i) rfl ?_
    rw [e]
    refine yOk.if2 .ge _ _ _ _ rfl (fun c1 => ?_) (fun c1 => ?_)
    · refine yOk.adv 2 (pc' := 136) (lv' := [(0, .ref 93), (1, .int 4), (2, .int (nI i))]) (st' := [.int ((zldM M 96 i).1 93 7)]) (M' := zldM M 96 i) rfl ?_
      rw [e]
      exact yOk.ret _ rfl rfl rfl
    · exact absurd (zge_f c1) (nI_nlt (by omega) (by omega))
  | d + 1, i, h => by
    have e : (zldM M 96 i).1 93 7 = nI n := (zldM_at M 96 i 93 7 (by decide) (by decide) (by decide)).trans hs
    have ci : (nI i).toNatClampNeg = i := nI_clamp (by omega)
    have ck : (nI (96 + i)).toNatClampNeg = 96 + i := nI_clamp (by omega)
    have hin : zin (nI i) 24 = true := zin_nI (by omega) (by omega)
    have hin2 : zin (nI (96 + i)) 144 = true := zin_nI (by omega) (by omega)
    have hix : (24 * 4 : Int32) + nI i = nI (96 + i) := nI_add 96 i
    refine yOk.adv 3 (pc' := 72) (lv' := [(0, .ref 93), (1, .int 4), (2, .int (nI i))]) (st' := [.int ((zldM M 96 i).1 93 7), .int (nI i)]) (M' := zldM M 96 i) rfl ?_
    rw [e]
    refine yOk.if2 .ge _ _ _ _ rfl (fun c1 => ?_) (fun c1 => ?_)
    · exact absurd (nI_lt (show i < n by omega) (by omega)) (zge_t c1)
    · refine yOk.adv 10 (pc' := 90) (lv' := [(0, .ref 93), (1, .int 4), (2, .int (nI i))]) (st' := [.int ((24 * 4) + (nI i)), .ref 107, .int (nI i), .ref 94]) (M' := zldM M 96 i) rfl ?_
      rw [hix]
      refine yOk.iald _ _ _ rfl rfl (hin2) ?_
      rw [ck, zldM_at M 96 i 107 (96 + i) (by decide) (by decide) (by decide)]
      refine yOk.iast _ _ _ rfl rfl (hin) ?_
      rw [ci]
      refine yOk.adv 10 (pc' := 107) (lv' := [(0, .ref 93), (1, .int 4), (2, .int (nI i))]) (st' := [.int ((24 * 4) + (nI i)), .ref 108, .int (nI i), .ref 95]) (M' := zup (zldM M 96 i) 94 i (M.1 107 (96 + i))) rfl ?_
      rw [hix]
      refine yOk.iald _ _ _ rfl rfl (hin2) ?_
      have e5 : (zup (zldM M 96 i) 94 i (M.1 107 (96 + i))).1 108 (nI (96 + i)).toNatClampNeg = M.1 108 (96 + i) := by
        rw [ck, ← zldM_at M 96 i 108 (96 + i) (by decide) (by decide) (by decide)]; unfold zup; simp
      rw [e5]
      refine yOk.iast _ _ _ rfl rfl (hin) ?_
      rw [ci]
      refine yOk.adv 10 (pc' := 124) (lv' := [(0, .ref 93), (1, .int 4), (2, .int (nI i))]) (st' := [.int ((24 * 4) + (nI i)), .ref 109, .int (nI i), .ref 96]) (M' := zup (zup (zldM M 96 i) 94 i (M.1 107 (96 + i))) 95 i (M.1 108 (96 + i))) rfl ?_
      rw [hix]
      refine yOk.iald _ _ _ rfl rfl (hin2) ?_
      have e6 : (zup (zup (zldM M 96 i) 94 i (M.1 107 (96 + i))) 95 i (M.1 108 (96 + i))).1 109 (nI (96 + i)).toNatClampNeg = M.1 109 (96 + i) := by
        rw [ck, ← zldM_at M 96 i 109 (96 + i) (by decide) (by decide) (by decide)]; unfold zup; simp
      rw [e6]
      refine yOk.iast _ _ _ rfl rfl (hin) ?_
      rw [ci, zldM_s]
      refine yOk.adv 2 (pc' := 67) (lv' := [(2, .int (nI i + 1)), (0, .ref 93), (1, .int 4)]) (st' := []) (M' := zldM M 96 (i + 1)) rfl ?_
      have ih := r_load_4_loop M n hs hn d (i + 1) (by omega)
      rw [nI_succ] at ih
      exact ih.drop (by refine ⟨?_, ?_⟩ <;> simp [zget, zwf])
theorem r_load_4_no (M : zMm) (h : M.1 103 4 = -9) : yOk 140 0 [(0, .ref 93), (1, .int 4)] [] M (some (.int (-1))) M := by
  refine yOk.adv 4 (pc' := 6) (lv' := [(0, .ref 93), (1, .int 4)]) (st' := [.long 5, .long 0, .long 4]) (M' := M) rfl ?_
  refine yOk.call (M1 := M) _ rfl rfl rfl rfl rfl (r_withinV M 4 0 5 0 5 rfl rfl 1 (Or.inl ⟨by decide, rfl⟩)) ?_
  show yOk 140 9 [(0, .ref 93), (1, .int 4)] [.int 1] M _ _
  refine yOk.if1 .eq _ _ _ _ rfl (fun c1 => ?_) (fun c1 => ?_)
  · exact absurd c1 (by decide)
  · refine yOk.adv 4 (pc' := 18) (lv' := [(0, .ref 93), (1, .int 4)]) (st' := [.int (M.1 103 4)]) (M' := M) rfl ?_
    rw [h]
    refine yOk.adv 1 (pc' := 20) (lv' := [(0, .ref 93), (1, .int 4)]) (st' := [.int (-9), .int (-9)]) (M' := M) rfl ?_
    refine yOk.if2 .ne _ _ _ _ rfl (fun c2 => ?_) (fun c2 => ?_)
    · exact absurd c2 (by decide)
    · refine yOk.adv 1 (pc' := 24) (lv' := [(0, .ref 93), (1, .int 4)]) (st' := [.int (-1)]) (M' := M) rfl ?_
      exact yOk.ret _ rfl rfl rfl
theorem r_load_4 (M : zMm) (n : Nat) (hk : M.1 103 4 = nI n) (hn : n ≤ 24) : yOk 140 0 [(0, .ref 93), (1, .int 4)] [] M (some (.int (nI n))) (zldM (zup (zup (zup (zup M 93 7 (nI n)) 93 4 (M.1 104 4)) 93 5 (M.1 105 4)) 93 6 (M.1 106 4)) 96 n) := by
  refine yOk.adv 4 (pc' := 6) (lv' := [(0, .ref 93), (1, .int 4)]) (st' := [.long 5, .long 0, .long 4]) (M' := M) rfl ?_
  refine yOk.call (M1 := M) _ rfl rfl rfl rfl rfl (r_withinV M 4 0 5 0 5 rfl rfl 1 (Or.inl ⟨by decide, rfl⟩)) ?_
  show yOk 140 9 [(0, .ref 93), (1, .int 4)] [.int 1] M _ _
  refine yOk.if1 .eq _ _ _ _ rfl (fun c1 => ?_) (fun c1 => ?_)
  · exact absurd c1 (by decide)
  · refine yOk.adv 4 (pc' := 18) (lv' := [(0, .ref 93), (1, .int 4)]) (st' := [.int (M.1 103 4)]) (M' := M) rfl ?_
    rw [hk]
    refine yOk.adv 1 (pc' := 20) (lv' := [(0, .ref 93), (1, .int 4)]) (st' := [.int (-9), .int (nI n)]) (M' := M) rfl ?_
    refine yOk.if2 .ne _ _ _ _ rfl (fun c2 => ?_) (fun c2 => ?_)
    · refine yOk.adv 5 (pc' := 32) (lv' := [(0, .ref 93), (1, .int 4)]) (st' := [.int (M.1 103 4), .ref 93]) (M' := M) rfl ?_
      rw [hk]
      refine yOk.adv 6 (pc' := 42) (lv' := [(0, .ref 93), (1, .int 4)]) (st' := [.int ((zup M 93 7 (nI n)).1 104 4), .ref 93]) (M' := zup M 93 7 (nI n)) rfl ?_
      have e1 : (zup M 93 7 (nI n)).1 104 4 = M.1 104 4 := by unfold zup; simp
      rw [e1]
      refine yOk.adv 6 (pc' := 52) (lv' := [(0, .ref 93), (1, .int 4)]) (st' := [.int ((zup (zup M 93 7 (nI n)) 93 4 (M.1 104 4)).1 105 4), .ref 93]) (M' := zup (zup M 93 7 (nI n)) 93 4 (M.1 104 4)) rfl ?_
      have e2 : (zup (zup M 93 7 (nI n)) 93 4 (M.1 104 4)).1 105 4 = M.1 105 4 := by unfold zup; simp
      rw [e2]
      refine yOk.adv 6 (pc' := 62) (lv' := [(0, .ref 93), (1, .int 4)]) (st' := [.int ((zup (zup (zup M 93 7 (nI n)) 93 4 (M.1 104 4)) 93 5 (M.1 105 4)).1 106 4), .ref 93]) (M' := zup (zup (zup M 93 7 (nI n)) 93 4 (M.1 104 4)) 93 5 (M.1 105 4)) rfl ?_
      have e3 : (zup (zup (zup M 93 7 (nI n)) 93 4 (M.1 104 4)) 93 5 (M.1 105 4)).1 106 4 = M.1 106 4 := by unfold zup; simp
      rw [e3]
      refine yOk.adv 3 (pc' := 67) (lv' := [(2, .int 0), (0, .ref 93), (1, .int 4)]) (st' := []) (M' := zup (zup (zup (zup M 93 7 (nI n)) 93 4 (M.1 104 4)) 93 5 (M.1 105 4)) 93 6 (M.1 106 4)) rfl ?_
      have e4 : (zup (zup (zup (zup M 93 7 (nI n)) 93 4 (M.1 104 4)) 93 5 (M.1 105 4)) 93 6 (M.1 106 4)).1 93 7 = nI n := by unfold zup; simp
      have h := r_load_4_loop (zup (zup (zup (zup M 93 7 (nI n)) 93 4 (M.1 104 4)) 93 5 (M.1 105 4)) 93 6 (M.1 106 4)) n e4 hn n 0 (by omega)
      rw [zldM_0] at h
      exact h.drop (by refine ⟨?_, ?_⟩ <;> simp [zget, zwf, nI])
    · exact absurd (zne_f c2) (nI_nm9 n (by omega))
theorem r_load_5_loop (M : zMm) (n : Nat) (hs : M.1 93 7 = nI n) (hn : n ≤ 24) : ∀ (d i : Nat), i + d = n → yOk 140 67 [(0, .ref 93), (1, .int 5), (2, .int (nI i))] [] (zldM M 120 i) (some (.int (nI n))) (zldM M 120 n)
  | 0, i, h => by
    have : i = n := by omega
    subst this
    have e : (zldM M 120 i).1 93 7 = nI i := (zldM_at M 120 i 93 7 (by decide) (by decide) (by decide)).trans hs
    refine yOk.adv 3 (pc' := 72) (lv' := [(0, .ref 93), (1, .int 5), (2, .int (nI i))]) (st' := [.int ((zldM M 120 i).1 93 7), .int (nI i)]) (M' := zldM M 120 i) rfl ?_
    rw [e]
    refine yOk.if2 .ge _ _ _ _ rfl (fun c1 => ?_) (fun c1 => ?_)
    · refine yOk.adv 2 (pc' := 136) (lv' := [(0, .ref 93), (1, .int 5), (2, .int (nI i))]) (st' := [.int ((zldM M 120 i).1 93 7)]) (M' := zldM M 120 i) rfl ?_
      rw [e]
      exact yOk.ret _ rfl rfl rfl
    · exact absurd (zge_f c1) (nI_nlt (by omega) (by omega))
  | d + 1, i, h => by
    have e : (zldM M 120 i).1 93 7 = nI n := (zldM_at M 120 i 93 7 (by decide) (by decide) (by decide)).trans hs
    have ci : (nI i).toNatClampNeg = i := nI_clamp (by omega)
    have ck : (nI (120 + i)).toNatClampNeg = 120 + i := nI_clamp (by omega)
    have hin : zin (nI i) 24 = true := zin_nI (by omega) (by omega)
    have hin2 : zin (nI (120 + i)) 144 = true := zin_nI (by omega) (by omega)
    have hix : (24 * 5 : Int32) + nI i = nI (120 + i) := nI_add 120 i
    refine yOk.adv 3 (pc' := 72) (lv' := [(0, .ref 93), (1, .int 5), (2, .int (nI i))]) (st' := [.int ((zldM M 120 i).1 93 7), .int (nI i)]) (M' := zldM M 120 i) rfl ?_
    rw [e]
    refine yOk.if2 .ge _ _ _ _ rfl (fun c1 => ?_) (fun c1 => ?_)
    · exact absurd (nI_lt (show i < n by omega) (by omega)) (zge_t c1)
    · refine yOk.adv 10 (pc' := 90) (lv' := [(0, .ref 93), (1, .int 5), (2, .int (nI i))]) (st' := [.int ((24 * 5) + (nI i)), .ref 107, .int (nI i), .ref 94]) (M' := zldM M 120 i) rfl ?_
      rw [hix]
      refine yOk.iald _ _ _ rfl rfl (hin2) ?_
      rw [ck, zldM_at M 120 i 107 (120 + i) (by decide) (by decide) (by decide)]
      refine yOk.iast _ _ _ rfl rfl (hin) ?_
      rw [ci]
      refine yOk.adv 10 (pc' := 107) (lv' := [(0, .ref 93), (1, .int 5), (2, .int (nI i))]) (st' := [.int ((24 * 5) + (nI i)), .ref 108, .int (nI i), .ref 95]) (M' := zup (zldM M 120 i) 94 i (M.1 107 (120 + i))) rfl ?_
      rw [hix]
      refine yOk.iald _ _ _ rfl rfl (hin2) ?_
      have e5 : (zup (zldM M 120 i) 94 i (M.1 107 (120 + i))).1 108 (nI (120 + i)).toNatClampNeg = M.1 108 (120 + i) := by
        rw [ck, ← zldM_at M 120 i 108 (120 + i) (by decide) (by decide) (by decide)]; unfold zup; simp
      rw [e5]
      refine yOk.iast _ _ _ rfl rfl (hin) ?_
      rw [ci]
      refine yOk.adv 10 (pc' := 124) (lv' := [(0, .ref 93), (1, .int 5), (2, .int (nI i))]) (st' := [.int ((24 * 5) + (nI i)), .ref 109, .int (nI i), .ref 96]) (M' := zup (zup (zldM M 120 i) 94 i (M.1 107 (120 + i))) 95 i (M.1 108 (120 + i))) rfl ?_
      rw [hix]
      refine yOk.iald _ _ _ rfl rfl (hin2) ?_
      have e6 : (zup (zup (zldM M 120 i) 94 i (M.1 107 (120 + i))) 95 i (M.1 108 (120 + i))).1 109 (nI (120 + i)).toNatClampNeg = M.1 109 (120 + i) := by
        rw [ck, ← zldM_at M 120 i 109 (120 + i) (by decide) (by decide) (by decide)]; unfold zup; simp
      rw [e6]
      refine yOk.iast _ _ _ rfl rfl (hin) ?_
      rw [ci, zldM_s]
      refine yOk.adv 2 (pc' := 67) (lv' := [(2, .int (nI i + 1)), (0, .ref 93), (1, .int 5)]) (st' := []) (M' := zldM M 120 (i + 1)) rfl ?_
      have ih := r_load_5_loop M n hs hn d (i + 1) (by omega)
      rw [nI_succ] at ih
      exact ih.drop (by refine ⟨?_, ?_⟩ <;> simp [zget, zwf])
theorem r_load_5_no (M : zMm) (h : M.1 103 5 = -9) : yOk 140 0 [(0, .ref 93), (1, .int 5)] [] M (some (.int (-1))) M := by
  refine yOk.adv 4 (pc' := 6) (lv' := [(0, .ref 93), (1, .int 5)]) (st' := [.long 5, .long 0, .long 5]) (M' := M) rfl ?_
  refine yOk.call (M1 := M) _ rfl rfl rfl rfl rfl (r_withinV M 5 0 5 0 5 rfl rfl 1 (Or.inl ⟨by decide, rfl⟩)) ?_
  show yOk 140 9 [(0, .ref 93), (1, .int 5)] [.int 1] M _ _
  refine yOk.if1 .eq _ _ _ _ rfl (fun c1 => ?_) (fun c1 => ?_)
  · exact absurd c1 (by decide)
  · refine yOk.adv 4 (pc' := 18) (lv' := [(0, .ref 93), (1, .int 5)]) (st' := [.int (M.1 103 5)]) (M' := M) rfl ?_
    rw [h]
    refine yOk.adv 1 (pc' := 20) (lv' := [(0, .ref 93), (1, .int 5)]) (st' := [.int (-9), .int (-9)]) (M' := M) rfl ?_
    refine yOk.if2 .ne _ _ _ _ rfl (fun c2 => ?_) (fun c2 => ?_)
    · exact absurd c2 (by decide)
    · refine yOk.adv 1 (pc' := 24) (lv' := [(0, .ref 93), (1, .int 5)]) (st' := [.int (-1)]) (M' := M) rfl ?_
      exact yOk.ret _ rfl rfl rfl
theorem r_load_5 (M : zMm) (n : Nat) (hk : M.1 103 5 = nI n) (hn : n ≤ 24) : yOk 140 0 [(0, .ref 93), (1, .int 5)] [] M (some (.int (nI n))) (zldM (zup (zup (zup (zup M 93 7 (nI n)) 93 4 (M.1 104 5)) 93 5 (M.1 105 5)) 93 6 (M.1 106 5)) 120 n) := by
  refine yOk.adv 4 (pc' := 6) (lv' := [(0, .ref 93), (1, .int 5)]) (st' := [.long 5, .long 0, .long 5]) (M' := M) rfl ?_
  refine yOk.call (M1 := M) _ rfl rfl rfl rfl rfl (r_withinV M 5 0 5 0 5 rfl rfl 1 (Or.inl ⟨by decide, rfl⟩)) ?_
  show yOk 140 9 [(0, .ref 93), (1, .int 5)] [.int 1] M _ _
  refine yOk.if1 .eq _ _ _ _ rfl (fun c1 => ?_) (fun c1 => ?_)
  · exact absurd c1 (by decide)
  · refine yOk.adv 4 (pc' := 18) (lv' := [(0, .ref 93), (1, .int 5)]) (st' := [.int (M.1 103 5)]) (M' := M) rfl ?_
    rw [hk]
    refine yOk.adv 1 (pc' := 20) (lv' := [(0, .ref 93), (1, .int 5)]) (st' := [.int (-9), .int (nI n)]) (M' := M) rfl ?_
    refine yOk.if2 .ne _ _ _ _ rfl (fun c2 => ?_) (fun c2 => ?_)
    · refine yOk.adv 5 (pc' := 32) (lv' := [(0, .ref 93), (1, .int 5)]) (st' := [.int (M.1 103 5), .ref 93]) (M' := M) rfl ?_
      rw [hk]
      refine yOk.adv 6 (pc' := 42) (lv' := [(0, .ref 93), (1, .int 5)]) (st' := [.int ((zup M 93 7 (nI n)).1 104 5), .ref 93]) (M' := zup M 93 7 (nI n)) rfl ?_
      have e1 : (zup M 93 7 (nI n)).1 104 5 = M.1 104 5 := by unfold zup; simp
      rw [e1]
      refine yOk.adv 6 (pc' := 52) (lv' := [(0, .ref 93), (1, .int 5)]) (st' := [.int ((zup (zup M 93 7 (nI n)) 93 4 (M.1 104 5)).1 105 5), .ref 93]) (M' := zup (zup M 93 7 (nI n)) 93 4 (M.1 104 5)) rfl ?_
      have e2 : (zup (zup M 93 7 (nI n)) 93 4 (M.1 104 5)).1 105 5 = M.1 105 5 := by unfold zup; simp
      rw [e2]
      refine yOk.adv 6 (pc' := 62) (lv' := [(0, .ref 93), (1, .int 5)]) (st' := [.int ((zup (zup (zup M 93 7 (nI n)) 93 4 (M.1 104 5)) 93 5 (M.1 105 5)).1 106 5), .ref 93]) (M' := zup (zup (zup M 93 7 (nI n)) 93 4 (M.1 104 5)) 93 5 (M.1 105 5)) rfl ?_
      have e3 : (zup (zup (zup M 93 7 (nI n)) 93 4 (M.1 104 5)) 93 5 (M.1 105 5)).1 106 5 = M.1 106 5 := by unfold zup; simp
      rw [e3]
      refine yOk.adv 3 (pc' := 67) (lv' := [(2, .int 0), (0, .ref 93), (1, .int 5)]) (st' := []) (M' := zup (zup (zup (zup M 93 7 (nI n)) 93 4 (M.1 104 5)) 93 5 (M.1 105 5)) 93 6 (M.1 106 5)) rfl ?_
      have e4 : (zup (zup (zup (zup M 93 7 (nI n)) 93 4 (M.1 104 5)) 93 5 (M.1 105 5)) 93 6 (M.1 106 5)).1 93 7 = nI n := by unfold zup; simp
      have h := r_load_5_loop (zup (zup (zup (zup M 93 7 (nI n)) 93 4 (M.1 104 5)) 93 5 (M.1 105 5)) 93 6 (M.1 106 5)) n e4 hn n 0 (by omega)
      rw [zldM_0] at h
      exact h.drop (by refine ⟨?_, ?_⟩ <;> simp [zget, zwf, nI])
    · exact absurd (zne_f c2) (nI_nm9 n (by omega))
