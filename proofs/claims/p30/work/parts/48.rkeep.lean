/-! ===== keep of the reference ===== -/
def zkpM (M : zMm) (o i : Nat) : zMm := (fun a j => if (a = 107 ∨ a = 108 ∨ a = 109) ∧ o ≤ j ∧ j < o + i then M.1 (a - 13) (j - o) else M.1 a j, M.2)
theorem zkpM_0 (M : zMm) (o : Nat) : zkpM M o 0 = M := by
  unfold zkpM
  have : (fun a j => if (a = 107 ∨ a = 108 ∨ a = 109) ∧ o ≤ j ∧ j < o + 0 then M.1 (a - 13) (j - o) else M.1 a j) = M.1 := by
    funext a j
    rw [if_neg (by omega)]
  rw [this]
theorem zkpM_s (M : zMm) (o i : Nat) : zup (zup (zup (zkpM M o i) 107 (o + i) (M.1 94 i)) 108 (o + i) (M.1 95 i)) 109 (o + i) (M.1 96 i) = zkpM M o (i + 1) := by
  unfold zup zkpM
  congr 1
  funext a j
  dsimp only
  by_cases hj : j = o + i
  · subst hj
    by_cases h1 : a = 109
    · subst h1; simp
    · by_cases h2 : a = 108
      · subst h2; simp
      · by_cases h3 : a = 107
        · subst h3; simp
        · simp [h1, h2, h3]
  · simp only [hj, and_false, if_false]
    by_cases hc : (a = 107 ∨ a = 108 ∨ a = 109) ∧ o ≤ j ∧ j < o + i
    · rw [if_pos hc, if_pos ⟨hc.1, hc.2.1, by omega⟩]
    · rw [if_neg hc, if_neg (fun q => hc ⟨q.1, q.2.1, by omega⟩)]
theorem zkpM_at (M : zMm) (o i a j : Nat) (h1 : a ≠ 107) (h2 : a ≠ 108) (h3 : a ≠ 109) : (zkpM M o i).1 a j = M.1 a j := by
  unfold zkpM
  dsimp only
  rw [if_neg (fun q => q.1.elim h1 (fun q => q.elim h2 h3))]
theorem r_keep_no (M : zMm) (k : Int32) (h : ¬ (0 ≤ k.toInt ∧ k.toInt ≤ 5)) : yOk 139 0 [(0, .ref 93), (1, .int k)] [] M (some (.int (-1))) M := by
  refine yOk.adv 4 (pc' := 6) (lv' := [(0, .ref 93), (1, .int k)]) (st' := [.long 5, .long 0, .long k.toInt64]) (M' := M) rfl ?_
  refine yOk.call (M1 := M) _ rfl rfl rfl rfl rfl (r_withinV M k.toInt64 0 5 0 5 rfl rfl 0 (Or.inr ⟨by rw [Kit.i64_of_i32]; exact h, rfl⟩)) ?_
  show yOk 139 9 [(0, .ref 93), (1, .int k)] [.int 0] M _ _
  refine yOk.if1 .ne _ _ _ _ rfl (fun c1 => ?_) (fun c1 => ?_)
  · exact absurd c1 (by decide)
  · refine yOk.adv 1 (pc' := 13) (lv' := [(0, .ref 93), (1, .int k)]) (st' := [.int (-1)]) (M' := M) rfl ?_
    exact yOk.ret _ rfl rfl rfl
theorem r_keep_0_loop (M : zMm) (n : Nat) (hs : M.1 93 7 = nI n) (hn : n ≤ 24) : ∀ (d i : Nat), i + d = n → yOk 139 56 [(0, .ref 93), (1, .int 0), (2, .int (nI i))] [] (zkpM M 0 i) (some (.int (nI n))) (zkpM M 0 n)
  | 0, i, h => by
    have : i = n := by omega
    subst this
    have e : (zkpM M 0 i).1 93 7 = nI i := (zkpM_at M 0 i 93 7 (by decide) (by decide) (by decide)).trans hs
    refine yOk.adv 3 (pc' := 61) (lv' := [(0, .ref 93), (1, .int 0), (2, .int (nI i))]) (st' := [.int ((zkpM M 0 i).1 93 7), .int (nI i)]) (M' := zkpM M 0 i) rfl ?_
    rw [e]
    refine yOk.if2 .ge _ _ _ _ rfl (fun c1 => ?_) (fun c1 => ?_)
    · refine yOk.adv 2 (pc' := 125) (lv' := [(0, .ref 93), (1, .int 0), (2, .int (nI i))]) (st' := [.int ((zkpM M 0 i).1 93 7)]) (M' := zkpM M 0 i) rfl ?_
      rw [e]
      exact yOk.ret _ rfl rfl rfl
    · exact absurd (zge_f c1) (nI_nlt (by omega) (by omega))
  | d + 1, i, h => by
    have e : (zkpM M 0 i).1 93 7 = nI n := (zkpM_at M 0 i 93 7 (by decide) (by decide) (by decide)).trans hs
    have ci : (nI i).toNatClampNeg = i := nI_clamp (by omega)
    have ck : (nI (0 + i)).toNatClampNeg = 0 + i := nI_clamp (by omega)
    have hin : zin (nI i) 24 = true := zin_nI (by omega) (by omega)
    have hin2 : zin (nI (0 + i)) 144 = true := zin_nI (by omega) (by omega)
    have hix : (24 * 0 : Int32) + nI i = nI (0 + i) := nI_add 0 i
    refine yOk.adv 3 (pc' := 61) (lv' := [(0, .ref 93), (1, .int 0), (2, .int (nI i))]) (st' := [.int ((zkpM M 0 i).1 93 7), .int (nI i)]) (M' := zkpM M 0 i) rfl ?_
    rw [e]
    refine yOk.if2 .ge _ _ _ _ rfl (fun c1 => ?_) (fun c1 => ?_)
    · exact absurd (nI_lt (show i < n by omega) (by omega)) (zge_t c1)
    · refine yOk.adv 7 (pc' := 74) (lv' := [(0, .ref 93), (1, .int 0), (2, .int (nI i))]) (st' := [.int ((24 * 0) + (nI i)), .ref 107]) (M' := zkpM M 0 i) rfl ?_
      rw [hix]
      refine yOk.adv 3 (pc' := 79) (lv' := [(0, .ref 93), (1, .int 0), (2, .int (nI i))]) (st' := [.int (nI i), .ref 94, .int (nI (0 + i)), .ref 107]) (M' := zkpM M 0 i) rfl ?_
      refine yOk.iald _ _ _ rfl rfl (hin) ?_
      rw [ci, zkpM_at M 0 i 94 i (by decide) (by decide) (by decide)]
      refine yOk.iast _ _ _ rfl rfl (hin2) ?_
      rw [ck]
      refine yOk.adv 7 (pc' := 91) (lv' := [(0, .ref 93), (1, .int 0), (2, .int (nI i))]) (st' := [.int ((24 * 0) + (nI i)), .ref 108]) (M' := zup (zkpM M 0 i) 107 (0 + i) (M.1 94 i)) rfl ?_
      rw [hix]
      refine yOk.adv 3 (pc' := 96) (lv' := [(0, .ref 93), (1, .int 0), (2, .int (nI i))]) (st' := [.int (nI i), .ref 95, .int (nI (0 + i)), .ref 108]) (M' := zup (zkpM M 0 i) 107 (0 + i) (M.1 94 i)) rfl ?_
      refine yOk.iald _ _ _ rfl rfl (hin) ?_
      have e5 : (zup (zkpM M 0 i) 107 (0 + i) (M.1 94 i)).1 95 (nI i).toNatClampNeg = M.1 95 i := by
        rw [ci, ← zkpM_at M 0 i 95 i (by decide) (by decide) (by decide)]; unfold zup; simp
      rw [e5]
      refine yOk.iast _ _ _ rfl rfl (hin2) ?_
      rw [ck]
      refine yOk.adv 7 (pc' := 108) (lv' := [(0, .ref 93), (1, .int 0), (2, .int (nI i))]) (st' := [.int ((24 * 0) + (nI i)), .ref 109]) (M' := zup (zup (zkpM M 0 i) 107 (0 + i) (M.1 94 i)) 108 (0 + i) (M.1 95 i)) rfl ?_
      rw [hix]
      refine yOk.adv 3 (pc' := 113) (lv' := [(0, .ref 93), (1, .int 0), (2, .int (nI i))]) (st' := [.int (nI i), .ref 96, .int (nI (0 + i)), .ref 109]) (M' := zup (zup (zkpM M 0 i) 107 (0 + i) (M.1 94 i)) 108 (0 + i) (M.1 95 i)) rfl ?_
      refine yOk.iald _ _ _ rfl rfl (hin) ?_
      have e6 : (zup (zup (zkpM M 0 i) 107 (0 + i) (M.1 94 i)) 108 (0 + i) (M.1 95 i)).1 96 (nI i).toNatClampNeg = M.1 96 i := by
        rw [ci, ← zkpM_at M 0 i 96 i (by decide) (by decide) (by decide)]; unfold zup; simp
      rw [e6]
      refine yOk.iast _ _ _ rfl rfl (hin2) ?_
      rw [ck, zkpM_s]
      refine yOk.adv 2 (pc' := 56) (lv' := [(2, .int (nI i + 1)), (0, .ref 93), (1, .int 0)]) (st' := []) (M' := zkpM M 0 (i + 1)) rfl ?_
      have ih := r_keep_0_loop M n hs hn d (i + 1) (by omega)
      rw [nI_succ] at ih
      exact ih.drop (by refine ⟨?_, ?_⟩ <;> simp [zget, zwf])
theorem r_keep_1_loop (M : zMm) (n : Nat) (hs : M.1 93 7 = nI n) (hn : n ≤ 24) : ∀ (d i : Nat), i + d = n → yOk 139 56 [(0, .ref 93), (1, .int 1), (2, .int (nI i))] [] (zkpM M 24 i) (some (.int (nI n))) (zkpM M 24 n)
  | 0, i, h => by
    have : i = n := by omega
    subst this
    have e : (zkpM M 24 i).1 93 7 = nI i := (zkpM_at M 24 i 93 7 (by decide) (by decide) (by decide)).trans hs
    refine yOk.adv 3 (pc' := 61) (lv' := [(0, .ref 93), (1, .int 1), (2, .int (nI i))]) (st' := [.int ((zkpM M 24 i).1 93 7), .int (nI i)]) (M' := zkpM M 24 i) rfl ?_
    rw [e]
    refine yOk.if2 .ge _ _ _ _ rfl (fun c1 => ?_) (fun c1 => ?_)
    · refine yOk.adv 2 (pc' := 125) (lv' := [(0, .ref 93), (1, .int 1), (2, .int (nI i))]) (st' := [.int ((zkpM M 24 i).1 93 7)]) (M' := zkpM M 24 i) rfl ?_
      rw [e]
      exact yOk.ret _ rfl rfl rfl
    · exact absurd (zge_f c1) (nI_nlt (by omega) (by omega))
  | d + 1, i, h => by
    have e : (zkpM M 24 i).1 93 7 = nI n := (zkpM_at M 24 i 93 7 (by decide) (by decide) (by decide)).trans hs
    have ci : (nI i).toNatClampNeg = i := nI_clamp (by omega)
    have ck : (nI (24 + i)).toNatClampNeg = 24 + i := nI_clamp (by omega)
    have hin : zin (nI i) 24 = true := zin_nI (by omega) (by omega)
    have hin2 : zin (nI (24 + i)) 144 = true := zin_nI (by omega) (by omega)
    have hix : (24 * 1 : Int32) + nI i = nI (24 + i) := nI_add 24 i
    refine yOk.adv 3 (pc' := 61) (lv' := [(0, .ref 93), (1, .int 1), (2, .int (nI i))]) (st' := [.int ((zkpM M 24 i).1 93 7), .int (nI i)]) (M' := zkpM M 24 i) rfl ?_
    rw [e]
    refine yOk.if2 .ge _ _ _ _ rfl (fun c1 => ?_) (fun c1 => ?_)
    · exact absurd (nI_lt (show i < n by omega) (by omega)) (zge_t c1)
    · refine yOk.adv 7 (pc' := 74) (lv' := [(0, .ref 93), (1, .int 1), (2, .int (nI i))]) (st' := [.int ((24 * 1) + (nI i)), .ref 107]) (M' := zkpM M 24 i) rfl ?_
      rw [hix]
      refine yOk.adv 3 (pc' := 79) (lv' := [(0, .ref 93), (1, .int 1), (2, .int (nI i))]) (st' := [.int (nI i), .ref 94, .int (nI (24 + i)), .ref 107]) (M' := zkpM M 24 i) rfl ?_
      refine yOk.iald _ _ _ rfl rfl (hin) ?_
      rw [ci, zkpM_at M 24 i 94 i (by decide) (by decide) (by decide)]
      refine yOk.iast _ _ _ rfl rfl (hin2) ?_
      rw [ck]
      refine yOk.adv 7 (pc' := 91) (lv' := [(0, .ref 93), (1, .int 1), (2, .int (nI i))]) (st' := [.int ((24 * 1) + (nI i)), .ref 108]) (M' := zup (zkpM M 24 i) 107 (24 + i) (M.1 94 i)) rfl ?_
      rw [hix]
      refine yOk.adv 3 (pc' := 96) (lv' := [(0, .ref 93), (1, .int 1), (2, .int (nI i))]) (st' := [.int (nI i), .ref 95, .int (nI (24 + i)), .ref 108]) (M' := zup (zkpM M 24 i) 107 (24 + i) (M.1 94 i)) rfl ?_
      refine yOk.iald _ _ _ rfl rfl (hin) ?_
      have e5 : (zup (zkpM M 24 i) 107 (24 + i) (M.1 94 i)).1 95 (nI i).toNatClampNeg = M.1 95 i := by
        rw [ci, ← zkpM_at M 24 i 95 i (by decide) (by decide) (by decide)]; unfold zup; simp
      rw [e5]
      refine yOk.iast _ _ _ rfl rfl (hin2) ?_
      rw [ck]
      refine yOk.adv 7 (pc' := 108) (lv' := [(0, .ref 93), (1, .int 1), (2, .int (nI i))]) (st' := [.int ((24 * 1) + (nI i)), .ref 109]) (M' := zup (zup (zkpM M 24 i) 107 (24 + i) (M.1 94 i)) 108 (24 + i) (M.1 95 i)) rfl ?_
      rw [hix]
      refine yOk.adv 3 (pc' := 113) (lv' := [(0, .ref 93), (1, .int 1), (2, .int (nI i))]) (st' := [.int (nI i), .ref 96, .int (nI (24 + i)), .ref 109]) (M' := zup (zup (zkpM M 24 i) 107 (24 + i) (M.1 94 i)) 108 (24 + i) (M.1 95 i)) rfl ?_
      refine yOk.iald _ _ _ rfl rfl (hin) ?_
      have e6 : (zup (zup (zkpM M 24 i) 107 (24 + i) (M.1 94 i)) 108 (24 + i) (M.1 95 i)).1 96 (nI i).toNatClampNeg = M.1 96 i := by
        rw [ci, ← zkpM_at M 24 i 96 i (by decide) (by decide) (by decide)]; unfold zup; simp
      rw [e6]
      refine yOk.iast _ _ _ rfl rfl (hin2) ?_
      rw [ck, zkpM_s]
      refine yOk.adv 2 (pc' := 56) (lv' := [(2, .int (nI i + 1)), (0, .ref 93), (1, .int 1)]) (st' := []) (M' := zkpM M 24 (i + 1)) rfl ?_
      have ih := r_keep_1_loop M n hs hn d (i + 1) (by omega)
      rw [nI_succ] at ih
      exact ih.drop (by refine ⟨?_, ?_⟩ <;> simp [zget, zwf])
theorem r_keep_2_loop (M : zMm) (n : Nat) (hs : M.1 93 7 = nI n) (hn : n ≤ 24) : ∀ (d i : Nat), i + d = n → yOk 139 56 [(0, .ref 93), (1, .int 2), (2, .int (nI i))] [] (zkpM M 48 i) (some (.int (nI n))) (zkpM M 48 n)
  | 0, i, h => by
    have : i = n := by omega
    subst this
    have e : (zkpM M 48 i).1 93 7 = nI i := (zkpM_at M 48 i 93 7 (by decide) (by decide) (by decide)).trans hs
    refine yOk.adv 3 (pc' := 61) (lv' := [(0, .ref 93), (1, .int 2), (2, .int (nI i))]) (st' := [.int ((zkpM M 48 i).1 93 7), .int (nI i)]) (M' := zkpM M 48 i) rfl ?_
    rw [e]
    refine yOk.if2 .ge _ _ _ _ rfl (fun c1 => ?_) (fun c1 => ?_)
    · refine yOk.adv 2 (pc' := 125) (lv' := [(0, .ref 93), (1, .int 2), (2, .int (nI i))]) (st' := [.int ((zkpM M 48 i).1 93 7)]) (M' := zkpM M 48 i) rfl ?_
      rw [e]
      exact yOk.ret _ rfl rfl rfl
    · exact absurd (zge_f c1) (nI_nlt (by omega) (by omega))
  | d + 1, i, h => by
    have e : (zkpM M 48 i).1 93 7 = nI n := (zkpM_at M 48 i 93 7 (by decide) (by decide) (by decide)).trans hs
    have ci : (nI i).toNatClampNeg = i := nI_clamp (by omega)
    have ck : (nI (48 + i)).toNatClampNeg = 48 + i := nI_clamp (by omega)
    have hin : zin (nI i) 24 = true := zin_nI (by omega) (by omega)
    have hin2 : zin (nI (48 + i)) 144 = true := zin_nI (by omega) (by omega)
    have hix : (24 * 2 : Int32) + nI i = nI (48 + i) := nI_add 48 i
    refine yOk.adv 3 (pc' := 61) (lv' := [(0, .ref 93), (1, .int 2), (2, .int (nI i))]) (st' := [.int ((zkpM M 48 i).1 93 7), .int (nI i)]) (M' := zkpM M 48 i) rfl ?_
    rw [e]
    refine yOk.if2 .ge _ _ _ _ rfl (fun c1 => ?_) (fun c1 => ?_)
    · exact absurd (nI_lt (show i < n by omega) (by omega)) (zge_t c1)
    · refine yOk.adv 7 (pc' := 74) (lv' := [(0, .ref 93), (1, .int 2), (2, .int (nI i))]) (st' := [.int ((24 * 2) + (nI i)), .ref 107]) (M' := zkpM M 48 i) rfl ?_
      rw [hix]
      refine yOk.adv 3 (pc' := 79) (lv' := [(0, .ref 93), (1, .int 2), (2, .int (nI i))]) (st' := [.int (nI i), .ref 94, .int (nI (48 + i)), .ref 107]) (M' := zkpM M 48 i) rfl ?_
      refine yOk.iald _ _ _ rfl rfl (hin) ?_
      rw [ci, zkpM_at M 48 i 94 i (by decide) (by decide) (by decide)]
      refine yOk.iast _ _ _ rfl rfl (hin2) ?_
      rw [ck]
      refine yOk.adv 7 (pc' := 91) (lv' := [(0, .ref 93), (1, .int 2), (2, .int (nI i))]) (st' := [.int ((24 * 2) + (nI i)), .ref 108]) (M' := zup (zkpM M 48 i) 107 (48 + i) (M.1 94 i)) rfl ?_
      rw [hix]
      refine yOk.adv 3 (pc' := 96) (lv' := [(0, .ref 93), (1, .int 2), (2, .int (nI i))]) (st' := [.int (nI i), .ref 95, .int (nI (48 + i)), .ref 108]) (M' := zup (zkpM M 48 i) 107 (48 + i) (M.1 94 i)) rfl ?_
      refine yOk.iald _ _ _ rfl rfl (hin) ?_
      have e5 : (zup (zkpM M 48 i) 107 (48 + i) (M.1 94 i)).1 95 (nI i).toNatClampNeg = M.1 95 i := by
        rw [ci, ← zkpM_at M 48 i 95 i (by decide) (by decide) (by decide)]; unfold zup; simp
      rw [e5]
      refine yOk.iast _ _ _ rfl rfl (hin2) ?_
      rw [ck]
      refine yOk.adv 7 (pc' := 108) (lv' := [(0, .ref 93), (1, .int 2), (2, .int (nI i))]) (st' := [.int ((24 * 2) + (nI i)), .ref 109]) (M' := zup (zup (zkpM M 48 i) 107 (48 + i) (M.1 94 i)) 108 (48 + i) (M.1 95 i)) rfl ?_
      rw [hix]
      refine yOk.adv 3 (pc' := 113) (lv' := [(0, .ref 93), (1, .int 2), (2, .int (nI i))]) (st' := [.int (nI i), .ref 96, .int (nI (48 + i)), .ref 109]) (M' := zup (zup (zkpM M 48 i) 107 (48 + i) (M.1 94 i)) 108 (48 + i) (M.1 95 i)) rfl ?_
      refine yOk.iald _ _ _ rfl rfl (hin) ?_
      have e6 : (zup (zup (zkpM M 48 i) 107 (48 + i) (M.1 94 i)) 108 (48 + i) (M.1 95 i)).1 96 (nI i).toNatClampNeg = M.1 96 i := by
        rw [ci, ← zkpM_at M 48 i 96 i (by decide) (by decide) (by decide)]; unfold zup; simp
      rw [e6]
      refine yOk.iast _ _ _ rfl rfl (hin2) ?_
      rw [ck, zkpM_s]
      refine yOk.adv 2 (pc' := 56) (lv' := [(2, .int (nI i + 1)), (0, .ref 93), (1, .int 2)]) (st' := []) (M' := zkpM M 48 (i + 1)) rfl ?_
      have ih := r_keep_2_loop M n hs hn d (i + 1) (by omega)
      rw [nI_succ] at ih
      exact ih.drop (by refine ⟨?_, ?_⟩ <;> simp [zget, zwf])
theorem r_keep_3_loop (M : zMm) (n : Nat) (hs : M.1 93 7 = nI n) (hn : n ≤ 24) : ∀ (d i : Nat), i + d = n → yOk 139 56 [(0, .ref 93), (1, .int 3), (2, .int (nI i))] [] (zkpM M 72 i) (some (.int (nI n))) (zkpM M 72 n)
  | 0, i, h => by
    have : i = n := by omega
    subst this
    have e : (zkpM M 72 i).1 93 7 = nI i := (zkpM_at M 72 i 93 7 (by decide) (by decide) (by decide)).trans hs
    refine yOk.adv 3 (pc' := 61) (lv' := [(0, .ref 93), (1, .int 3), (2, .int (nI i))]) (st' := [.int ((zkpM M 72 i).1 93 7), .int (nI i)]) (M' := zkpM M 72 i) rfl ?_
    rw [e]
    refine yOk.if2 .ge _ _ _ _ rfl (fun c1 => ?_) (fun c1 => ?_)
    · refine yOk.adv 2 (pc' := 125) (lv' := [(0, .ref 93), (1, .int 3), (2, .int (nI i))]) (st' := [.int ((zkpM M 72 i).1 93 7)]) (M' := zkpM M 72 i) rfl ?_
      rw [e]
      exact yOk.ret _ rfl rfl rfl
    · exact absurd (zge_f c1) (nI_nlt (by omega) (by omega))
  | d + 1, i, h => by
    have e : (zkpM M 72 i).1 93 7 = nI n := (zkpM_at M 72 i 93 7 (by decide) (by decide) (by decide)).trans hs
    have ci : (nI i).toNatClampNeg = i := nI_clamp (by omega)
    have ck : (nI (72 + i)).toNatClampNeg = 72 + i := nI_clamp (by omega)
    have hin : zin (nI i) 24 = true := zin_nI (by omega) (by omega)
    have hin2 : zin (nI (72 + i)) 144 = true := zin_nI (by omega) (by omega)
    have hix : (24 * 3 : Int32) + nI i = nI (72 + i) := nI_add 72 i
    refine yOk.adv 3 (pc' := 61) (lv' := [(0, .ref 93), (1, .int 3), (2, .int (nI i))]) (st' := [.int ((zkpM M 72 i).1 93 7), .int (nI i)]) (M' := zkpM M 72 i) rfl ?_
    rw [e]
    refine yOk.if2 .ge _ _ _ _ rfl (fun c1 => ?_) (fun c1 => ?_)
    · exact absurd (nI_lt (show i < n by omega) (by omega)) (zge_t c1)
    · refine yOk.adv 7 (pc' := 74) (lv' := [(0, .ref 93), (1, .int 3), (2, .int (nI i))]) (st' := [.int ((24 * 3) + (nI i)), .ref 107]) (M' := zkpM M 72 i) rfl ?_
      rw [hix]
      refine yOk.adv 3 (pc' := 79) (lv' := [(0, .ref 93), (1, .int 3), (2, .int (nI i))]) (st' := [.int (nI i), .ref 94, .int (nI (72 + i)), .ref 107]) (M' := zkpM M 72 i) rfl ?_
      refine yOk.iald _ _ _ rfl rfl (hin) ?_
      rw [ci, zkpM_at M 72 i 94 i (by decide) (by decide) (by decide)]
      refine yOk.iast _ _ _ rfl rfl (hin2) ?_
      rw [ck]
      refine yOk.adv 7 (pc' := 91) (lv' := [(0, .ref 93), (1, .int 3), (2, .int (nI i))]) (st' := [.int ((24 * 3) + (nI i)), .ref 108]) (M' := zup (zkpM M 72 i) 107 (72 + i) (M.1 94 i)) rfl ?_
      rw [hix]
      refine yOk.adv 3 (pc' := 96) (lv' := [(0, .ref 93), (1, .int 3), (2, .int (nI i))]) (st' := [.int (nI i), .ref 95, .int (nI (72 + i)), .ref 108]) (M' := zup (zkpM M 72 i) 107 (72 + i) (M.1 94 i)) rfl ?_
      refine yOk.iald _ _ _ rfl rfl (hin) ?_
      have e5 : (zup (zkpM M 72 i) 107 (72 + i) (M.1 94 i)).1 95 (nI i).toNatClampNeg = M.1 95 i := by
        rw [ci, ← zkpM_at M 72 i 95 i (by decide) (by decide) (by decide)]; unfold zup; simp
      rw [e5]
      refine yOk.iast _ _ _ rfl rfl (hin2) ?_
      rw [ck]
      refine yOk.adv 7 (pc' := 108) (lv' := [(0, .ref 93), (1, .int 3), (2, .int (nI i))]) (st' := [.int ((24 * 3) + (nI i)), .ref 109]) (M' := zup (zup (zkpM M 72 i) 107 (72 + i) (M.1 94 i)) 108 (72 + i) (M.1 95 i)) rfl ?_
      rw [hix]
      refine yOk.adv 3 (pc' := 113) (lv' := [(0, .ref 93), (1, .int 3), (2, .int (nI i))]) (st' := [.int (nI i), .ref 96, .int (nI (72 + i)), .ref 109]) (M' := zup (zup (zkpM M 72 i) 107 (72 + i) (M.1 94 i)) 108 (72 + i) (M.1 95 i)) rfl ?_
      refine yOk.iald _ _ _ rfl rfl (hin) ?_
      have e6 : (zup (zup (zkpM M 72 i) 107 (72 + i) (M.1 94 i)) 108 (72 + i) (M.1 95 i)).1 96 (nI i).toNatClampNeg = M.1 96 i := by
        rw [ci, ← zkpM_at M 72 i 96 i (by decide) (by decide) (by decide)]; unfold zup; simp
      rw [e6]
      refine yOk.iast _ _ _ rfl rfl (hin2) ?_
      rw [ck, zkpM_s]
      refine yOk.adv 2 (pc' := 56) (lv' := [(2, .int (nI i + 1)), (0, .ref 93), (1, .int 3)]) (st' := []) (M' := zkpM M 72 (i + 1)) rfl ?_
      have ih := r_keep_3_loop M n hs hn d (i + 1) (by omega)
      rw [nI_succ] at ih
      exact ih.drop (by refine ⟨?_, ?_⟩ <;> simp [zget, zwf])
theorem r_keep_4_loop (M : zMm) (n : Nat) (hs : M.1 93 7 = nI n) (hn : n ≤ 24) : ∀ (d i : Nat), i + d = n → yOk 139 56 [(0, .ref 93), (1, .int 4), (2, .int (nI i))] [] (zkpM M 96 i) (some (.int (nI n))) (zkpM M 96 n)
  | 0, i, h => by
    have : i = n := by omega
    subst this
    have e : (zkpM M 96 i).1 93 7 = nI i := (zkpM_at M 96 i 93 7 (by decide) (by decide) (by decide)).trans hs
    refine yOk.adv 3 (pc' := 61) (lv' := [(0, .ref 93), (1, .int 4), (2, .int (nI i))]) (st' := [.int ((zkpM M 96 i).1 93 7), .int (nI i)]) (M' := zkpM M 96 i) rfl ?_
    rw [e]
    refine yOk.if2 .ge _ _ _ _ rfl (fun c1 => ?_) (fun c1 => ?_)
    · refine yOk.adv 2 (pc' := 125) (lv' := [(0, .ref 93), (1, .int 4), (2, .int (nI i))]) (st' := [.int ((zkpM M 96 i).1 93 7)]) (M' := zkpM M 96 i) rfl ?_
      rw [e]
      exact yOk.ret _ rfl rfl rfl
    · exact absurd (zge_f c1) (nI_nlt (by omega) (by omega))
  | d + 1, i, h => by
    have e : (zkpM M 96 i).1 93 7 = nI n := (zkpM_at M 96 i 93 7 (by decide) (by decide) (by decide)).trans hs
    have ci : (nI i).toNatClampNeg = i := nI_clamp (by omega)
    have ck : (nI (96 + i)).toNatClampNeg = 96 + i := nI_clamp (by omega)
    have hin : zin (nI i) 24 = true := zin_nI (by omega) (by omega)
    have hin2 : zin (nI (96 + i)) 144 = true := zin_nI (by omega) (by omega)
    have hix : (24 * 4 : Int32) + nI i = nI (96 + i) := nI_add 96 i
    refine yOk.adv 3 (pc' := 61) (lv' := [(0, .ref 93), (1, .int 4), (2, .int (nI i))]) (st' := [.int ((zkpM M 96 i).1 93 7), .int (nI i)]) (M' := zkpM M 96 i) rfl ?_
    rw [e]
    refine yOk.if2 .ge _ _ _ _ rfl (fun c1 => ?_) (fun c1 => ?_)
    · exact absurd (nI_lt (show i < n by omega) (by omega)) (zge_t c1)
    · refine yOk.adv 7 (pc' := 74) (lv' := [(0, .ref 93), (1, .int 4), (2, .int (nI i))]) (st' := [.int ((24 * 4) + (nI i)), .ref 107]) (M' := zkpM M 96 i) rfl ?_
      rw [hix]
      refine yOk.adv 3 (pc' := 79) (lv' := [(0, .ref 93), (1, .int 4), (2, .int (nI i))]) (st' := [.int (nI i), .ref 94, .int (nI (96 + i)), .ref 107]) (M' := zkpM M 96 i) rfl ?_
      refine yOk.iald _ _ _ rfl rfl (hin) ?_
      rw [ci, zkpM_at M 96 i 94 i (by decide) (by decide) (by decide)]
      refine yOk.iast _ _ _ rfl rfl (hin2) ?_
      rw [ck]
      refine yOk.adv 7 (pc' := 91) (lv' := [(0, .ref 93), (1, .int 4), (2, .int (nI i))]) (st' := [.int ((24 * 4) + (nI i)), .ref 108]) (M' := zup (zkpM M 96 i) 107 (96 + i) (M.1 94 i)) rfl ?_
      rw [hix]
      refine yOk.adv 3 (pc' := 96) (lv' := [(0, .ref 93), (1, .int 4), (2, .int (nI i))]) (st' := [.int (nI i), .ref 95, .int (nI (96 + i)), .ref 108]) (M' := zup (zkpM M 96 i) 107 (96 + i) (M.1 94 i)) rfl ?_
      refine yOk.iald _ _ _ rfl rfl (hin) ?_
      have e5 : (zup (zkpM M 96 i) 107 (96 + i) (M.1 94 i)).1 95 (nI i).toNatClampNeg = M.1 95 i := by
        rw [ci, ← zkpM_at M 96 i 95 i (by decide) (by decide) (by decide)]; unfold zup; simp
      rw [e5]
      refine yOk.iast _ _ _ rfl rfl (hin2) ?_
      rw [ck]
      refine yOk.adv 7 (pc' := 108) (lv' := [(0, .ref 93), (1, .int 4), (2, .int (nI i))]) (st' := [.int ((24 * 4) + (nI i)), .ref 109]) (M' := zup (zup (zkpM M 96 i) 107 (96 + i) (M.1 94 i)) 108 (96 + i) (M.1 95 i)) rfl ?_
      rw [hix]
      refine yOk.adv 3 (pc' := 113) (lv' := [(0, .ref 93), (1, .int 4), (2, .int (nI i))]) (st' := [.int (nI i), .ref 96, .int (nI (96 + i)), .ref 109]) (M' := zup (zup (zkpM M 96 i) 107 (96 + i) (M.1 94 i)) 108 (96 + i) (M.1 95 i)) rfl ?_
      refine yOk.iald _ _ _ rfl rfl (hin) ?_
      have e6 : (zup (zup (zkpM M 96 i) 107 (96 + i) (M.1 94 i)) 108 (96 + i) (M.1 95 i)).1 96 (nI i).toNatClampNeg = M.1 96 i := by
        rw [ci, ← zkpM_at M 96 i 96 i (by decide) (by decide) (by decide)]; unfold zup; simp
      rw [e6]
      refine yOk.iast _ _ _ rfl rfl (hin2) ?_
      rw [ck, zkpM_s]
      refine yOk.adv 2 (pc' := 56) (lv' := [(2, .int (nI i + 1)), (0, .ref 93), (1, .int 4)]) (st' := []) (M' := zkpM M 96 (i + 1)) rfl ?_
      have ih := r_keep_4_loop M n hs hn d (i + 1) (by omega)
      rw [nI_succ] at ih
      exact ih.drop (by refine ⟨?_, ?_⟩ <;> simp [zget, zwf])
theorem r_keep_5_loop (M : zMm) (n : Nat) (hs : M.1 93 7 = nI n) (hn : n ≤ 24) : ∀ (d i : Nat), i + d = n → yOk 139 56 [(0, .ref 93), (1, .int 5), (2, .int (nI i))] [] (zkpM M 120 i) (some (.int (nI n))) (zkpM M 120 n)
  | 0, i, h => by
    have : i = n := by omega
    subst this
    have e : (zkpM M 120 i).1 93 7 = nI i := (zkpM_at M 120 i 93 7 (by decide) (by decide) (by decide)).trans hs
    refine yOk.adv 3 (pc' := 61) (lv' := [(0, .ref 93), (1, .int 5), (2, .int (nI i))]) (st' := [.int ((zkpM M 120 i).1 93 7), .int (nI i)]) (M' := zkpM M 120 i) rfl ?_
    rw [e]
    refine yOk.if2 .ge _ _ _ _ rfl (fun c1 => ?_) (fun c1 => ?_)
    · refine yOk.adv 2 (pc' := 125) (lv' := [(0, .ref 93), (1, .int 5), (2, .int (nI i))]) (st' := [.int ((zkpM M 120 i).1 93 7)]) (M' := zkpM M 120 i) rfl ?_
      rw [e]
      exact yOk.ret _ rfl rfl rfl
    · exact absurd (zge_f c1) (nI_nlt (by omega) (by omega))
  | d + 1, i, h => by
    have e : (zkpM M 120 i).1 93 7 = nI n := (zkpM_at M 120 i 93 7 (by decide) (by decide) (by decide)).trans hs
    have ci : (nI i).toNatClampNeg = i := nI_clamp (by omega)
    have ck : (nI (120 + i)).toNatClampNeg = 120 + i := nI_clamp (by omega)
    have hin : zin (nI i) 24 = true := zin_nI (by omega) (by omega)
    have hin2 : zin (nI (120 + i)) 144 = true := zin_nI (by omega) (by omega)
    have hix : (24 * 5 : Int32) + nI i = nI (120 + i) := nI_add 120 i
    refine yOk.adv 3 (pc' := 61) (lv' := [(0, .ref 93), (1, .int 5), (2, .int (nI i))]) (st' := [.int ((zkpM M 120 i).1 93 7), .int (nI i)]) (M' := zkpM M 120 i) rfl ?_
    rw [e]
    refine yOk.if2 .ge _ _ _ _ rfl (fun c1 => ?_) (fun c1 => ?_)
    · exact absurd (nI_lt (show i < n by omega) (by omega)) (zge_t c1)
    · refine yOk.adv 7 (pc' := 74) (lv' := [(0, .ref 93), (1, .int 5), (2, .int (nI i))]) (st' := [.int ((24 * 5) + (nI i)), .ref 107]) (M' := zkpM M 120 i) rfl ?_
      rw [hix]
      refine yOk.adv 3 (pc' := 79) (lv' := [(0, .ref 93), (1, .int 5), (2, .int (nI i))]) (st' := [.int (nI i), .ref 94, .int (nI (120 + i)), .ref 107]) (M' := zkpM M 120 i) rfl ?_
      refine yOk.iald _ _ _ rfl rfl (hin) ?_
      rw [ci, zkpM_at M 120 i 94 i (by decide) (by decide) (by decide)]
      refine yOk.iast _ _ _ rfl rfl (hin2) ?_
      rw [ck]
      refine yOk.adv 7 (pc' := 91) (lv' := [(0, .ref 93), (1, .int 5), (2, .int (nI i))]) (st' := [.int ((24 * 5) + (nI i)), .ref 108]) (M' := zup (zkpM M 120 i) 107 (120 + i) (M.1 94 i)) rfl ?_
      rw [hix]
      refine yOk.adv 3 (pc' := 96) (lv' := [(0, .ref 93), (1, .int 5), (2, .int (nI i))]) (st' := [.int (nI i), .ref 95, .int (nI (120 + i)), .ref 108]) (M' := zup (zkpM M 120 i) 107 (120 + i) (M.1 94 i)) rfl ?_
      refine yOk.iald _ _ _ rfl rfl (hin) ?_
      have e5 : (zup (zkpM M 120 i) 107 (120 + i) (M.1 94 i)).1 95 (nI i).toNatClampNeg = M.1 95 i := by
        rw [ci, ← zkpM_at M 120 i 95 i (by decide) (by decide) (by decide)]; unfold zup; simp
      rw [e5]
      refine yOk.iast _ _ _ rfl rfl (hin2) ?_
      rw [ck]
      refine yOk.adv 7 (pc' := 108) (lv' := [(0, .ref 93), (1, .int 5), (2, .int (nI i))]) (st' := [.int ((24 * 5) + (nI i)), .ref 109]) (M' := zup (zup (zkpM M 120 i) 107 (120 + i) (M.1 94 i)) 108 (120 + i) (M.1 95 i)) rfl ?_
      rw [hix]
      refine yOk.adv 3 (pc' := 113) (lv' := [(0, .ref 93), (1, .int 5), (2, .int (nI i))]) (st' := [.int (nI i), .ref 96, .int (nI (120 + i)), .ref 109]) (M' := zup (zup (zkpM M 120 i) 107 (120 + i) (M.1 94 i)) 108 (120 + i) (M.1 95 i)) rfl ?_
      refine yOk.iald _ _ _ rfl rfl (hin) ?_
      have e6 : (zup (zup (zkpM M 120 i) 107 (120 + i) (M.1 94 i)) 108 (120 + i) (M.1 95 i)).1 96 (nI i).toNatClampNeg = M.1 96 i := by
        rw [ci, ← zkpM_at M 120 i 96 i (by decide) (by decide) (by decide)]; unfold zup; simp
      rw [e6]
      refine yOk.iast _ _ _ rfl rfl (hin2) ?_
      rw [ck, zkpM_s]
      refine yOk.adv 2 (pc' := 56) (lv' := [(2, .int (nI i + 1)), (0, .ref 93), (1, .int 5)]) (st' := []) (M' := zkpM M 120 (i + 1)) rfl ?_
      have ih := r_keep_5_loop M n hs hn d (i + 1) (by omega)
      rw [nI_succ] at ih
      exact ih.drop (by refine ⟨?_, ?_⟩ <;> simp [zget, zwf])
