/-! ===== sums over places ===== -/
def zsm (w x y : Nat → Int32) (a b : Nat) : Nat → Int64
  | 0 => 0
  | n + 1 => zsm w x y a b n + (w n).toInt64 * zpw (x n).toInt64 a * zpw (y n).toInt64 b
theorem nI_nn (a : Nat) (h : a < 2 ^ 31) : ¬ nI a < 0 := nI_pos h
theorem m_wpow_loop (M : zMm) (n a b : Nat) (hs : M.1 1 3 = nI n) (hn : n ≤ 24) (ha : a < 100) (hb : b < 100) : ∀ (d i : Nat), i + d = n → yOk 29 5 [(0, .ref 1), (1, .int (nI a)), (2, .int (nI b)), (3, .long (zsm (M.1 4) (M.1 2) (M.1 3) a b i)), (5, .int (nI i))] [] M (some (.long (zsm (M.1 4) (M.1 2) (M.1 3) a b n))) M
  | 0, i, h => by
    refine yOk.adv 3 (pc' := 11) (lv' := [(0, .ref 1), (1, .int (nI a)), (2, .int (nI b)), (3, .long (zsm (M.1 4) (M.1 2) (M.1 3) a b i)), (5, .int (nI i))]) (st' := [.int (M.1 1 3), .int (nI i)]) (M' := M) rfl ?_
    rw [hs]
    refine yOk.if2 .ge _ _ _ _ rfl (fun q => ?_) (fun q => ?_)
    · refine yOk.adv 1 (pc' := 58) (lv' := [(0, .ref 1), (1, .int (nI a)), (2, .int (nI b)), (3, .long (zsm (M.1 4) (M.1 2) (M.1 3) a b i)), (5, .int (nI i))]) (st' := [.long (zsm (M.1 4) (M.1 2) (M.1 3) a b i)]) (M' := M) rfl ?_
      have : i = n := by omega
      subst this
      exact yOk.ret _ rfl rfl rfl
    · exact absurd (zge_f q) (nI_nlt (by omega) (by omega))
  | d + 1, i, h => by
    refine yOk.adv 3 (pc' := 11) (lv' := [(0, .ref 1), (1, .int (nI a)), (2, .int (nI b)), (3, .long (zsm (M.1 4) (M.1 2) (M.1 3) a b i)), (5, .int (nI i))]) (st' := [.int (M.1 1 3), .int (nI i)]) (M' := M) rfl ?_
    rw [hs]
    refine yOk.if2 .ge _ _ _ _ rfl (fun q => ?_) (fun q => ?_)
    · exact absurd (nI_lt (show i < n by omega) (by omega)) (zge_t q)
    · have hi : i < 24 := by omega
      have ck : (nI i).toNatClampNeg = i := nI_clamp (by omega)
      refine yOk.adv 4 (pc' := 21) (lv' := [(0, .ref 1), (1, .int (nI a)), (2, .int (nI b)), (3, .long (zsm (M.1 4) (M.1 2) (M.1 3) a b i)), (5, .int (nI i))]) (st' := [.int (nI i), .ref 4, .long (zsm (M.1 4) (M.1 2) (M.1 3) a b i)]) (M' := M) rfl ?_
      refine yOk.iald _ _ _ rfl rfl (zin_nI hi (by omega)) ?_
      rw [ck]
      refine yOk.adv 4 (pc' := 29) (lv' := [(0, .ref 1), (1, .int (nI a)), (2, .int (nI b)), (3, .long (zsm (M.1 4) (M.1 2) (M.1 3) a b i)), (5, .int (nI i))]) (st' := [.int (nI i), .ref 2, .long ((M.1 4 i).toInt64), .long (zsm (M.1 4) (M.1 2) (M.1 3) a b i)]) (M' := M) rfl ?_
      refine yOk.iald _ _ _ rfl rfl (zin_nI hi (by omega)) ?_
      rw [ck]
      refine yOk.adv 2 (pc' := 32) (lv' := [(0, .ref 1), (1, .int (nI a)), (2, .int (nI b)), (3, .long (zsm (M.1 4) (M.1 2) (M.1 3) a b i)), (5, .int (nI i))]) (st' := [.int (nI a), .long ((M.1 2 i).toInt64), .long ((M.1 4 i).toInt64), .long (zsm (M.1 4) (M.1 2) (M.1 3) a b i)]) (M' := M) rfl ?_
      refine yOk.call (M1 := M) _ rfl rfl rfl rfl rfl (m_power M (M.1 2 i).toInt64 (nI a) (nI_nn a (by omega))) ?_
      show yOk 29 35 [(0, .ref 1), (1, .int (nI a)), (2, .int (nI b)), (3, .long (zsm (M.1 4) (M.1 2) (M.1 3) a b i)), (5, .int (nI i))] [.long (zpw (M.1 2 i).toInt64 (nI a).toNatClampNeg), .long ((M.1 4 i).toInt64), .long (zsm (M.1 4) (M.1 2) (M.1 3) a b i)] M _ _
      rw [nI_clamp (show a < 2 ^ 31 by omega)]
      refine yOk.adv 4 (pc' := 42) (lv' := [(0, .ref 1), (1, .int (nI a)), (2, .int (nI b)), (3, .long (zsm (M.1 4) (M.1 2) (M.1 3) a b i)), (5, .int (nI i))]) (st' := [.int (nI i), .ref 3, .long (((M.1 4 i).toInt64) * (zpw (M.1 2 i).toInt64 a)), .long (zsm (M.1 4) (M.1 2) (M.1 3) a b i)]) (M' := M) rfl ?_
      refine yOk.iald _ _ _ rfl rfl (zin_nI hi (by omega)) ?_
      rw [ck]
      refine yOk.adv 2 (pc' := 45) (lv' := [(0, .ref 1), (1, .int (nI a)), (2, .int (nI b)), (3, .long (zsm (M.1 4) (M.1 2) (M.1 3) a b i)), (5, .int (nI i))]) (st' := [.int (nI b), .long ((M.1 3 i).toInt64), .long (((M.1 4 i).toInt64) * (zpw (M.1 2 i).toInt64 a)), .long (zsm (M.1 4) (M.1 2) (M.1 3) a b i)]) (M' := M) rfl ?_
      refine yOk.call (M1 := M) _ rfl rfl rfl rfl rfl (m_power M (M.1 3 i).toInt64 (nI b) (nI_nn b (by omega))) ?_
      show yOk 29 48 [(0, .ref 1), (1, .int (nI a)), (2, .int (nI b)), (3, .long (zsm (M.1 4) (M.1 2) (M.1 3) a b i)), (5, .int (nI i))] [.long (zpw (M.1 3 i).toInt64 (nI b).toNatClampNeg), .long (((M.1 4 i).toInt64) * (zpw (M.1 2 i).toInt64 a)), .long (zsm (M.1 4) (M.1 2) (M.1 3) a b i)] M _ _
      rw [nI_clamp (show b < 2 ^ 31 by omega)]
      refine yOk.adv 5 (pc' := 5) (lv' := [(5, .int (nI i + 1)), (3, .long ((zsm (M.1 4) (M.1 2) (M.1 3) a b i) + ((((M.1 4 i).toInt64) * (zpw (M.1 2 i).toInt64 a)) * (zpw (M.1 3 i).toInt64 b)))), (0, .ref 1), (1, .int (nI a)), (2, .int (nI b))]) (st' := []) (M' := M) rfl ?_
      have ih := m_wpow_loop M n a b hs hn ha hb d (i + 1) (by omega)
      rw [nI_succ i] at ih
      exact ih.drop (by refine ⟨?_, ?_⟩ <;> simp [zget, zwf, zsm])
theorem m_wpow (M : zMm) (n a b : Nat) (hs : M.1 1 3 = nI n) (hn : n ≤ 24) (ha : a < 100) (hb : b < 100) : yOk 29 0 [(0, .ref 1), (1, .int (nI a)), (2, .int (nI b))] [] M (some (.long (zsm (M.1 4) (M.1 2) (M.1 3) a b n))) M := by
  refine yOk.adv 4 (pc' := 5) (lv' := [(5, .int 0), (3, .long 0), (0, .ref 1), (1, .int (nI a)), (2, .int (nI b))]) (st' := []) (M' := M) rfl ?_
  exact (m_wpow_loop M n a b hs hn ha hb n 0 (by omega)).drop (by refine ⟨?_, ?_⟩ <;> simp [zget, zwf, zsm, nI])
/-- findSum: the class's answer becomes the sum by its lower number -/
theorem m_findSum (M : zMm) (n a b : Nat) (hs : M.1 1 3 = nI n) (hn : n ≤ 24) (ha : a < 50) (hb : b < 50) (hu : (zsm (M.1 4) (M.1 2) (M.1 3) a b n).toInt ≠ -2 ^ 63) (hd : 0 < ((M.1 1 2).toInt64 * zpw (M.1 1 1).toInt64 (a + b)).toInt) :
    yOk 77 0 [(0, .ref 0), (1, .int (nI a)), (2, .int (nI b))] [] M none (zupL (zupL M 52 0 (zfu (zsm (M.1 4) (M.1 2) (M.1 3) a b n) ((M.1 1 2).toInt64 * zpw (M.1 1 1).toInt64 (a + b)))) 52 1 (zfd (zsm (M.1 4) (M.1 2) (M.1 3) a b n) ((M.1 1 2).toInt64 * zpw (M.1 1 1).toInt64 (a + b)))) := by
  refine yOk.adv 6 (pc' := 10) (lv' := [(0, .ref 0), (1, .int (nI a)), (2, .int (nI b))]) (st' := [.int (nI b), .int (nI a), .ref 1, .ref 52]) (M' := M) rfl ?_
  refine yOk.call (M1 := M) _ rfl rfl rfl rfl rfl (m_wpow M n a b hs hn (by omega) (by omega)) ?_
  show yOk 77 13 [(0, .ref 0), (1, .int (nI a)), (2, .int (nI b))] [.long (zsm (M.1 4) (M.1 2) (M.1 3) a b n), .ref 52] M _ _
  refine yOk.adv 11 (pc' := 32) (lv' := [(0, .ref 0), (1, .int (nI a)), (2, .int (nI b))]) (st' := [.int ((nI a) + (nI b)), .long ((M.1 1 1).toInt64), .long ((M.1 1 2).toInt64), .long (zsm (M.1 4) (M.1 2) (M.1 3) a b n), .ref 52]) (M' := M) rfl ?_
  rw [nI_add]
  refine yOk.call (M1 := M) _ rfl rfl rfl rfl rfl (m_power M (M.1 1 1).toInt64 (nI (a + b)) (nI_nn _ (by omega))) ?_
  show yOk 77 35 [(0, .ref 0), (1, .int (nI a)), (2, .int (nI b))] [.long (zpw (M.1 1 1).toInt64 (nI (a + b)).toNatClampNeg), .long ((M.1 1 2).toInt64), .long (zsm (M.1 4) (M.1 2) (M.1 3) a b n), .ref 52] M _ _
  rw [nI_clamp (show a + b < 2 ^ 31 by omega)]
  refine yOk.adv 1 (pc' := 36) (lv' := [(0, .ref 0), (1, .int (nI a)), (2, .int (nI b))]) (st' := [.long (((M.1 1 2).toInt64) * (zpw (M.1 1 1).toInt64 (a + b))), .long (zsm (M.1 4) (M.1 2) (M.1 3) a b n), .ref 52]) (M' := M) rfl ?_
  refine yOk.call (M1 := zupL (zupL M 52 0 (zfu (zsm (M.1 4) (M.1 2) (M.1 3) a b n) ((M.1 1 2).toInt64 * zpw (M.1 1 1).toInt64 (a + b)))) 52 1 (zfd (zsm (M.1 4) (M.1 2) (M.1 3) a b n) ((M.1 1 2).toInt64 * zpw (M.1 1 1).toInt64 (a + b)))) _ rfl rfl rfl rfl rfl (m_become_52 M (zsm (M.1 4) (M.1 2) (M.1 3) a b n) ((M.1 1 2).toInt64 * zpw (M.1 1 1).toInt64 (a + b)) hu hd) ?_
  show yOk 77 39 [(0, .ref 0), (1, .int (nI a)), (2, .int (nI b))] [] (zupL (zupL M 52 0 (zfu (zsm (M.1 4) (M.1 2) (M.1 3) a b n) ((M.1 1 2).toInt64 * zpw (M.1 1 1).toInt64 (a + b)))) 52 1 (zfd (zsm (M.1 4) (M.1 2) (M.1 3) a b n) ((M.1 1 2).toInt64 * zpw (M.1 1 1).toInt64 (a + b)))) _ _
  exact yOk.ret _ rfl rfl rfl
theorem r_sum_loop (M : zMm) (n a b : Nat) (hs : M.1 93 7 = nI n) (hn : n ≤ 24) (ha : a < 50) (hb : b < 50) (hu : (zsm (M.1 96) (M.1 94) (M.1 95) a b n).toInt ≠ -2 ^ 63) (hd : 0 < ((M.1 93 6).toInt64 * zpw (M.1 93 5).toInt64 (a + b)).toInt) : ∀ (d i : Nat), i + d = n → yOk 112 5 [(0, .ref 93), (1, .int (nI a)), (2, .int (nI b)), (3, .long (zsm (M.1 96) (M.1 94) (M.1 95) a b i)), (5, .int (nI i))] [] M none (zupL (zupL M 93 2 (zfu (zsm (M.1 96) (M.1 94) (M.1 95) a b n) ((M.1 93 6).toInt64 * zpw (M.1 93 5).toInt64 (a + b)))) 93 3 (zfd (zsm (M.1 96) (M.1 94) (M.1 95) a b n) ((M.1 93 6).toInt64 * zpw (M.1 93 5).toInt64 (a + b))))
  | 0, i, h => by
    refine yOk.adv 3 (pc' := 11) (lv' := [(0, .ref 93), (1, .int (nI a)), (2, .int (nI b)), (3, .long (zsm (M.1 96) (M.1 94) (M.1 95) a b i)), (5, .int (nI i))]) (st' := [.int (M.1 93 7), .int (nI i)]) (M' := M) rfl ?_
    rw [hs]
    refine yOk.if2 .ge _ _ _ _ rfl (fun q => ?_) (fun q => ?_)
    · have : i = n := by omega
      subst this
      refine yOk.adv 11 (pc' := 72) (lv' := [(0, .ref 93), (1, .int (nI a)), (2, .int (nI b)), (3, .long (zsm (M.1 96) (M.1 94) (M.1 95) a b i)), (5, .int (nI i))]) (st' := [.int ((nI a) + (nI b)), .long ((M.1 93 5).toInt64), .long ((M.1 93 6).toInt64), .long (zsm (M.1 96) (M.1 94) (M.1 95) a b i), .ref 93]) (M' := M) rfl ?_
      rw [nI_add]
      refine yOk.call (M1 := M) _ rfl rfl rfl rfl rfl (r_power M (M.1 93 5).toInt64 (nI (a + b)) (nI_nn _ (by omega))) ?_
      show yOk 112 75 [(0, .ref 93), (1, .int (nI a)), (2, .int (nI b)), (3, .long (zsm (M.1 96) (M.1 94) (M.1 95) a b i)), (5, .int (nI i))] [.long (zpw (M.1 93 5).toInt64 (nI (a + b)).toNatClampNeg), .long ((M.1 93 6).toInt64), .long (zsm (M.1 96) (M.1 94) (M.1 95) a b i), .ref 93] M _ _
      rw [nI_clamp (show a + b < 2 ^ 31 by omega)]
      refine yOk.adv 1 (pc' := 76) (lv' := [(0, .ref 93), (1, .int (nI a)), (2, .int (nI b)), (3, .long (zsm (M.1 96) (M.1 94) (M.1 95) a b i)), (5, .int (nI i))]) (st' := [.long (((M.1 93 6).toInt64) * (zpw (M.1 93 5).toInt64 (a + b))), .long (zsm (M.1 96) (M.1 94) (M.1 95) a b i), .ref 93]) (M' := M) rfl ?_
      refine yOk.call (M1 := zupL (zupL M 93 2 (zfu (zsm (M.1 96) (M.1 94) (M.1 95) a b i) ((M.1 93 6).toInt64 * zpw (M.1 93 5).toInt64 (a + b)))) 93 3 (zfd (zsm (M.1 96) (M.1 94) (M.1 95) a b i) ((M.1 93 6).toInt64 * zpw (M.1 93 5).toInt64 (a + b)))) _ rfl rfl rfl rfl rfl (r_fraction M (zsm (M.1 96) (M.1 94) (M.1 95) a b i) ((M.1 93 6).toInt64 * zpw (M.1 93 5).toInt64 (a + b)) hu hd) ?_
      show yOk 112 79 [(0, .ref 93), (1, .int (nI a)), (2, .int (nI b)), (3, .long (zsm (M.1 96) (M.1 94) (M.1 95) a b i)), (5, .int (nI i))] [] (zupL (zupL M 93 2 (zfu (zsm (M.1 96) (M.1 94) (M.1 95) a b i) ((M.1 93 6).toInt64 * zpw (M.1 93 5).toInt64 (a + b)))) 93 3 (zfd (zsm (M.1 96) (M.1 94) (M.1 95) a b i) ((M.1 93 6).toInt64 * zpw (M.1 93 5).toInt64 (a + b)))) _ _
      exact yOk.ret _ rfl rfl rfl
    · exact absurd (zge_f q) (nI_nlt (by omega) (by omega))
  | d + 1, i, h => by
    refine yOk.adv 3 (pc' := 11) (lv' := [(0, .ref 93), (1, .int (nI a)), (2, .int (nI b)), (3, .long (zsm (M.1 96) (M.1 94) (M.1 95) a b i)), (5, .int (nI i))]) (st' := [.int (M.1 93 7), .int (nI i)]) (M' := M) rfl ?_
    rw [hs]
    refine yOk.if2 .ge _ _ _ _ rfl (fun q => ?_) (fun q => ?_)
    · exact absurd (nI_lt (show i < n by omega) (by omega)) (zge_t q)
    · have hi : i < 24 := by omega
      have ck : (nI i).toNatClampNeg = i := nI_clamp (by omega)
      refine yOk.adv 4 (pc' := 21) (lv' := [(0, .ref 93), (1, .int (nI a)), (2, .int (nI b)), (3, .long (zsm (M.1 96) (M.1 94) (M.1 95) a b i)), (5, .int (nI i))]) (st' := [.int (nI i), .ref 96, .long (zsm (M.1 96) (M.1 94) (M.1 95) a b i)]) (M' := M) rfl ?_
      refine yOk.iald _ _ _ rfl rfl (zin_nI hi (by omega)) ?_
      rw [ck]
      refine yOk.adv 4 (pc' := 29) (lv' := [(0, .ref 93), (1, .int (nI a)), (2, .int (nI b)), (3, .long (zsm (M.1 96) (M.1 94) (M.1 95) a b i)), (5, .int (nI i))]) (st' := [.int (nI i), .ref 94, .long ((M.1 96 i).toInt64), .long (zsm (M.1 96) (M.1 94) (M.1 95) a b i)]) (M' := M) rfl ?_
      refine yOk.iald _ _ _ rfl rfl (zin_nI hi (by omega)) ?_
      rw [ck]
      refine yOk.adv 2 (pc' := 32) (lv' := [(0, .ref 93), (1, .int (nI a)), (2, .int (nI b)), (3, .long (zsm (M.1 96) (M.1 94) (M.1 95) a b i)), (5, .int (nI i))]) (st' := [.int (nI a), .long ((M.1 94 i).toInt64), .long ((M.1 96 i).toInt64), .long (zsm (M.1 96) (M.1 94) (M.1 95) a b i)]) (M' := M) rfl ?_
      refine yOk.call (M1 := M) _ rfl rfl rfl rfl rfl (r_power M (M.1 94 i).toInt64 (nI a) (nI_nn a (by omega))) ?_
      show yOk 112 35 [(0, .ref 93), (1, .int (nI a)), (2, .int (nI b)), (3, .long (zsm (M.1 96) (M.1 94) (M.1 95) a b i)), (5, .int (nI i))] [.long (zpw (M.1 94 i).toInt64 (nI a).toNatClampNeg), .long ((M.1 96 i).toInt64), .long (zsm (M.1 96) (M.1 94) (M.1 95) a b i)] M _ _
      rw [nI_clamp (show a < 2 ^ 31 by omega)]
      refine yOk.adv 4 (pc' := 42) (lv' := [(0, .ref 93), (1, .int (nI a)), (2, .int (nI b)), (3, .long (zsm (M.1 96) (M.1 94) (M.1 95) a b i)), (5, .int (nI i))]) (st' := [.int (nI i), .ref 95, .long (((M.1 96 i).toInt64) * (zpw (M.1 94 i).toInt64 a)), .long (zsm (M.1 96) (M.1 94) (M.1 95) a b i)]) (M' := M) rfl ?_
      refine yOk.iald _ _ _ rfl rfl (zin_nI hi (by omega)) ?_
      rw [ck]
      refine yOk.adv 2 (pc' := 45) (lv' := [(0, .ref 93), (1, .int (nI a)), (2, .int (nI b)), (3, .long (zsm (M.1 96) (M.1 94) (M.1 95) a b i)), (5, .int (nI i))]) (st' := [.int (nI b), .long ((M.1 95 i).toInt64), .long (((M.1 96 i).toInt64) * (zpw (M.1 94 i).toInt64 a)), .long (zsm (M.1 96) (M.1 94) (M.1 95) a b i)]) (M' := M) rfl ?_
      refine yOk.call (M1 := M) _ rfl rfl rfl rfl rfl (r_power M (M.1 95 i).toInt64 (nI b) (nI_nn b (by omega))) ?_
      show yOk 112 48 [(0, .ref 93), (1, .int (nI a)), (2, .int (nI b)), (3, .long (zsm (M.1 96) (M.1 94) (M.1 95) a b i)), (5, .int (nI i))] [.long (zpw (M.1 95 i).toInt64 (nI b).toNatClampNeg), .long (((M.1 96 i).toInt64) * (zpw (M.1 94 i).toInt64 a)), .long (zsm (M.1 96) (M.1 94) (M.1 95) a b i)] M _ _
      rw [nI_clamp (show b < 2 ^ 31 by omega)]
      refine yOk.adv 5 (pc' := 5) (lv' := [(5, .int (nI i + 1)), (3, .long ((zsm (M.1 96) (M.1 94) (M.1 95) a b i) + ((((M.1 96 i).toInt64) * (zpw (M.1 94 i).toInt64 a)) * (zpw (M.1 95 i).toInt64 b)))), (0, .ref 93), (1, .int (nI a)), (2, .int (nI b))]) (st' := []) (M' := M) rfl ?_
      have ih := r_sum_loop M n a b hs hn ha hb hu hd d (i + 1) (by omega)
      rw [nI_succ i] at ih
      exact ih.drop (by refine ⟨?_, ?_⟩ <;> simp [zget, zwf, zsm])
theorem r_sumOf (M : zMm) (n a b : Nat) (hs : M.1 93 7 = nI n) (hn : n ≤ 24) (ha : a < 50) (hb : b < 50) (hu : (zsm (M.1 96) (M.1 94) (M.1 95) a b n).toInt ≠ -2 ^ 63) (hd : 0 < ((M.1 93 6).toInt64 * zpw (M.1 93 5).toInt64 (a + b)).toInt) : yOk 112 0 [(0, .ref 93), (1, .int (nI a)), (2, .int (nI b))] [] M none (zupL (zupL M 93 2 (zfu (zsm (M.1 96) (M.1 94) (M.1 95) a b n) ((M.1 93 6).toInt64 * zpw (M.1 93 5).toInt64 (a + b)))) 93 3 (zfd (zsm (M.1 96) (M.1 94) (M.1 95) a b n) ((M.1 93 6).toInt64 * zpw (M.1 93 5).toInt64 (a + b)))) := by
  refine yOk.adv 4 (pc' := 5) (lv' := [(5, .int 0), (3, .long 0), (0, .ref 93), (1, .int (nI a)), (2, .int (nI b))]) (st' := []) (M' := M) rfl ?_
  exact (r_sum_loop M n a b hs hn ha hb hu hd n 0 (by omega)).drop (by refine ⟨?_, ?_⟩ <;> simp [zget, zwf, zsm, nI])
