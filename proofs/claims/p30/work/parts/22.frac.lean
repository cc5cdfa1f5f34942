/-! ===== fractions ===== -/
theorem zg_pos {u d : Int64} (hd : 0 < d.toInt) : 0 < Nat.gcd u.toInt.natAbs d.toInt.natAbs := Nat.gcd_pos_of_pos_right _ (by omega)
theorem zg_lt {u d : Int64} (hd : 0 < d.toInt) : Nat.gcd u.toInt.natAbs d.toInt.natAbs < 2 ^ 63 := by
  have h1 : d.toInt < 2 ^ 63 := Int64.toInt_lt d
  have := Nat.le_of_dvd (show 0 < d.toInt.natAbs by omega) (Nat.gcd_dvd_right u.toInt.natAbs d.toInt.natAbs)
  omega
theorem zg_ne {u d : Int64} (hd : 0 < d.toInt) : ¬ zg u d = 0 := fun h => by
  have h1 := congrArg Int64.toInt h
  unfold zg at h1
  rw [zNl_toInt (zg_lt hd), Int64.toInt_zero] at h1
  have := zg_pos (u := u) hd
  omega
theorem zg_cmp {u d : Int64} (hd : 0 < d.toInt) : lg_cmp (zg u d) 0 = 1 := by
  unfold zg
  rw [zcmp0 (zg_lt hd), if_neg (by have := zg_pos (u := u) hd; omega)]
theorem zcmp_pos {d : Int64} (hd : 0 < d.toInt) : lg_cmp d 0 = 1 := by
  have h1 : d.toInt < 2 ^ 63 := Int64.toInt_lt d
  rw [zNl_of (x := d) (by omega), zcmp0 (by omega), if_neg (by omega)]
/-- the fraction u by d in least terms, d above 0: upper and lower number -/
def zfu (u d : Int64) : Int64 := u / zg u d
def zfd (u d : Int64) : Int64 := d / zg u d
theorem m_become_50 (M : zMm) (u d : Int64) (hu : u.toInt ≠ -2 ^ 63) (hd : 0 < d.toInt) : yOk 1 0 [(0, .ref 50), (1, .long u), (3, .long d)] [] M none (zupL (zupL M 50 0 (zfu u d)) 50 1 (zfd u d)) := by
  refine yOk.adv 2 (pc' := 2) (lv' := [(0, .ref 50), (1, .long u), (3, .long d)]) (st' := [.long d, .long u]) (M' := M) rfl ?_
  refine yOk.call (M1 := M) _ rfl rfl rfl rfl rfl (m_gcd M u d hu (by omega)) ?_
  show yOk 1 5 [(0, .ref 50), (1, .long u), (3, .long d)] [.long (zg u d)] M _ _
  refine yOk.adv 4 (pc' := 11) (lv' := [(5, .long (zg u d)), (0, .ref 50), (1, .long u), (3, .long d)]) (st' := [.int (lg_cmp (zg u d) 0)]) (M' := M) rfl ?_
  rw [zg_cmp hd]
  refine yOk.if1 .eq _ _ _ _ rfl (fun q => ?_) (fun q => ?_)
  · exact absurd q (by decide)
  · refine yOk.adv 3 (pc' := 17) (lv' := [(5, .long (zg u d)), (0, .ref 50), (1, .long u), (3, .long d)]) (st' := [.int (lg_cmp d 0)]) (M' := M) rfl ?_
    rw [zcmp_pos hd]
    refine yOk.if1 .ne _ _ _ _ rfl (fun q2 => ?_) (fun q2 => ?_)
    · refine yOk.adv 3 (pc' := 34) (lv' := [(5, .long (zg u d)), (0, .ref 50), (1, .long u), (3, .long d)]) (st' := [.int (lg_cmp d 0)]) (M' := M) rfl ?_
      rw [zcmp_pos hd]
      refine yOk.if1 .ge _ _ _ _ rfl (fun q3 => ?_) (fun q3 => ?_)
      · refine yOk.adv 5 (pc' := 51) (lv' := [(7, .long (zg u d)), (5, .long (zg u d)), (0, .ref 50), (1, .long u), (3, .long d)]) (st' := [.long (zg u d), .long u, .ref 50]) (M' := M) rfl ?_
        refine yOk.ldiv _ _ _ rfl (zg_ne hd) ?_
        refine yOk.adv 4 (pc' := 59) (lv' := [(7, .long (zg u d)), (5, .long (zg u d)), (0, .ref 50), (1, .long u), (3, .long d)]) (st' := [.long (zg u d), .long d, .ref 50]) (M' := zupL M 50 0 (u / (zg u d))) rfl ?_
        refine yOk.ldiv _ _ _ rfl (zg_ne hd) ?_
        refine yOk.adv 1 (pc' := 63) (lv' := [(7, .long (zg u d)), (5, .long (zg u d)), (0, .ref 50), (1, .long u), (3, .long d)]) (st' := []) (M' := zupL (zupL M 50 0 (u / (zg u d))) 50 1 (d / (zg u d))) rfl ?_
        exact yOk.ret _ rfl rfl rfl
      · exact absurd q3 (by decide)
    · exact absurd q2 (by decide)
theorem m_showing_50 (M : zMm) (w : Int32) : yOk 4 0 [(0, .ref 50), (1, .int w)] [] M (some (.long (if w = 0 then M.2 50 0 else M.2 50 1))) M := by
  refine yOk.adv 1 (pc' := 1) (lv' := [(0, .ref 50), (1, .int w)]) (st' := [.int w]) (M' := M) rfl ?_
  refine yOk.if1 .ne _ _ _ _ rfl (fun q => ?_) (fun q => ?_)
  · rw [if_neg (zne_t q)]
    refine yOk.adv 2 (pc' := 15) (lv' := [(0, .ref 50), (1, .int w)]) (st' := [.long (M.2 50 1)]) (M' := M) rfl ?_
    exact yOk.ret _ rfl rfl rfl
  · rw [if_pos (zne_f q)]
    refine yOk.adv 3 (pc' := 15) (lv' := [(0, .ref 50), (1, .int w)]) (st' := [.long (M.2 50 0)]) (M' := M) rfl ?_
    exact yOk.ret _ rfl rfl rfl
theorem m_become_51 (M : zMm) (u d : Int64) (hu : u.toInt ≠ -2 ^ 63) (hd : 0 < d.toInt) : yOk 1 0 [(0, .ref 51), (1, .long u), (3, .long d)] [] M none (zupL (zupL M 51 0 (zfu u d)) 51 1 (zfd u d)) := by
  refine yOk.adv 2 (pc' := 2) (lv' := [(0, .ref 51), (1, .long u), (3, .long d)]) (st' := [.long d, .long u]) (M' := M) rfl ?_
  refine yOk.call (M1 := M) _ rfl rfl rfl rfl rfl (m_gcd M u d hu (by omega)) ?_
  show yOk 1 5 [(0, .ref 51), (1, .long u), (3, .long d)] [.long (zg u d)] M _ _
  refine yOk.adv 4 (pc' := 11) (lv' := [(5, .long (zg u d)), (0, .ref 51), (1, .long u), (3, .long d)]) (st' := [.int (lg_cmp (zg u d) 0)]) (M' := M) rfl ?_
  rw [zg_cmp hd]
  refine yOk.if1 .eq _ _ _ _ rfl (fun q => ?_) (fun q => ?_)
  · exact absurd q (by decide)
  · refine yOk.adv 3 (pc' := 17) (lv' := [(5, .long (zg u d)), (0, .ref 51), (1, .long u), (3, .long d)]) (st' := [.int (lg_cmp d 0)]) (M' := M) rfl ?_
    rw [zcmp_pos hd]
    refine yOk.if1 .ne _ _ _ _ rfl (fun q2 => ?_) (fun q2 => ?_)
    · refine yOk.adv 3 (pc' := 34) (lv' := [(5, .long (zg u d)), (0, .ref 51), (1, .long u), (3, .long d)]) (st' := [.int (lg_cmp d 0)]) (M' := M) rfl ?_
      rw [zcmp_pos hd]
      refine yOk.if1 .ge _ _ _ _ rfl (fun q3 => ?_) (fun q3 => ?_)
      · refine yOk.adv 5 (pc' := 51) (lv' := [(7, .long (zg u d)), (5, .long (zg u d)), (0, .ref 51), (1, .long u), (3, .long d)]) (st' := [.long (zg u d), .long u, .ref 51]) (M' := M) rfl ?_
        refine yOk.ldiv _ _ _ rfl (zg_ne hd) ?_
        refine yOk.adv 4 (pc' := 59) (lv' := [(7, .long (zg u d)), (5, .long (zg u d)), (0, .ref 51), (1, .long u), (3, .long d)]) (st' := [.long (zg u d), .long d, .ref 51]) (M' := zupL M 51 0 (u / (zg u d))) rfl ?_
        refine yOk.ldiv _ _ _ rfl (zg_ne hd) ?_
        refine yOk.adv 1 (pc' := 63) (lv' := [(7, .long (zg u d)), (5, .long (zg u d)), (0, .ref 51), (1, .long u), (3, .long d)]) (st' := []) (M' := zupL (zupL M 51 0 (u / (zg u d))) 51 1 (d / (zg u d))) rfl ?_
        exact yOk.ret _ rfl rfl rfl
      · exact absurd q3 (by decide)
    · exact absurd q2 (by decide)
theorem m_showing_51 (M : zMm) (w : Int32) : yOk 4 0 [(0, .ref 51), (1, .int w)] [] M (some (.long (if w = 0 then M.2 51 0 else M.2 51 1))) M := by
  refine yOk.adv 1 (pc' := 1) (lv' := [(0, .ref 51), (1, .int w)]) (st' := [.int w]) (M' := M) rfl ?_
  refine yOk.if1 .ne _ _ _ _ rfl (fun q => ?_) (fun q => ?_)
  · rw [if_neg (zne_t q)]
    refine yOk.adv 2 (pc' := 15) (lv' := [(0, .ref 51), (1, .int w)]) (st' := [.long (M.2 51 1)]) (M' := M) rfl ?_
    exact yOk.ret _ rfl rfl rfl
  · rw [if_pos (zne_f q)]
    refine yOk.adv 3 (pc' := 15) (lv' := [(0, .ref 51), (1, .int w)]) (st' := [.long (M.2 51 0)]) (M' := M) rfl ?_
    exact yOk.ret _ rfl rfl rfl
theorem m_become_52 (M : zMm) (u d : Int64) (hu : u.toInt ≠ -2 ^ 63) (hd : 0 < d.toInt) : yOk 1 0 [(0, .ref 52), (1, .long u), (3, .long d)] [] M none (zupL (zupL M 52 0 (zfu u d)) 52 1 (zfd u d)) := by
  refine yOk.adv 2 (pc' := 2) (lv' := [(0, .ref 52), (1, .long u), (3, .long d)]) (st' := [.long d, .long u]) (M' := M) rfl ?_
  refine yOk.call (M1 := M) _ rfl rfl rfl rfl rfl (m_gcd M u d hu (by omega)) ?_
  show yOk 1 5 [(0, .ref 52), (1, .long u), (3, .long d)] [.long (zg u d)] M _ _
  refine yOk.adv 4 (pc' := 11) (lv' := [(5, .long (zg u d)), (0, .ref 52), (1, .long u), (3, .long d)]) (st' := [.int (lg_cmp (zg u d) 0)]) (M' := M) rfl ?_
  rw [zg_cmp hd]
  refine yOk.if1 .eq _ _ _ _ rfl (fun q => ?_) (fun q => ?_)
  · exact absurd q (by decide)
  · refine yOk.adv 3 (pc' := 17) (lv' := [(5, .long (zg u d)), (0, .ref 52), (1, .long u), (3, .long d)]) (st' := [.int (lg_cmp d 0)]) (M' := M) rfl ?_
    rw [zcmp_pos hd]
    refine yOk.if1 .ne _ _ _ _ rfl (fun q2 => ?_) (fun q2 => ?_)
    · refine yOk.adv 3 (pc' := 34) (lv' := [(5, .long (zg u d)), (0, .ref 52), (1, .long u), (3, .long d)]) (st' := [.int (lg_cmp d 0)]) (M' := M) rfl ?_
      rw [zcmp_pos hd]
      refine yOk.if1 .ge _ _ _ _ rfl (fun q3 => ?_) (fun q3 => ?_)
      · refine yOk.adv 5 (pc' := 51) (lv' := [(7, .long (zg u d)), (5, .long (zg u d)), (0, .ref 52), (1, .long u), (3, .long d)]) (st' := [.long (zg u d), .long u, .ref 52]) (M' := M) rfl ?_
        refine yOk.ldiv _ _ _ rfl (zg_ne hd) ?_
        refine yOk.adv 4 (pc' := 59) (lv' := [(7, .long (zg u d)), (5, .long (zg u d)), (0, .ref 52), (1, .long u), (3, .long d)]) (st' := [.long (zg u d), .long d, .ref 52]) (M' := zupL M 52 0 (u / (zg u d))) rfl ?_
        refine yOk.ldiv _ _ _ rfl (zg_ne hd) ?_
        refine yOk.adv 1 (pc' := 63) (lv' := [(7, .long (zg u d)), (5, .long (zg u d)), (0, .ref 52), (1, .long u), (3, .long d)]) (st' := []) (M' := zupL (zupL M 52 0 (u / (zg u d))) 52 1 (d / (zg u d))) rfl ?_
        exact yOk.ret _ rfl rfl rfl
      · exact absurd q3 (by decide)
    · exact absurd q2 (by decide)
theorem m_showing_52 (M : zMm) (w : Int32) : yOk 4 0 [(0, .ref 52), (1, .int w)] [] M (some (.long (if w = 0 then M.2 52 0 else M.2 52 1))) M := by
  refine yOk.adv 1 (pc' := 1) (lv' := [(0, .ref 52), (1, .int w)]) (st' := [.int w]) (M' := M) rfl ?_
  refine yOk.if1 .ne _ _ _ _ rfl (fun q => ?_) (fun q => ?_)
  · rw [if_neg (zne_t q)]
    refine yOk.adv 2 (pc' := 15) (lv' := [(0, .ref 52), (1, .int w)]) (st' := [.long (M.2 52 1)]) (M' := M) rfl ?_
    exact yOk.ret _ rfl rfl rfl
  · rw [if_pos (zne_f q)]
    refine yOk.adv 3 (pc' := 15) (lv' := [(0, .ref 52), (1, .int w)]) (st' := [.long (M.2 52 0)]) (M' := M) rfl ?_
    exact yOk.ret _ rfl rfl rfl
theorem m_become_53 (M : zMm) (u d : Int64) (hu : u.toInt ≠ -2 ^ 63) (hd : 0 < d.toInt) : yOk 1 0 [(0, .ref 53), (1, .long u), (3, .long d)] [] M none (zupL (zupL M 53 0 (zfu u d)) 53 1 (zfd u d)) := by
  refine yOk.adv 2 (pc' := 2) (lv' := [(0, .ref 53), (1, .long u), (3, .long d)]) (st' := [.long d, .long u]) (M' := M) rfl ?_
  refine yOk.call (M1 := M) _ rfl rfl rfl rfl rfl (m_gcd M u d hu (by omega)) ?_
  show yOk 1 5 [(0, .ref 53), (1, .long u), (3, .long d)] [.long (zg u d)] M _ _
  refine yOk.adv 4 (pc' := 11) (lv' := [(5, .long (zg u d)), (0, .ref 53), (1, .long u), (3, .long d)]) (st' := [.int (lg_cmp (zg u d) 0)]) (M' := M) rfl ?_
  rw [zg_cmp hd]
  refine yOk.if1 .eq _ _ _ _ rfl (fun q => ?_) (fun q => ?_)
  · exact absurd q (by decide)
  · refine yOk.adv 3 (pc' := 17) (lv' := [(5, .long (zg u d)), (0, .ref 53), (1, .long u), (3, .long d)]) (st' := [.int (lg_cmp d 0)]) (M' := M) rfl ?_
    rw [zcmp_pos hd]
    refine yOk.if1 .ne _ _ _ _ rfl (fun q2 => ?_) (fun q2 => ?_)
    · refine yOk.adv 3 (pc' := 34) (lv' := [(5, .long (zg u d)), (0, .ref 53), (1, .long u), (3, .long d)]) (st' := [.int (lg_cmp d 0)]) (M' := M) rfl ?_
      rw [zcmp_pos hd]
      refine yOk.if1 .ge _ _ _ _ rfl (fun q3 => ?_) (fun q3 => ?_)
      · refine yOk.adv 5 (pc' := 51) (lv' := [(7, .long (zg u d)), (5, .long (zg u d)), (0, .ref 53), (1, .long u), (3, .long d)]) (st' := [.long (zg u d), .long u, .ref 53]) (M' := M) rfl ?_
        refine yOk.ldiv _ _ _ rfl (zg_ne hd) ?_
        refine yOk.adv 4 (pc' := 59) (lv' := [(7, .long (zg u d)), (5, .long (zg u d)), (0, .ref 53), (1, .long u), (3, .long d)]) (st' := [.long (zg u d), .long d, .ref 53]) (M' := zupL M 53 0 (u / (zg u d))) rfl ?_
        refine yOk.ldiv _ _ _ rfl (zg_ne hd) ?_
        refine yOk.adv 1 (pc' := 63) (lv' := [(7, .long (zg u d)), (5, .long (zg u d)), (0, .ref 53), (1, .long u), (3, .long d)]) (st' := []) (M' := zupL (zupL M 53 0 (u / (zg u d))) 53 1 (d / (zg u d))) rfl ?_
        exact yOk.ret _ rfl rfl rfl
      · exact absurd q3 (by decide)
    · exact absurd q2 (by decide)
theorem m_showing_53 (M : zMm) (w : Int32) : yOk 4 0 [(0, .ref 53), (1, .int w)] [] M (some (.long (if w = 0 then M.2 53 0 else M.2 53 1))) M := by
  refine yOk.adv 1 (pc' := 1) (lv' := [(0, .ref 53), (1, .int w)]) (st' := [.int w]) (M' := M) rfl ?_
  refine yOk.if1 .ne _ _ _ _ rfl (fun q => ?_) (fun q => ?_)
  · rw [if_neg (zne_t q)]
    refine yOk.adv 2 (pc' := 15) (lv' := [(0, .ref 53), (1, .int w)]) (st' := [.long (M.2 53 1)]) (M' := M) rfl ?_
    exact yOk.ret _ rfl rfl rfl
  · rw [if_pos (zne_f q)]
    refine yOk.adv 3 (pc' := 15) (lv' := [(0, .ref 53), (1, .int w)]) (st' := [.long (M.2 53 0)]) (M' := M) rfl ?_
    exact yOk.ret _ rfl rfl rfl
theorem r_fraction (M : zMm) (u d : Int64) (hu : u.toInt ≠ -2 ^ 63) (hd : 0 < d.toInt) : yOk 103 0 [(0, .ref 93), (1, .long u), (3, .long d)] [] M none (zupL (zupL M 93 2 (zfu u d)) 93 3 (zfd u d)) := by
  refine yOk.adv 2 (pc' := 2) (lv' := [(0, .ref 93), (1, .long u), (3, .long d)]) (st' := [.long d, .long u]) (M' := M) rfl ?_
  refine yOk.call (M1 := M) _ rfl rfl rfl rfl rfl (r_gcd M u d hu (by omega)) ?_
  show yOk 103 5 [(0, .ref 93), (1, .long u), (3, .long d)] [.long (zg u d)] M _ _
  refine yOk.adv 4 (pc' := 11) (lv' := [(5, .long (zg u d)), (0, .ref 93), (1, .long u), (3, .long d)]) (st' := [.long (zg u d), .long u, .ref 93]) (M' := M) rfl ?_
  refine yOk.ldiv _ _ _ rfl (zg_ne hd) ?_
  refine yOk.adv 4 (pc' := 19) (lv' := [(5, .long (zg u d)), (0, .ref 93), (1, .long u), (3, .long d)]) (st' := [.long (zg u d), .long d, .ref 93]) (M' := zupL M 93 2 (u / (zg u d))) rfl ?_
  refine yOk.ldiv _ _ _ rfl (zg_ne hd) ?_
  refine yOk.adv 1 (pc' := 23) (lv' := [(5, .long (zg u d)), (0, .ref 93), (1, .long u), (3, .long d)]) (st' := []) (M' := zupL (zupL M 93 2 (u / (zg u d))) 93 3 (d / (zg u d))) rfl ?_
  exact yOk.ret _ rfl rfl rfl
theorem r_part (M : zMm) (w : Int32) : yOk 105 0 [(0, .ref 93), (1, .int w)] [] M (some (.long (if w = 0 then M.2 93 2 else M.2 93 3))) M := by
  refine yOk.adv 1 (pc' := 1) (lv' := [(0, .ref 93), (1, .int w)]) (st' := [.int w]) (M' := M) rfl ?_
  refine yOk.if1 .ne _ _ _ _ rfl (fun q => ?_) (fun q => ?_)
  · rw [if_neg (zne_t q)]
    refine yOk.adv 2 (pc' := 15) (lv' := [(0, .ref 93), (1, .int w)]) (st' := [.long (M.2 93 3)]) (M' := M) rfl ?_
    exact yOk.ret _ rfl rfl rfl
  · rw [if_pos (zne_f q)]
    refine yOk.adv 3 (pc' := 15) (lv' := [(0, .ref 93), (1, .int w)]) (st' := [.long (M.2 93 2)]) (M' := M) rfl ?_
    exact yOk.ret _ rfl rfl rfl
