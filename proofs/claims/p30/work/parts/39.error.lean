/-! ===== fractions added: addTimes and add; errors ===== -/
theorem m_addTimes (M : zMm) (f : Int64) (hu : (M.2 52 0 * M.2 53 1 + f * M.2 53 0 * M.2 52 1).toInt ≠ -2 ^ 63) (hd : 0 < (M.2 52 1 * M.2 53 1).toInt) : yOk 2 0 [(0, .ref 52), (1, .long f), (3, .ref 53)] [] M none (zansM M (M.2 52 0 * M.2 53 1 + f * M.2 53 0 * M.2 52 1) (M.2 52 1 * M.2 53 1)) := by
  refine yOk.adv 19 (pc' := 31) (lv' := [(0, .ref 52), (1, .long f), (3, .ref 53)]) (st' := [.long ((M.2 52 1) * (M.2 53 1)), .long (((M.2 52 0) * (M.2 53 1)) + ((f * (M.2 53 0)) * (M.2 52 1))), .ref 52]) (M' := M) rfl ?_
  refine yOk.call (M1 := zansM M (M.2 52 0 * M.2 53 1 + f * M.2 53 0 * M.2 52 1) (M.2 52 1 * M.2 53 1)) _ rfl rfl rfl rfl rfl (m_become_52 M (M.2 52 0 * M.2 53 1 + f * M.2 53 0 * M.2 52 1) (M.2 52 1 * M.2 53 1) hu hd) ?_
  show yOk 2 34 [(0, .ref 52), (1, .long f), (3, .ref 53)] [] (zansM M (M.2 52 0 * M.2 53 1 + f * M.2 53 0 * M.2 52 1) (M.2 52 1 * M.2 53 1)) _ _
  exact yOk.ret _ rfl rfl rfl
theorem r_add (M : zMm) (u d : Int64) (h1 : (M.2 93 3).toInt ≠ -2 ^ 63) (hd0 : 0 < d.toInt) (hu : (M.2 93 2 * (d / zg (M.2 93 3) d) + u * (M.2 93 3 / zg (M.2 93 3) d)).toInt ≠ -2 ^ 63) (hd : 0 < (M.2 93 3 / zg (M.2 93 3) d * d).toInt) : yOk 104 0 [(0, .ref 93), (1, .long u), (3, .long d)] [] M none (zansR M (M.2 93 2 * (d / zg (M.2 93 3) d) + u * (M.2 93 3 / zg (M.2 93 3) d)) (M.2 93 3 / zg (M.2 93 3) d * d)) := by
  have hz : ¬ zg (M.2 93 3) d = 0 := zg_ne hd0
  refine yOk.adv 3 (pc' := 5) (lv' := [(0, .ref 93), (1, .long u), (3, .long d)]) (st' := [.long d, .long (M.2 93 3)]) (M' := M) rfl ?_
  refine yOk.call (M1 := M) _ rfl rfl rfl rfl rfl (r_gcd M (M.2 93 3) d h1 (by omega)) ?_
  show yOk 104 8 [(0, .ref 93), (1, .long u), (3, .long d)] [.long (zg (M.2 93 3) d)] M _ _
  refine yOk.adv 6 (pc' := 18) (lv' := [(5, .long (zg (M.2 93 3) d)), (0, .ref 93), (1, .long u), (3, .long d)]) (st' := [.long (zg (M.2 93 3) d), .long d, .long (M.2 93 2), .ref 93]) (M' := M) rfl ?_
  refine yOk.ldiv _ _ _ rfl (hz) ?_
  refine yOk.adv 5 (pc' := 27) (lv' := [(5, .long (zg (M.2 93 3) d)), (0, .ref 93), (1, .long u), (3, .long d)]) (st' := [.long (zg (M.2 93 3) d), .long (M.2 93 3), .long u, .long ((M.2 93 2) * (d / (zg (M.2 93 3) d))), .ref 93]) (M' := M) rfl ?_
  refine yOk.ldiv _ _ _ rfl (hz) ?_
  refine yOk.adv 5 (pc' := 36) (lv' := [(5, .long (zg (M.2 93 3) d)), (0, .ref 93), (1, .long u), (3, .long d)]) (st' := [.long (zg (M.2 93 3) d), .long (M.2 93 3), .long (((M.2 93 2) * (d / (zg (M.2 93 3) d))) + (u * ((M.2 93 3) / (zg (M.2 93 3) d)))), .ref 93]) (M' := M) rfl ?_
  refine yOk.ldiv _ _ _ rfl (hz) ?_
  refine yOk.adv 2 (pc' := 39) (lv' := [(5, .long (zg (M.2 93 3) d)), (0, .ref 93), (1, .long u), (3, .long d)]) (st' := [.long (((M.2 93 3) / (zg (M.2 93 3) d)) * d), .long (((M.2 93 2) * (d / (zg (M.2 93 3) d))) + (u * ((M.2 93 3) / (zg (M.2 93 3) d)))), .ref 93]) (M' := M) rfl ?_
  refine yOk.call (M1 := zansR M (M.2 93 2 * (d / zg (M.2 93 3) d) + u * (M.2 93 3 / zg (M.2 93 3) d)) (M.2 93 3 / zg (M.2 93 3) d * d)) _ rfl rfl rfl rfl rfl (r_fraction M (M.2 93 2 * (d / zg (M.2 93 3) d) + u * (M.2 93 3 / zg (M.2 93 3) d)) (M.2 93 3 / zg (M.2 93 3) d * d) hu hd) ?_
  show yOk 104 42 [(5, .long (zg (M.2 93 3) d)), (0, .ref 93), (1, .long u), (3, .long d)] [] (zansR M (M.2 93 2 * (d / zg (M.2 93 3) d) + u * (M.2 93 3 / zg (M.2 93 3) d)) (M.2 93 3 / zg (M.2 93 3) d * d)) _ _
  exact yOk.ret _ rfl rfl rfl
/-! ===== least terms: the same fraction, the same numbers ===== -/
theorem zg_toInt {u d : Int64} (hd : 0 < d.toInt) : (zg u d).toInt = (Nat.gcd u.toInt.natAbs d.toInt.natAbs : Int) := by
  unfold zg
  exact zNl_toInt (zg_lt hd)
theorem zg_gcd {u d : Int64} (hd : 0 < d.toInt) : (zg u d).toInt = (Int.gcd u.toInt d.toInt : Int) := zg_toInt hd
theorem zfu_toInt {u d : Int64} (hd : 0 < d.toInt) : (zfu u d).toInt = u.toInt / (Int.gcd u.toInt d.toInt : Int) := by
  unfold zfu
  have hg := zg_gcd (u := u) hd
  have hp := zg_pos (u := u) hd
  have hpp : 0 < (Int.gcd u.toInt d.toInt : Int) := by
    have : 0 < Int.gcd u.toInt d.toInt := hp
    omega
  rw [Kit.i64_div (by rw [hg]; omega), hg]
  have hdv : (Int.gcd u.toInt d.toInt : Int) ∣ u.toInt := Int.gcd_dvd_left ..
  exact Int.tdiv_eq_ediv_of_dvd hdv
theorem zfd_toInt {u d : Int64} (hd : 0 < d.toInt) : (zfd u d).toInt = d.toInt / (Int.gcd u.toInt d.toInt : Int) := by
  unfold zfd
  have hg := zg_gcd (u := u) hd
  have hp := zg_pos (u := u) hd
  have hpp : 0 < (Int.gcd u.toInt d.toInt : Int) := by
    have : 0 < Int.gcd u.toInt d.toInt := hp
    omega
  rw [Kit.i64_div (by rw [hg]; omega), hg]
  have hdv : (Int.gcd u.toInt d.toInt : Int) ∣ d.toInt := Int.gcd_dvd_right ..
  exact Int.tdiv_eq_ediv_of_dvd hdv
