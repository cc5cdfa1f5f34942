/-! ===== the reference's error; it is the class's ===== -/
theorem zerr_r {A B m e : Int64} (hA : A.toInt.natAbs ≤ 45864714240000) (hB : 0 < B.toInt ∧ B.toInt ≤ 2 ^ 35) (hm : m.toInt.natAbs ≤ 65536) (he : 0 < e.toInt ∧ e.toInt ≤ 65536) :
    ∃ g b' e' : Int, 0 < g ∧ 0 < b' ∧ 0 < e' ∧ B.toInt = g * b' ∧ e.toInt = g * e' ∧ (A * (e / zg B e) + (-m) * (B / zg B e)).toInt = A.toInt * e' - m.toInt * b' ∧ (B / zg B e * e).toInt = b' * e.toInt ∧ (A.toInt * e' - m.toInt * b').natAbs ≤ 2 ^ 62 := by
  obtain ⟨g, b', e', hg, hb', he', eB, eE, q1, q2⟩ := zg_split hB.1 he.1
  have hb1 : b' ≤ B.toInt := by
    have h : b' * 1 ≤ b' * g := Int.mul_le_mul_of_nonneg_left (by omega) (by omega)
    rw [Int.mul_comm b' g, ← eB] at h
    omega
  have he1 : e' ≤ e.toInt := by
    have h : e' * 1 ≤ e' * g := Int.mul_le_mul_of_nonneg_left (by omega) (by omega)
    rw [Int.mul_comm e' g, ← eE] at h
    omega
  have nm : (-m).toInt = -m.toInt := Kit.i64_neg (by omega)
  have h1 := zmul_ok (x := A) (y := e / zg B e) (A := 45864714240000) (B := 65536) hA (by rw [q2]; omega) (by decide)
  have h2 := zmul_ok (x := -m) (y := B / zg B e) (A := 65536) (B := 2 ^ 35) (by rw [nm]; omega) (by rw [q1]; omega) (by decide)
  have h4 := zadd_ok (x := A * (e / zg B e)) (y := (-m) * (B / zg B e)) (A := 45864714240000 * 65536) (B := 65536 * 2 ^ 35) (by rw [h1.1]; exact h1.2) (by rw [h2.1]; exact h2.2) (by decide)
  have h5 := zmul_ok (x := B / zg B e) (y := e) (A := 2 ^ 35) (B := 65536) (by rw [q1]; omega) (by omega) (by decide)
  rw [h1.1, h2.1, q1, q2, nm, Int.neg_mul] at h4
  have e6 : A.toInt * e' + -(m.toInt * b') = A.toInt * e' - m.toInt * b' := by omega
  rw [e6] at h4
  exact ⟨g, b', e', hg, hb', he', eB, eE, h4.1, by rw [h5.1, q1], Nat.le_trans h4.2 (by decide)⟩
theorem r_errorOf (M : zMm) (n dom a b : Nat) (hs : M.1 93 7 = nI n) (hn : n ≤ 24) (hm : M.1 93 4 = nI dom) (hdom : dom < 3) (ha : a < 7) (hb : b < 7) (hab : a + b < 7) (S D : Int64) (hS : zsm (M.1 96) (M.1 94) (M.1 95) a b n = S) (hD : (M.1 93 6).toInt64 * zpw (M.1 93 5).toInt64 (a + b) = D) (hSb : S.toInt.natAbs ≤ 45864714240000) (hDb : 0 < D.toInt ∧ D.toInt ≤ 2 ^ 35) :
    yOk 113 0 [(0, .ref 93), (1, .int (nI a)), (2, .int (nI b))] [] M none (zansR (zansR (zansR M (zmu dom a b) (zmd dom a b)) S D) (zfu S D * (zfd (zmu dom a b) (zmd dom a b) / zg (zfd S D) (zfd (zmu dom a b) (zmd dom a b))) + (-zfu (zmu dom a b) (zmd dom a b)) * (zfd S D / zg (zfd S D) (zfd (zmu dom a b) (zmd dom a b)))) (zfd S D / zg (zfd S D) (zfd (zmu dom a b) (zmd dom a b)) * zfd (zmu dom a b) (zmd dom a b))) := by
  have hmp := zmd_pos (dom := dom) a ha b hb hab
  have hmb := zmd_b (dom := dom) a ha b hb hab
  have hub := zmu_b (dom := dom) a ha b hb hab
  have l1 := zfu_le (u := S) hDb.1
  have l2 := zfd_le (u := S) hDb.1
  have l3 := zfu_le (u := zmu dom a b) hmp
  have l4 := zfd_le (u := zmu dom a b) hmp
  obtain ⟨g, b', e', hg, hb', he', eB, eE, k1, k2, k3⟩ := zerr_r (A := zfu S D) (B := zfd S D) (m := zfu (zmu dom a b) (zmd dom a b)) (e := zfd (zmu dom a b) (zmd dom a b)) (by omega) ⟨l2.1, by omega⟩ (by omega) ⟨l4.1, by omega⟩
  refine yOk.adv 3 (pc' := 3) (lv' := [(0, .ref 93), (1, .int (nI a)), (2, .int (nI b))]) (st' := [.int (nI b), .int (nI a), .ref 93]) (M' := M) rfl ?_
  refine yOk.call (M1 := zansR M (zmu dom a b) (zmd dom a b)) _ rfl rfl rfl rfl rfl (r_moment M dom a b hm hdom ha hb hab) ?_
  show yOk 113 6 [(0, .ref 93), (1, .int (nI a)), (2, .int (nI b))] [] (zansR M (zmu dom a b) (zmd dom a b)) _ _
  have f1 : (zansR M (zmu dom a b) (zmd dom a b)).2 93 2 = zfu (zmu dom a b) (zmd dom a b) := by unfold zansR zupL; simp
  have f2 : (zansR M (zmu dom a b) (zmd dom a b)).2 93 3 = zfd (zmu dom a b) (zmd dom a b) := by unfold zansR zupL; simp
  refine yOk.adv 2 (pc' := 10) (lv' := [(0, .ref 93), (1, .int (nI a)), (2, .int (nI b))]) (st' := [.long ((zansR M (zmu dom a b) (zmd dom a b)).2 93 2)]) (M' := zansR M (zmu dom a b) (zmd dom a b)) rfl ?_
  rw [f1]
  refine yOk.adv 3 (pc' := 15) (lv' := [(3, .long (zfu (zmu dom a b) (zmd dom a b))), (0, .ref 93), (1, .int (nI a)), (2, .int (nI b))]) (st' := [.long ((zansR M (zmu dom a b) (zmd dom a b)).2 93 3)]) (M' := zansR M (zmu dom a b) (zmd dom a b)) rfl ?_
  rw [f2]
  refine yOk.adv 4 (pc' := 20) (lv' := [(5, .long (zfd (zmu dom a b) (zmd dom a b))), (3, .long (zfu (zmu dom a b) (zmd dom a b))), (0, .ref 93), (1, .int (nI a)), (2, .int (nI b))]) (st' := [.int (nI b), .int (nI a), .ref 93]) (M' := zansR M (zmu dom a b) (zmd dom a b)) rfl ?_
  refine yOk.call (M1 := zansR (zansR M (zmu dom a b) (zmd dom a b)) S D) _ rfl rfl rfl rfl rfl (by have h := r_sumOf (zansR M (zmu dom a b) (zmd dom a b)) n a b hs hn (by omega) (by omega) (by show (zsm (M.1 96) (M.1 94) (M.1 95) a b n).toInt ≠ _; rw [hS]; omega) (by show 0 < ((M.1 93 6).toInt64 * zpw (M.1 93 5).toInt64 (a + b)).toInt; rw [hD]; exact hDb.1); rw [show zsm ((zansR M (zmu dom a b) (zmd dom a b)).1 96) ((zansR M (zmu dom a b) (zmd dom a b)).1 94) ((zansR M (zmu dom a b) (zmd dom a b)).1 95) a b n = S from hS, show ((zansR M (zmu dom a b) (zmd dom a b)).1 93 6).toInt64 * zpw ((zansR M (zmu dom a b) (zmd dom a b)).1 93 5).toInt64 (a + b) = D from hD] at h; exact h) ?_
  show yOk 113 23 [(5, .long (zfd (zmu dom a b) (zmd dom a b))), (3, .long (zfu (zmu dom a b) (zmd dom a b))), (0, .ref 93), (1, .int (nI a)), (2, .int (nI b))] [] (zansR (zansR M (zmu dom a b) (zmd dom a b)) S D) _ _
  refine yOk.adv 4 (pc' := 28) (lv' := [(5, .long (zfd (zmu dom a b) (zmd dom a b))), (3, .long (zfu (zmu dom a b) (zmd dom a b))), (0, .ref 93), (1, .int (nI a)), (2, .int (nI b))]) (st' := [.long (zfd (zmu dom a b) (zmd dom a b)), .long (-(zfu (zmu dom a b) (zmd dom a b))), .ref 93]) (M' := zansR (zansR M (zmu dom a b) (zmd dom a b)) S D) rfl ?_
  have g1 : (zansR (zansR M (zmu dom a b) (zmd dom a b)) S D).2 93 2 = zfu S D := by unfold zansR zupL; simp
  have g2 : (zansR (zansR M (zmu dom a b) (zmd dom a b)) S D).2 93 3 = zfd S D := by unfold zansR zupL; simp
  have h := r_add (zansR (zansR M (zmu dom a b) (zmd dom a b)) S D) (-zfu (zmu dom a b) (zmd dom a b)) (zfd (zmu dom a b) (zmd dom a b))
  rw [g1, g2] at h
  have h := h (by omega) l4.1 (by rw [k1]; omega) (by rw [k2]; exact Int.mul_pos hb' l4.1)
  refine yOk.call (M1 := zansR (zansR (zansR M (zmu dom a b) (zmd dom a b)) S D) (zfu S D * (zfd (zmu dom a b) (zmd dom a b) / zg (zfd S D) (zfd (zmu dom a b) (zmd dom a b))) + (-zfu (zmu dom a b) (zmd dom a b)) * (zfd S D / zg (zfd S D) (zfd (zmu dom a b) (zmd dom a b)))) (zfd S D / zg (zfd S D) (zfd (zmu dom a b) (zmd dom a b)) * zfd (zmu dom a b) (zmd dom a b))) _ rfl rfl rfl rfl rfl (h) ?_
  show yOk 113 31 [(5, .long (zfd (zmu dom a b) (zmd dom a b))), (3, .long (zfu (zmu dom a b) (zmd dom a b))), (0, .ref 93), (1, .int (nI a)), (2, .int (nI b))] [] (zansR (zansR (zansR M (zmu dom a b) (zmd dom a b)) S D) (zfu S D * (zfd (zmu dom a b) (zmd dom a b) / zg (zfd S D) (zfd (zmu dom a b) (zmd dom a b))) + (-zfu (zmu dom a b) (zmd dom a b)) * (zfd S D / zg (zfd S D) (zfd (zmu dom a b) (zmd dom a b)))) (zfd S D / zg (zfd S D) (zfd (zmu dom a b) (zmd dom a b)) * zfd (zmu dom a b) (zmd dom a b))) _ _
  exact yOk.ret _ rfl rfl rfl
/-- the two errors are the same in least terms -/
theorem zerr_same {A B m e : Int64} (hA : A.toInt.natAbs ≤ 45864714240000) (hB : 0 < B.toInt ∧ B.toInt ≤ 2 ^ 35) (hm : m.toInt.natAbs ≤ 65536) (he : 0 < e.toInt ∧ e.toInt ≤ 65536) :
    zfu (A * e + (-1) * m * B) (B * e) = zfu (A * (e / zg B e) + (-m) * (B / zg B e)) (B / zg B e * e) ∧ zfd (A * e + (-1) * m * B) (B * e) = zfd (A * (e / zg B e) + (-m) * (B / zg B e)) (B / zg B e * e) := by
  obtain ⟨k1, k2, k3⟩ := zerr_m hA hB hm he
  obtain ⟨g, b', e', hg, hb', he', eB, eE, j1, j2, -⟩ := zerr_r hA hB hm he
  refine zf_same (by rw [k2]; exact k3) (by rw [j2]; exact Int.mul_pos hb' he.1) ?_
  rw [k1, k2, j1, j2, eB, eE]
  generalize A.toInt = a
  generalize m.toInt = c
  have x1 : a * (g * e') - c * (g * b') = g * (a * e' - c * b') := by
    rw [Int.mul_sub, ← Int.mul_assoc, ← Int.mul_assoc, ← Int.mul_assoc, ← Int.mul_assoc, Int.mul_comm a g, Int.mul_comm c g]
  rw [x1]
  generalize a * e' - c * b' = x
  rw [Int.mul_comm g x, Int.mul_assoc, ← Int.mul_assoc g b']
