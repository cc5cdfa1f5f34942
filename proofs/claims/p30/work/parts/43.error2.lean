/-! ===== the error of a rule, of both ===== -/
theorem zmb_1 : ∀ a, a < 7 → ∀ b, b < 7 → (zNl ((a + 1) * (b + 1))).toInt ≤ 65536 := by decide
theorem zmb_2 : ∀ a, a < 7 → ∀ b, b < 7 → a + b < 7 → (zNl (zfact (a + b + 2))).toInt ≤ 65536 := by decide
theorem zmb_3 : ∀ a, a < 7 → ∀ b, b < 7 → a + b < 7 → (zNl (4 * zfact a * zfact b)).toInt.natAbs ≤ 65536 := by decide
theorem zmb_4 : ∀ a, a < 7 → ∀ b, b < 7 → a + b < 7 → (zNl (1 * zfact a * zfact b)).toInt.natAbs ≤ 65536 := by decide
theorem zmd_b {dom : Nat} (a : Nat) (ha : a < 7) (b : Nat) (hb : b < 7) (hab : a + b < 7) : (zmd dom a b).toInt ≤ 65536 := by
  unfold zmd
  split
  · decide
  · split
    · exact zmb_1 a ha b hb
    · exact zmb_2 a ha b hb hab
theorem zmu_b {dom : Nat} (a : Nat) (ha : a < 7) (b : Nat) (hb : b < 7) (hab : a + b < 7) : (zmu dom a b).toInt.natAbs ≤ 65536 := by
  unfold zmu
  split
  · decide
  · split
    · decide
    · split
      · exact zmb_3 a ha b hb hab
      · exact zmb_4 a ha b hb hab
/-- the numbers of an error: A by B the sum, m by e the moment, all in least terms -/
theorem zerr_m {A B m e : Int64} (hA : A.toInt.natAbs ≤ 45864714240000) (hB : 0 < B.toInt ∧ B.toInt ≤ 2 ^ 35) (hm : m.toInt.natAbs ≤ 65536) (he : 0 < e.toInt ∧ e.toInt ≤ 65536) : (A * e + (-1) * m * B).toInt = A.toInt * e.toInt - m.toInt * B.toInt ∧ (B * e).toInt = B.toInt * e.toInt ∧ 0 < B.toInt * e.toInt := by
  have h1 := zmul_ok (x := A) (y := e) (A := 45864714240000) (B := 65536) hA (by omega) (by decide)
  have h2 := zmul_ok (x := (-1 : Int64)) (y := m) (A := 1) (B := 65536) (by decide) hm (by decide)
  have e1 : ((-1 : Int64)).toInt = -1 := rfl
  have h3 := zmul_ok (x := (-1 : Int64) * m) (y := B) (A := 1 * 65536) (B := 2 ^ 35) (by rw [h2.1]; exact h2.2) (by omega) (by decide)
  have h4 := zadd_ok (x := A * e) (y := (-1) * m * B) (A := 45864714240000 * 65536) (B := 1 * 65536 * 2 ^ 35) (by rw [h1.1]; exact h1.2) (by rw [h3.1]; exact h3.2) (by decide)
  have h5 := zmul_ok (x := B) (y := e) (A := 2 ^ 35) (B := 65536) (by omega) (by omega) (by decide)
  refine ⟨?_, h5.1, Int.mul_pos hB.1 he.1⟩
  rw [h4.1, h1.1, h3.1, h2.1, e1, Int.neg_one_mul, Int.neg_mul]
  omega
theorem m_findError (M : zMm) (n dom a b : Nat) (hs : M.1 1 3 = nI n) (hn : n ≤ 24) (hm : M.1 1 0 = nI dom) (hdom : dom < 3) (ha : a < 7) (hb : b < 7) (hab : a + b < 7) (S D : Int64) (hS : zsm (M.1 4) (M.1 2) (M.1 3) a b n = S) (hD : (M.1 1 2).toInt64 * zpw (M.1 1 1).toInt64 (a + b) = D) (hSb : S.toInt.natAbs ≤ 45864714240000) (hDb : 0 < D.toInt ∧ D.toInt ≤ 2 ^ 35) :
    yOk 78 0 [(0, .ref 0), (1, .int (nI a)), (2, .int (nI b))] [] M none (zansM (zupL (zupL (zansM M S D) 53 0 (zfu (zmu dom a b) (zmd dom a b))) 53 1 (zfd (zmu dom a b) (zmd dom a b))) (zfu S D * zfd (zmu dom a b) (zmd dom a b) + (-1) * zfu (zmu dom a b) (zmd dom a b) * zfd S D) (zfd S D * zfd (zmu dom a b) (zmd dom a b))) := by
  have hmp := zmd_pos (dom := dom) a ha b hb hab
  have hmb := zmd_b (dom := dom) a ha b hb hab
  have hub := zmu_b (dom := dom) a ha b hb hab
  have l1 := zfu_le (u := S) hDb.1
  have l2 := zfd_le (u := S) hDb.1
  have l3 := zfu_le (u := zmu dom a b) hmp
  have l4 := zfd_le (u := zmu dom a b) hmp
  obtain ⟨k1, k2, k3⟩ := zerr_m (A := zfu S D) (B := zfd S D) (m := zfu (zmu dom a b) (zmd dom a b)) (e := zfd (zmu dom a b) (zmd dom a b)) (by omega) ⟨l2.1, by omega⟩ (by omega) ⟨l4.1, by omega⟩
  refine yOk.adv 3 (pc' := 3) (lv' := [(0, .ref 0), (1, .int (nI a)), (2, .int (nI b))]) (st' := [.int (nI b), .int (nI a), .ref 0]) (M' := M) rfl ?_
  refine yOk.call (M1 := zansM M S D) _ rfl rfl rfl rfl rfl (by have h := m_findSum M n a b hs hn (by omega) (by omega) (by rw [hS]; omega) (by rw [hD]; exact hDb.1); rw [hS, hD] at h; exact h) ?_
  show yOk 78 6 [(0, .ref 0), (1, .int (nI a)), (2, .int (nI b))] [] (zansM M S D) _ _
  refine yOk.adv 5 (pc' := 17) (lv' := [(0, .ref 0), (1, .int (nI a)), (2, .int (nI b))]) (st' := [.int ((zansM M S D).1 1 0), .ref 53]) (M' := zansM M S D) rfl ?_
  have hm2 : (zansM M S D).1 1 0 = nI dom := hm
  rw [hm2]
  refine yOk.adv 2 (pc' := 19) (lv' := [(0, .ref 0), (1, .int (nI a)), (2, .int (nI b))]) (st' := [.int (nI b), .int (nI a), .int (nI dom), .ref 53]) (M' := zansM M S D) rfl ?_
  refine yOk.call (M1 := zupL (zupL (zansM M S D) 53 0 (zfu (zmu dom a b) (zmd dom a b))) 53 1 (zfd (zmu dom a b) (zmd dom a b))) _ rfl rfl rfl rfl rfl (m_moment_53 (zansM M S D) dom a b hdom ha hb hab) ?_
  show yOk 78 22 [(0, .ref 0), (1, .int (nI a)), (2, .int (nI b))] [] (zupL (zupL (zansM M S D) 53 0 (zfu (zmu dom a b) (zmd dom a b))) 53 1 (zfd (zmu dom a b) (zmd dom a b))) _ _
  refine yOk.adv 5 (pc' := 33) (lv' := [(0, .ref 0), (1, .int (nI a)), (2, .int (nI b))]) (st' := [.ref 53, .long (-1), .ref 52]) (M' := zupL (zupL (zansM M S D) 53 0 (zfu (zmu dom a b) (zmd dom a b))) 53 1 (zfd (zmu dom a b) (zmd dom a b))) rfl ?_
  have e1 : (zupL (zupL (zansM M S D) 53 0 (zfu (zmu dom a b) (zmd dom a b))) 53 1 (zfd (zmu dom a b) (zmd dom a b))).2 52 0 = zfu S D := by unfold zansM zupL; simp
  have e2 : (zupL (zupL (zansM M S D) 53 0 (zfu (zmu dom a b) (zmd dom a b))) 53 1 (zfd (zmu dom a b) (zmd dom a b))).2 52 1 = zfd S D := by unfold zansM zupL; simp
  have e3 : (zupL (zupL (zansM M S D) 53 0 (zfu (zmu dom a b) (zmd dom a b))) 53 1 (zfd (zmu dom a b) (zmd dom a b))).2 53 0 = zfu (zmu dom a b) (zmd dom a b) := by unfold zupL; simp
  have e4 : (zupL (zupL (zansM M S D) 53 0 (zfu (zmu dom a b) (zmd dom a b))) 53 1 (zfd (zmu dom a b) (zmd dom a b))).2 53 1 = zfd (zmu dom a b) (zmd dom a b) := by unfold zupL; simp
  have h := m_addTimes (zupL (zupL (zansM M S D) 53 0 (zfu (zmu dom a b) (zmd dom a b))) 53 1 (zfd (zmu dom a b) (zmd dom a b))) (-1)
  rw [e1, e2, e3, e4] at h
  have h1 : (zfu (zmu dom a b) (zmd dom a b)).toInt.natAbs * (zfd S D).toInt.natAbs ≤ 65536 * 2 ^ 35 := Nat.mul_le_mul (by omega) (by omega)
  have h2 : (zfu S D).toInt.natAbs * (zfd (zmu dom a b) (zmd dom a b)).toInt.natAbs ≤ 45864714240000 * 65536 := Nat.mul_le_mul (by omega) (by omega)
  rw [← Int.natAbs_mul] at h1 h2
  have h := h (by rw [k1]; omega) (by rw [k2]; exact k3)
  refine yOk.call (M1 := zansM (zupL (zupL (zansM M S D) 53 0 (zfu (zmu dom a b) (zmd dom a b))) 53 1 (zfd (zmu dom a b) (zmd dom a b))) (zfu S D * zfd (zmu dom a b) (zmd dom a b) + (-1) * zfu (zmu dom a b) (zmd dom a b) * zfd S D) (zfd S D * zfd (zmu dom a b) (zmd dom a b))) _ rfl rfl rfl rfl rfl (h) ?_
  show yOk 78 36 [(0, .ref 0), (1, .int (nI a)), (2, .int (nI b))] [] (zansM (zupL (zupL (zansM M S D) 53 0 (zfu (zmu dom a b) (zmd dom a b))) 53 1 (zfd (zmu dom a b) (zmd dom a b))) (zfu S D * zfd (zmu dom a b) (zmd dom a b) + (-1) * zfu (zmu dom a b) (zmd dom a b) * zfd S D) (zfd S D * zfd (zmu dom a b) (zmd dom a b))) _ _
  exact yOk.ret _ rfl rfl rfl
