/-! ===== sizes of fractions in least terms ===== -/
theorem zfu_le {u d : Int64} (hd : 0 < d.toInt) : (zfu u d).toInt.natAbs ≤ u.toInt.natAbs := by
  rw [zfu_toInt hd]
  obtain ⟨g, a, b, hg, hb, e1, e2, -, e3, -⟩ := zcop (u := u.toInt) hd
  rw [e3, e1, Int.natAbs_mul]
  exact Nat.le_mul_of_pos_left _ (by omega)
theorem zfd_le {u d : Int64} (hd : 0 < d.toInt) : 0 < (zfd u d).toInt ∧ (zfd u d).toInt ≤ d.toInt := by
  rw [zfd_toInt hd]
  obtain ⟨g, a, b, hg, hb, e1, e2, -, -, e4⟩ := zcop (u := u.toInt) hd
  rw [e4]
  refine ⟨hb, ?_⟩
  have h : b * 1 ≤ b * g := Int.mul_le_mul_of_nonneg_left (by omega) (by omega)
  have e5 : b * g = d.toInt := by rw [e2, Int.mul_comm]
  omega
/-- the fraction itself -/
theorem zf_cross {u d : Int64} (hd : 0 < d.toInt) : (zfu u d).toInt * d.toInt = u.toInt * (zfd u d).toInt := by
  rw [zfu_toInt hd, zfd_toInt hd]
  obtain ⟨g, a, b, hg, hb, e1, e2, -, e3, e4⟩ := zcop (u := u.toInt) hd
  rw [e3, e4]
  conv => lhs; rhs; rw [e2]
  conv => rhs; lhs; rw [e1]
  rw [← Int.mul_assoc, Int.mul_comm a g]
/-- dividing by the greatest common divisor of two numbers above 0 -/
theorem zg_split {b e : Int64} (hb : 0 < b.toInt) (he : 0 < e.toInt) : ∃ g b' e' : Int, 0 < g ∧ 0 < b' ∧ 0 < e' ∧ b.toInt = g * b' ∧ e.toInt = g * e' ∧ (b / zg b e).toInt = b' ∧ (e / zg b e).toInt = e' := by
  obtain ⟨g, a, c, hg, hc, e1, e2, -, e3, e4⟩ := zcop (u := b.toInt) he
  have h1 := zfu_toInt (u := b) he
  have h2 := zfd_toInt (u := b) he
  rw [e3] at h1
  rw [e4] at h2
  have ha : 0 < a := by
    rcases Int.lt_trichotomy a 0 with h | h | h
    · have : g * a < 0 := Int.mul_neg_of_pos_of_neg hg h
      omega
    · rw [h, Int.mul_zero] at e1
      omega
    · exact h
  exact ⟨g, a, c, hg, ha, hc, e1, e2, h1, h2⟩
