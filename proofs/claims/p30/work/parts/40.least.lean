/-! ===== one fraction has one writing in least terms ===== -/
theorem zcop {u d : Int} (hd : 0 < d) : ∃ (g a b : Int), 0 < g ∧ 0 < b ∧ u = g * a ∧ d = g * b ∧ Nat.Coprime a.natAbs b.natAbs ∧ u / (Int.gcd u d : Int) = a ∧ d / (Int.gcd u d : Int) = b := by
  have hp : 0 < Int.gcd u d := Nat.gcd_pos_of_pos_right _ (by omega)
  have h1 : (Int.gcd u d : Int) ∣ u := Int.gcd_dvd_left ..
  have h2 : (Int.gcd u d : Int) ∣ d := Int.gcd_dvd_right ..
  obtain ⟨a, ha⟩ := h1
  obtain ⟨b, hb⟩ := h2
  have hg0 : (Int.gcd u d : Int) ≠ 0 := by omega
  have ea : u / (Int.gcd u d : Int) = a := by
    conv => lhs; lhs; rw [ha]
    exact Int.mul_ediv_cancel_left a hg0
  have eb : d / (Int.gcd u d : Int) = b := by
    conv => lhs; lhs; rw [hb]
    exact Int.mul_ediv_cancel_left b hg0
  have hbp : 0 < b := by
    rcases Int.lt_trichotomy b 0 with h | h | h
    · have : (Int.gcd u d : Int) * b < 0 := Int.mul_neg_of_pos_of_neg (by omega) h
      omega
    · rw [h, Int.mul_zero] at hb
      omega
    · exact h
  refine ⟨Int.gcd u d, a, b, by omega, hbp, ha, hb, ?_, ea, eb⟩
  have hn : Nat.gcd u.natAbs d.natAbs = Int.gcd u d := rfl
  have hua : u.natAbs = Int.gcd u d * a.natAbs := by
    have := congrArg Int.natAbs ha
    rw [Int.natAbs_mul, Int.natAbs_natCast] at this
    exact this
  have hdb : d.natAbs = Int.gcd u d * b.natAbs := by
    have := congrArg Int.natAbs hb
    rw [Int.natAbs_mul, Int.natAbs_natCast] at this
    exact this
  have hgg : Int.gcd u d * Nat.gcd a.natAbs b.natAbs = Int.gcd u d := by
    rw [← Nat.gcd_mul_left, ← hua, ← hdb]
    exact hn
  exact Nat.eq_of_mul_eq_mul_left hp (by rw [hgg, Nat.mul_one])
theorem zuniq {u d u' d' : Int} (hd : 0 < d) (hd' : 0 < d') (h : u * d' = u' * d) : u / (Int.gcd u d : Int) = u' / (Int.gcd u' d' : Int) ∧ d / (Int.gcd u d : Int) = d' / (Int.gcd u' d' : Int) := by
  obtain ⟨g, a, b, hg, hb, rfl, rfl, hc, e1, e2⟩ := zcop (u := u) hd
  obtain ⟨g', a', b', hg', hb', rfl, rfl, hc', e1', e2'⟩ := zcop (u := u') hd'
  rw [e1, e2, e1', e2']
  have hab : a * b' = a' * b := by
    have h1 : (g * g') * (a * b') = (g * g') * (a' * b) := by
      have e3 : g * a * (g' * b') = (g * g') * (a * b') := by
        rw [Int.mul_assoc, Int.mul_assoc, ← Int.mul_assoc a g' b', Int.mul_comm a g', Int.mul_assoc]
      have e4 : g' * a' * (g * b) = (g * g') * (a' * b) := by
        rw [Int.mul_comm g g', Int.mul_assoc, Int.mul_assoc, ← Int.mul_assoc a' g b, Int.mul_comm a' g, Int.mul_assoc]
      rw [← e3, ← e4]
      exact h
    exact Int.eq_of_mul_eq_mul_left (Int.ne_of_gt (Int.mul_pos hg hg')) h1
  have hn : a.natAbs * b'.natAbs = a'.natAbs * b.natAbs := by
    have := congrArg Int.natAbs hab
    rw [Int.natAbs_mul, Int.natAbs_mul] at this
    exact this
  have d1 : b.natAbs ∣ b'.natAbs := by
    refine Nat.Coprime.dvd_of_dvd_mul_left hc.symm ?_
    exact ⟨a'.natAbs, by rw [hn, Nat.mul_comm]⟩
  have d2 : b'.natAbs ∣ b.natAbs := by
    refine Nat.Coprime.dvd_of_dvd_mul_left hc'.symm ?_
    exact ⟨a.natAbs, by rw [← hn, Nat.mul_comm]⟩
  have hbb : b = b' := by
    have := Nat.dvd_antisymm d1 d2
    omega
  subst hbb
  exact ⟨Int.eq_of_mul_eq_mul_right (Int.ne_of_gt hb) hab, rfl⟩
/-- two writings of one fraction -/
theorem zf_same {u d u' d' : Int64} (hd : 0 < d.toInt) (hd' : 0 < d'.toInt) (h : u.toInt * d'.toInt = u'.toInt * d.toInt) : zfu u d = zfu u' d' ∧ zfd u d = zfd u' d' := by
  obtain ⟨h1, h2⟩ := zuniq hd hd' h
  exact ⟨Int64.toInt_inj.mp (by rw [zfu_toInt hd, zfu_toInt hd', h1]), Int64.toInt_inj.mp (by rw [zfd_toInt hd, zfd_toInt hd', h2])⟩
