/-! ===== bounds: powers and sums don't wrap ===== -/
theorem zabs_le {x : Int} {n : Nat} (h : x.natAbs ≤ n) : -(n : Int) ≤ x ∧ x ≤ n := by omega
theorem zmul_ok {x y : Int64} {A B : Nat} (hx : x.toInt.natAbs ≤ A) (hy : y.toInt.natAbs ≤ B) (h : A * B < 2 ^ 62) : (x * y).toInt = x.toInt * y.toInt ∧ (x.toInt * y.toInt).natAbs ≤ A * B := by
  have h1 : (x.toInt * y.toInt).natAbs ≤ A * B := by
    rw [Int.natAbs_mul]
    exact Nat.mul_le_mul hx hy
  refine ⟨Kit.i64_mul (by omega) (by omega), h1⟩
theorem zadd_ok {x y : Int64} {A B : Nat} (hx : x.toInt.natAbs ≤ A) (hy : y.toInt.natAbs ≤ B) (h : A + B < 2 ^ 62) : (x + y).toInt = x.toInt + y.toInt ∧ (x.toInt + y.toInt).natAbs ≤ A + B := by
  have h1 : (x.toInt + y.toInt).natAbs ≤ A + B := by omega
  exact ⟨Kit.i64_add (by omega) (by omega), h1⟩
theorem zpw_ok {v : Int64} {B : Nat} (hB : 1 ≤ B) (hv : v.toInt.natAbs ≤ B) : ∀ n : Nat, B ^ n < 2 ^ 62 → (zpw v n).toInt = v.toInt ^ n ∧ (v.toInt ^ n).natAbs ≤ B ^ n
  | 0, _ => ⟨by rw [Int.pow_zero]; rfl, by simp⟩
  | n + 1, h => by
    have hle : B ^ n ≤ B ^ (n + 1) := Nat.pow_le_pow_right hB (by omega)
    obtain ⟨i1, i2⟩ := zpw_ok hB hv n (by omega)
    have hm := zmul_ok (x := zpw v n) (y := v) (A := B ^ n) (B := B) (by rw [i1]; exact i2) hv (by rw [← Nat.pow_succ]; exact h)
    rw [i1] at hm
    refine ⟨?_, ?_⟩
    · show (zpw v n * v).toInt = _
      rw [hm.1, Int.pow_succ]
    · rw [Int.pow_succ, Nat.pow_succ]
      exact hm.2
/-- a sum over places, as an integer -/
def zsumI (w x y : Nat → Int32) (a b : Nat) : Nat → Int
  | 0 => 0
  | n + 1 => zsumI w x y a b n + (w n).toInt * (x n).toInt ^ a * (y n).toInt ^ b
theorem zsm_ok (w x y : Nat → Int32) (a b : Nat) (hab : a + b ≤ 6) (N : Nat) (hw : ∀ p, p < N → (w p).toInt.natAbs ≤ 10000) (hx : ∀ p, p < N → (x p).toInt.natAbs ≤ 24) (hy : ∀ p, p < N → (y p).toInt.natAbs ≤ 24) (hN : N ≤ 24) : ∀ n, n ≤ N → (zsm w x y a b n).toInt = zsumI w x y a b n ∧ (zsumI w x y a b n).natAbs ≤ n * (10000 * 24 ^ 6)
  | 0, _ => ⟨rfl, by simp [zsumI]⟩
  | n + 1, hn => by
    obtain ⟨i1, i2⟩ := zsm_ok w x y a b hab N hw hx hy hN n (by omega)
    have ha6 : 24 ^ a ≤ 24 ^ 6 := Nat.pow_le_pow_right (by omega) (by omega)
    have hb6 : 24 ^ b ≤ 24 ^ 6 := Nat.pow_le_pow_right (by omega) (by omega)
    obtain ⟨p1, p2⟩ := zpw_ok (v := (x n).toInt64) (B := 24) (by omega) (by rw [Kit.i64_of_i32]; exact hx n (by omega)) a (by omega)
    obtain ⟨q1, q2⟩ := zpw_ok (v := (y n).toInt64) (B := 24) (by omega) (by rw [Kit.i64_of_i32]; exact hy n (by omega)) b (by omega)
    rw [Kit.i64_of_i32] at p1 p2 q1 q2
    have hwn : (w n).toInt64.toInt.natAbs ≤ 10000 := by rw [Kit.i64_of_i32]; exact hw n (by omega)
    have m1 := zmul_ok (x := (w n).toInt64) (y := zpw (x n).toInt64 a) (A := 10000) (B := 24 ^ a) hwn (by rw [p1]; exact p2) (by omega)
    rw [Kit.i64_of_i32, p1] at m1
    have hpw : 24 ^ a * 24 ^ b ≤ 24 ^ 6 := by rw [← Nat.pow_add]; exact Nat.pow_le_pow_right (by omega) hab
    have hle : 10000 * 24 ^ a * 24 ^ b ≤ 10000 * 24 ^ 6 := by rw [Nat.mul_assoc]; exact Nat.mul_le_mul_left _ hpw
    have m2 := zmul_ok (x := (w n).toInt64 * zpw (x n).toInt64 a) (y := zpw (y n).toInt64 b) (A := 10000 * 24 ^ a) (B := 24 ^ b) (by rw [m1.1]; exact m1.2) (by rw [q1]; exact q2) (by omega)
    rw [m1.1, q1] at m2
    have s1 := zadd_ok (x := zsm w x y a b n) (y := (w n).toInt64 * zpw (x n).toInt64 a * zpw (y n).toInt64 b) (A := n * (10000 * 24 ^ 6)) (B := 10000 * 24 ^ 6) (by rw [i1]; exact i2) (by rw [m2.1]; exact Nat.le_trans m2.2 hle) (by
      have : n * (10000 * 24 ^ 6) ≤ 24 * (10000 * 24 ^ 6) := Nat.mul_le_mul_right _ (by omega)
      omega)
    rw [i1, m2.1] at s1
    refine ⟨s1.1, ?_⟩
    have e : (n + 1) * (10000 * 24 ^ 6) = n * (10000 * 24 ^ 6) + 10000 * 24 ^ 6 := by rw [Nat.add_mul, Nat.one_mul]
    rw [e]
    exact s1.2
