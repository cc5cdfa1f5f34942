/-! ===== greatest common divisors, of both classes ===== -/
/-- Euclid's steps come to their end within n -/
def zend : Nat → Nat → Nat → Prop
  | 0, _, b => b = 0
  | n + 1, a, b => b = 0 ∨ zend n b (a % b)
def zfib : Nat → Nat
  | 0 => 1
  | 1 => 2
  | n + 2 => zfib (n + 1) + zfib n
theorem zend_mono : ∀ (n a b : Nat), zend n a b → zend (n + 1) a b
  | 0, _, _, h => Or.inl h
  | n + 1, a, b, h => h.elim Or.inl (fun h => Or.inr (zend_mono n b (a % b) h))
theorem zend_fib : ∀ (n a b : Nat), b ≤ a → b < zfib n → zend n a b
  | 0, a, b, _, h => by unfold zfib at h; show b = 0; omega
  | 1, a, b, h1, h => by
    unfold zfib at h
    by_cases hb : b = 0
    · exact Or.inl hb
    · refine Or.inr ?_
      have : b = 1 := by omega
      subst this
      show a % 1 = 0
      omega
  | n + 2, a, b, h1, h => by
    by_cases hb : b = 0
    · exact Or.inl hb
    · refine Or.inr ?_
      have hr : a % b < b := Nat.mod_lt _ (by omega)
      by_cases hq : a % b < zfib (n + 1)
      · exact zend_fib (n + 1) b (a % b) (by omega) hq
      · by_cases hr0 : a % b = 0
        · exact Or.inl hr0
        · refine Or.inr (zend_fib n (a % b) (b % (a % b)) ?_ ?_)
          · have := Nat.mod_lt b (show 0 < a % b by omega); omega
          · have h2 : zfib (n + 2) = zfib (n + 1) + zfib n := rfl
            have h3 := Nat.div_add_mod b (a % b)
            have h4 : 1 ≤ b / (a % b) := (Nat.le_div_iff_mul_le (by omega)).mpr (by omega)
            have h5 : a % b ≤ (a % b) * (b / (a % b)) := Nat.le_mul_of_pos_right _ h4
            omega
theorem zend_all (a b : Nat) (hb : b < 2 ^ 63) (ha : a < 2 ^ 63) : zend 93 a b := by
  by_cases h : b ≤ a
  · exact zend_mono _ _ _ (zend_fib 92 a b h (Nat.lt_of_lt_of_le hb (by decide)))
  · refine Or.inr ?_
    have : a % b = a := Nat.mod_eq_of_lt (by omega)
    rw [this]
    exact zend_fib 92 b a (by omega) (Nat.lt_of_lt_of_le ha (by decide))
/-- a long by its number -/
def zNl (n : Nat) : Int64 := Int64.ofNat n
theorem zNl_toInt {n : Nat} (h : n < 2 ^ 63) : (zNl n).toInt = (n : Int) := by
  exact lg_ofNat_toInt (by omega)
theorem zNl_of {x : Int64} (h : 0 ≤ x.toInt) : x = zNl x.toInt.toNat := by
  apply Int64.toInt_inj.mp
  have : x.toInt < 2 ^ 63 := Int64.toInt_lt x
  rw [zNl_toInt (by omega)]
  omega
theorem zNl_rem {a b : Nat} (ha : a < 2 ^ 63) (hb : b < 2 ^ 63) : zNl a - zNl a / zNl b * zNl b = zNl (a % b) := by
  apply Int64.toInt_inj.mp
  have h2 : a % b < 2 ^ 63 := Nat.lt_of_le_of_lt (Nat.mod_le _ _) ha
  rw [Kit.i64_rem_nonneg (by rw [zNl_toInt ha]; omega), zNl_toInt ha, zNl_toInt hb, zNl_toInt h2]
  omega
theorem zcmp0 {b : Nat} (hb : b < 2 ^ 63) : lg_cmp (zNl b) 0 = if b = 0 then 0 else 1 := by
  unfold lg_cmp
  have h0 : (zNl b).toInt = (b : Int) := zNl_toInt hb
  by_cases h : b = 0
  · subst h
    rfl
  · have h1 : zNl b > 0 := by
      show (0 : Int64) < zNl b
      rw [Int64.lt_iff_toInt_lt, h0, Int64.toInt_zero]
      omega
    rw [if_pos h1, if_neg h]
/-- the class's loop -/
theorem m_gcd_loop (M : zMm) : ∀ (n a b t : Nat), zend n a b → a < 2 ^ 63 → b < 2 ^ 63 → t + n < 100 → yOk 71 15 [(4, .long (zNl a)), (6, .long (zNl b)), (8, .int (nI t))] [] M (some (.long (zNl (Nat.gcd a b)))) M
  | n, a, b, t, hz, ha, hb, ht => by
    refine yOk.adv 2 (pc' := 19) (lv' := [(4, .long (zNl a)), (6, .long (zNl b)), (8, .int (nI t))]) (st' := [.int 100, .int (nI t)]) (M' := M) rfl ?_
    refine yOk.if2 .ge _ _ _ _ rfl (fun q => ?_) (fun q => ?_)
    · exact absurd (nI_lt (show t < 100 by omega) (by omega)) (zge_t q)
    · refine yOk.adv 3 (pc' := 26) (lv' := [(4, .long (zNl a)), (6, .long (zNl b)), (8, .int (nI t))]) (st' := [.int (lg_cmp (zNl b) 0)]) (M' := M) rfl ?_
      rw [zcmp0 hb]
      refine yOk.if1 .eq _ _ _ _ rfl (fun q2 => ?_) (fun q2 => ?_)
      · have h0 : b = 0 := Classical.byContradiction fun h => by rw [if_neg h] at q2; cases q2
        refine yOk.adv 1 (pc' := 52) (lv' := [(4, .long (zNl a)), (6, .long (zNl b)), (8, .int (nI t))]) (st' := [.long (zNl a)]) (M' := M) rfl ?_
        subst h0
        rw [Nat.gcd_zero_right]
        exact yOk.ret _ rfl rfl rfl
      · have h0 : ¬ b = 0 := fun h => by rw [if_pos h] at q2; cases q2
        have hb0 : ¬ zNl b = 0 := fun h => by
          have := congrArg Int64.toInt h
          rw [zNl_toInt hb, Int64.toInt_zero] at this
          omega
        match n, hz with
        | 0, hz => exact absurd hz h0
        | n + 1, hz =>
          have hz' : zend n b (a % b) := hz.resolve_left h0
          have hlt : a % b < b := Nat.mod_lt _ (by omega)
          have ih := m_gcd_loop M n b (a % b) (t + 1) hz' hb (by omega) (by omega)
          refine yOk.adv 2 (pc' := 33) (lv' := [(4, .long (zNl a)), (6, .long (zNl b)), (8, .int (nI t))]) (st' := [.long (zNl b), .long (zNl a)]) (M' := M) rfl ?_
          refine yOk.lrem _ _ _ rfl (hb0) ?_
          rw [zNl_rem ha hb]
          refine yOk.adv 7 (pc' := 15) (lv' := [(8, .int (nI t + 1)), (6, .long (zNl (a % b))), (4, .long (zNl b)), (9, .long (zNl (a % b)))]) (st' := []) (M' := M) rfl ?_
          rw [nI_succ, Nat.gcd_comm b (a % b), ← Nat.gcd_rec, Nat.gcd_comm b a] at ih
          exact ih.drop (by refine ⟨?_, ?_⟩ <;> simp [zget, zwf])
/-- the greatest common divisor of two longs, as a long -/
def zg (a b : Int64) : Int64 := zNl (Nat.gcd a.toInt.natAbs b.toInt.natAbs)
theorem zabs_l {x : Int64} (h : x.toInt ≠ -2 ^ 63) : (if 0 < x then x else -x) = zNl x.toInt.natAbs := by
  apply Int64.toInt_inj.mp
  have h1 : x.toInt < 2 ^ 63 := Int64.toInt_lt x
  have h2 : -2 ^ 63 ≤ x.toInt := Int64.le_toInt x
  rw [zNl_toInt (by omega)]
  by_cases h0 : 0 < x
  · rw [if_pos h0]
    rw [Int64.lt_iff_toInt_lt, Int64.toInt_zero] at h0
    omega
  · rw [if_neg h0, Kit.i64_neg h]
    rw [Int64.lt_iff_toInt_lt, Int64.toInt_zero] at h0
    omega
theorem m_gcd (M : zMm) (a b : Int64) (ha : a.toInt ≠ -2 ^ 63) (hb : b.toInt ≠ -2 ^ 63) : yOk 71 0 [(0, .long a), (2, .long b)] [] M (some (.long (zg a b))) M := by
  have a1 : a.toInt < 2 ^ 63 := Int64.toInt_lt a
  have a2 : -2 ^ 63 ≤ a.toInt := Int64.le_toInt a
  have b1 : b.toInt < 2 ^ 63 := Int64.toInt_lt b
  have b2 : -2 ^ 63 ≤ b.toInt := Int64.le_toInt b
  refine yOk.adv 8 (pc' := 15) (lv' := [(8, .int 0), (6, .long (if 0 < b then b else -b)), (4, .long (if 0 < a then a else -a)), (0, .long a), (2, .long b)]) (st' := []) (M' := M) rfl ?_
  rw [zabs_l ha, zabs_l hb]
  have h := m_gcd_loop M 93 a.toInt.natAbs b.toInt.natAbs 0 (zend_all _ _ (by omega) (by omega)) (by omega) (by omega) (by omega)
  exact h.drop (by refine ⟨?_, ?_⟩ <;> simp [zget, zwf, nI])
/-- the reference's -/
theorem r_size (M : zMm) (x : Int64) (h : x.toInt ≠ -2 ^ 63) : yOk 101 0 [(0, .long x)] [] M (some (.long (zNl x.toInt.natAbs))) M := by
  have h1 : x.toInt < 2 ^ 63 := Int64.toInt_lt x
  have h2 : -2 ^ 63 ≤ x.toInt := Int64.le_toInt x
  refine yOk.adv 3 (pc' := 3) (lv' := [(0, .long x)]) (st' := [.int (lg_cmp x 0)]) (M' := M) rfl ?_
  refine yOk.if1 .ge _ _ _ _ rfl (fun q => ?_) (fun q => ?_)
  · have hx : 0 ≤ x.toInt := Classical.byContradiction fun hn => by
      have : lg_cmp x 0 = -1 := by
        unfold lg_cmp
        rw [if_neg (fun h0 => by have h0 : (0 : Int64) < x := h0; rw [Int64.lt_iff_toInt_lt, Int64.toInt_zero] at h0; omega), if_neg (fun h0 => by rw [h0, Int64.toInt_zero] at hn; omega)]
      rw [this] at q
      exact absurd q (by decide)
    refine yOk.adv 1 (pc' := 12) (lv' := [(0, .long x)]) (st' := [.long x]) (M' := M) rfl ?_
    have e : x = zNl x.toInt.natAbs := by rw [show x.toInt.natAbs = x.toInt.toNat by omega]; exact zNl_of hx
    rw [← e]
    exact yOk.ret _ rfl rfl rfl
  · have hx : x.toInt < 0 := Classical.byContradiction fun hn => by
      have : lg_cmp x 0 = 1 ∨ lg_cmp x 0 = 0 := by
        unfold lg_cmp
        by_cases h0 : x > 0
        · exact Or.inl (if_pos h0)
        · have h00 : ¬ (0 : Int64) < x := h0
          rw [Int64.lt_iff_toInt_lt, Int64.toInt_zero] at h00
          have : x = 0 := Int64.toInt_inj.mp (by rw [Int64.toInt_zero]; omega)
          exact Or.inr (by rw [if_neg h0, if_pos this])
      rcases this with e | e <;> rw [e] at q <;> exact absurd q (by decide)
    refine yOk.adv 3 (pc' := 12) (lv' := [(0, .long x)]) (st' := [.long (-x)]) (M' := M) rfl ?_
    have e : -x = zNl x.toInt.natAbs := Int64.toInt_inj.mp (by rw [zNl_toInt (by omega), Kit.i64_neg h]; omega)
    rw [e]
    exact yOk.ret _ rfl rfl rfl
theorem r_gcd_loop (M : zMm) : ∀ (n a b : Nat), zend n a b → a < 2 ^ 63 → b < 2 ^ 63 → yOk 102 12 [(4, .long (zNl a)), (6, .long (zNl b))] [] M (some (.long (zNl (Nat.gcd a b)))) M
  | n, a, b, hz, ha, hb => by
    refine yOk.adv 3 (pc' := 16) (lv' := [(4, .long (zNl a)), (6, .long (zNl b))]) (st' := [.int (lg_cmp (zNl b) 0)]) (M' := M) rfl ?_
    rw [zcmp0 hb]
    refine yOk.if1 .eq _ _ _ _ rfl (fun q2 => ?_) (fun q2 => ?_)
    · have h0 : b = 0 := Classical.byContradiction fun h => by rw [if_neg h] at q2; cases q2
      refine yOk.adv 1 (pc' := 39) (lv' := [(4, .long (zNl a)), (6, .long (zNl b))]) (st' := [.long (zNl a)]) (M' := M) rfl ?_
      subst h0
      rw [Nat.gcd_zero_right]
      exact yOk.ret _ rfl rfl rfl
    · have h0 : ¬ b = 0 := fun h => by rw [if_pos h] at q2; cases q2
      have hb0 : ¬ zNl b = 0 := fun h => by
        have := congrArg Int64.toInt h
        rw [zNl_toInt hb, Int64.toInt_zero] at this
        omega
      match n, hz with
      | 0, hz => exact absurd hz h0
      | n + 1, hz =>
        have hz' : zend n b (a % b) := hz.resolve_left h0
        have hlt : a % b < b := Nat.mod_lt _ (by omega)
        have ih := r_gcd_loop M n b (a % b) hz' hb (by omega)
        refine yOk.adv 2 (pc' := 23) (lv' := [(4, .long (zNl a)), (6, .long (zNl b))]) (st' := [.long (zNl b), .long (zNl a)]) (M' := M) rfl ?_
        refine yOk.lrem _ _ _ rfl (hb0) ?_
        rw [zNl_rem ha hb]
        refine yOk.adv 6 (pc' := 12) (lv' := [(6, .long (zNl (a % b))), (4, .long (zNl b)), (8, .long (zNl (a % b)))]) (st' := []) (M' := M) rfl ?_
        rw [Nat.gcd_comm b (a % b), ← Nat.gcd_rec, Nat.gcd_comm b a] at ih
        exact ih.drop (by refine ⟨?_, ?_⟩ <;> simp [zget, zwf])
theorem r_gcd (M : zMm) (a b : Int64) (ha : a.toInt ≠ -2 ^ 63) (hb : b.toInt ≠ -2 ^ 63) : yOk 102 0 [(0, .long a), (2, .long b)] [] M (some (.long (zg a b))) M := by
  have a1 : a.toInt < 2 ^ 63 := Int64.toInt_lt a
  have a2 : -2 ^ 63 ≤ a.toInt := Int64.le_toInt a
  have b1 : b.toInt < 2 ^ 63 := Int64.toInt_lt b
  have b2 : -2 ^ 63 ≤ b.toInt := Int64.le_toInt b
  refine yOk.adv 1 (pc' := 1) (lv' := [(0, .long a), (2, .long b)]) (st' := [.long a]) (M' := M) rfl ?_
  refine yOk.call (M1 := M) _ rfl rfl rfl rfl rfl (r_size M a ha) ?_
  show yOk 102 4 [(0, .long a), (2, .long b)] [.long (zNl a.toInt.natAbs)] M _ _
  refine yOk.adv 2 (pc' := 7) (lv' := [(4, .long (zNl a.toInt.natAbs)), (0, .long a), (2, .long b)]) (st' := [.long b]) (M' := M) rfl ?_
  refine yOk.call (M1 := M) _ rfl rfl rfl rfl rfl (r_size M b hb) ?_
  show yOk 102 10 [(4, .long (zNl a.toInt.natAbs)), (0, .long a), (2, .long b)] [.long (zNl b.toInt.natAbs)] M _ _
  refine yOk.adv 1 (pc' := 12) (lv' := [(6, .long (zNl b.toInt.natAbs)), (4, .long (zNl a.toInt.natAbs)), (0, .long a), (2, .long b)]) (st' := []) (M' := M) rfl ?_
  have h := r_gcd_loop M 93 a.toInt.natAbs b.toInt.natAbs (zend_all _ _ (by omega) (by omega)) (by omega) (by omega)
  exact h.drop (by refine ⟨?_, ?_⟩ <;> simp [zget, zwf])
