/-! ===== byRule, of both ===== -/
theorem zpw_lI (x : Int) : ∀ n, zpw (lI x) n = lI (x ^ n)
  | 0 => by rw [Int.pow_zero]; rfl
  | n + 1 => by
    show zpw (lI x) n * lI x = lI (x ^ (n + 1))
    rw [zpw_lI x n, lI_mul, Int.pow_succ]
def zVf (cf : Nat → Int) (Q x y : Int) (t : Nat) : Int := cf t * x ^ zpxN t * y ^ zpyN t * Q ^ (4 - zpxN t - zpyN t)
def zVv (cf : Nat → Int) (Q x y : Int) : Int := zclsN (zVf cf Q x y) 15 0 0
theorem zVf_b {cf : Nat → Int} {Q x y : Int} (hcf : ∀ t, t < 15 → (cf t).natAbs ≤ 1000) (hQ : Q.natAbs ≤ 48) (hx : x.natAbs ≤ 48) (hy : y.natAbs ≤ 48) (t : Nat) (ht : t < 15) : (zVf cf Q x y t).natAbs ≤ 5308416000 := by
  have h4 := zpxN_4 t ht
  unfold zVf
  have p1 : (x ^ zpxN t).natAbs ≤ 48 ^ zpxN t := by rw [Int.natAbs_pow]; exact Nat.pow_le_pow_left hx _
  have p2 : (y ^ zpyN t).natAbs ≤ 48 ^ zpyN t := by rw [Int.natAbs_pow]; exact Nat.pow_le_pow_left hy _
  have p3 : (Q ^ (4 - zpxN t - zpyN t)).natAbs ≤ 48 ^ (4 - zpxN t - zpyN t) := by rw [Int.natAbs_pow]; exact Nat.pow_le_pow_left hQ _
  have h := zmulb (zmulb (zmulb (hcf t ht) p1) p2) p3
  have e : 1000 * 48 ^ zpxN t * 48 ^ zpyN t * 48 ^ (4 - zpxN t - zpyN t) = 1000 * 48 ^ 4 := by
    rw [Nat.mul_assoc, Nat.mul_assoc, ← Nat.pow_add, ← Nat.pow_add]
    congr 2
    omega
  rw [e] at h
  exact h
theorem zclsN_b {f : Nat → Int} {B : Nat} (hf : ∀ t, t < 15 → (f t).natAbs ≤ B) : ∀ (d t : Nat) (N : Int), t + d = 15 → (zclsN f d t N).natAbs ≤ N.natAbs + d * B
  | 0, _, N, _ => by simp [zclsN]
  | d + 1, t, N, h => by
    have h1 := zclsN_b hf d (t + 1) (N + f t) (by omega)
    have h2 := hf t (by omega)
    have h3 : (N + f t).natAbs ≤ N.natAbs + (f t).natAbs := Int.natAbs_add_le N (f t)
    show (zclsN f d (t + 1) (N + f t)).natAbs ≤ _
    rw [Nat.succ_mul]
    omega
theorem zVv_b {cf : Nat → Int} {Q x y : Int} (hcf : ∀ t, t < 15 → (cf t).natAbs ≤ 1000) (hQ : Q.natAbs ≤ 48) (hx : x.natAbs ≤ 48) (hy : y.natAbs ≤ 48) : (zVv cf Q x y).natAbs ≤ 79626240000 := by
  have := zclsN_b (zVf_b hcf hQ hx hy) 15 0 0 rfl
  unfold zVv
  simpa using this
theorem m_val_loop (M0 : zMm) (cf : Nat → Int) (hcf : ∀ t, t < 15 → (cf t).natAbs ≤ 1000) (Q x y Nz : Int) : ∀ (d t : Nat) (M : zMm) (N : Int), t + d = 15 → (∀ t, t < 15 → M.1 56 t = iI (cf t)) → (∀ j, j < 5 → M.2 57 j = lI (x ^ j)) → (∀ j, j < 5 → M.2 58 j = lI (y ^ j)) → (∀ j, j < 5 → M.2 59 j = lI (Q ^ j)) → zclsN (zVf cf Q x y) d t N = Nz → zKp [57, 58] [] M0 M →
    yR 87 23 [(0, .ref 0), (3, .long (lI N)), (5, .int (nI t))] [] M (fun r N => r = some (.long (lI Nz)) ∧ zKp [57, 58] [] M0 N) := by
  intro d
  induction d using Nat.strongRecOn with
  | ind d ih =>
    intro t M N h hc h1 h2 h3 hz hE
    refine yR.adv 2 (pc' := 27) (lv' := [(0, .ref 0), (3, .long (lI N)), (5, .int (nI t))]) (st' := [.int 15, .int (nI t)]) (M' := M) rfl ?_
    refine yR.if2 .ge _ _ _ _ rfl (fun q1 => ?_) (fun q1 => ?_)
    · have q1' : (15 : Int) ≤ t := zcT q1 (nI_toInt (by omega)) rfl
      have hd : d = 0 := by omega
      subst hd
      refine yR.adv 1 (pc' := 107) (lv' := [(0, .ref 0), (3, .long (lI N)), (5, .int (nI t))]) (st' := [.long (lI N)]) (M' := M) rfl ?_
      refine yR.ret _ rfl rfl rfl ?_
      exact ⟨by rw [show Nz = N from hz.symm], hE⟩
    · have q1' : ¬ (15 : Int) ≤ t := zcF q1 (nI_toInt (by omega)) rfl
      obtain ⟨d', rfl⟩ : ∃ d', d = d' + 1 := ⟨d - 1, by omega⟩
      obtain ⟨hpx, hpy, h7⟩ := zpxN_ok t (by omega)
      have h4 := zpxN_4 t (by omega)
      have hct := hc t (by omega)
      have hcb := hcf t (by omega)
      have hz2 : zclsN (zVf cf Q x y) d' (t + 1) (N + zVf cf Q x y t) = Nz := hz
      refine yR.adv 3 (pc' := 36) (lv' := [(0, .ref 0), (3, .long (lI N)), (5, .int (nI t))]) (st' := [.int (nI t), .ref 56]) (M' := M) rfl ?_
      refine yR.iald t _ _ _ rfl rfl (by decide) (rfl) (by omega) ?_
      rw [hct]
      refine yR.if1 .eq _ _ _ _ rfl (fun q2 => ?_) (fun q2 => ?_)
      · have q2' : cf t = 0 := zcT q2 (iI_toInt (by omega)) rfl
        refine yR.adv 2 (pc' := 23) (lv' := [(5, .int (nI t + 1)), (0, .ref 0), (3, .long (lI N))]) (st' := []) (M' := M) rfl ?_
        have hf : zVf cf Q x y t = 0 := by unfold zVf; rw [q2']; simp
        rw [hf, Int.add_zero] at hz2
        exact (ih d' (by omega) (t + 1) M N (by omega) hc h1 h2 h3 hz2 hE).drop (by refine ⟨?_, ?_⟩ <;> simp [zget, zwf, nI_succ])
      · refine yR.adv 3 (pc' := 46) (lv' := [(0, .ref 0), (3, .long (lI N)), (5, .int (nI t))]) (st' := [.int (nI t), .retAddr 0, .int 4]) (M' := M) rfl ?_
        refine yR.fald t _ _ _ rfl rfl (by decide) (rfl) (show t < 28 from by omega) ?_
        rw [hpx]
        refine yR.adv 3 (pc' := 53) (lv' := [(0, .ref 0), (3, .long (lI N)), (5, .int (nI t))]) (st' := [.int (nI t), .retAddr 1, .int (4 - (nI (zpxN t)))]) (M' := M) rfl ?_
        refine yR.fald t _ _ _ rfl rfl (by decide) (rfl) (show t < 28 from by omega) ?_
        rw [hpy]
        refine yR.adv 6 (pc' := 64) (lv' := [(6, .int ((4 - (nI (zpxN t))) - (nI (zpyN t)))), (0, .ref 0), (3, .long (lI N)), (5, .int (nI t))]) (st' := [.int (nI t), .ref 56, .long (lI N)]) (M' := M) rfl ?_
        have hmi : (4 : Int32) - nI (zpxN t) - nI (zpyN t) = nI (4 - zpxN t - zpyN t) := by
          rw [show (4 : Int32) = iI 4 from rfl, nI_iI, nI_iI, nI_iI, iI_sub, iI_sub]
          congr 1
          omega
        rw [hmi]
        refine yR.iald t _ _ _ rfl rfl (by decide) (rfl) (by omega) ?_
        rw [hct]
        refine yR.adv 5 (pc' := 75) (lv' := [(6, .int (nI (4 - zpxN t - zpyN t))), (0, .ref 0), (3, .long (lI N)), (5, .int (nI t))]) (st' := [.int (nI t), .retAddr 0, .ref 57, .long ((iI (cf t)).toInt64), .long (lI N)]) (M' := M) rfl ?_
        refine yR.fald t _ _ _ rfl rfl (by decide) (rfl) (show t < 28 from by omega) ?_
        refine yR.lald (zpxN t) _ _ _ rfl rfl (by decide) (hpx) (by omega) ?_
        rw [h1 _ (by omega)]
        refine yR.adv 5 (pc' := 87) (lv' := [(6, .int (nI (4 - zpxN t - zpyN t))), (0, .ref 0), (3, .long (lI N)), (5, .int (nI t))]) (st' := [.int (nI t), .retAddr 1, .ref 58, .long (((iI (cf t)).toInt64) * (lI (x ^ zpxN t))), .long (lI N)]) (M' := M) rfl ?_
        refine yR.fald t _ _ _ rfl rfl (by decide) (rfl) (show t < 28 from by omega) ?_
        refine yR.lald (zpyN t) _ _ _ rfl rfl (by decide) (hpy) (by omega) ?_
        rw [h2 _ (by omega)]
        refine yR.adv 4 (pc' := 96) (lv' := [(6, .int (nI (4 - zpxN t - zpyN t))), (0, .ref 0), (3, .long (lI N)), (5, .int (nI t))]) (st' := [.int (nI (4 - zpxN t - zpyN t)), .ref 59, .long ((((iI (cf t)).toInt64) * (lI (x ^ zpxN t))) * (lI (y ^ zpyN t))), .long (lI N)]) (M' := M) rfl ?_
        refine yR.lald (4 - zpxN t - zpyN t) _ _ _ rfl rfl (by decide) (rfl) (by omega) ?_
        rw [h3 _ (by omega)]
        refine yR.adv 5 (pc' := 23) (lv' := [(5, .int (nI t + 1)), (3, .long ((lI N) + (((((iI (cf t)).toInt64) * (lI (x ^ zpxN t))) * (lI (y ^ zpyN t))) * (lI (Q ^ (4 - zpxN t - zpyN t)))))), (6, .int (nI (4 - zpxN t - zpyN t))), (0, .ref 0)]) (st' := []) (M' := M) rfl ?_
        rw [iI_l (by omega), lI_mul, lI_mul, lI_mul, lI_add]
        exact (ih d' (by omega) (t + 1) M (N + zVf cf Q x y t) (by omega) hc h1 h2 h3 hz2 hE).drop (by refine ⟨?_, ?_⟩ <;> simp [zget, zwf, nI_succ, zVf])
theorem m_valueAt (M : zMm) (cf : Nat → Int) (hcf : ∀ t, t < 15 → (cf t).natAbs ≤ 1000) (hc : ∀ t, t < 15 → M.1 56 t = iI (cf t)) (Q x y : Int) (hx : x.natAbs ≤ 1000) (hy : y.natAbs ≤ 1000) (h3 : ∀ j, j < 5 → M.2 59 j = lI (Q ^ j)) : yR 87 0 [(0, .ref 0), (1, .int (iI x)), (2, .int (iI y))] [] M (fun r N => r = some (.long (lI (zVv cf Q x y))) ∧ zKp [57, 58] [] M N) := by
  refine yR.adv 4 (pc' := 6) (lv' := [(0, .ref 0), (1, .int (iI x)), (2, .int (iI y))]) (st' := [.ref 57, .long ((iI x).toInt64)]) (M' := M) rfl ?_
  rw [iI_l (by omega)]
  refine yR.call _ rfl rfl rfl rfl rfl (m_fillP_57 M (lI x)) (fun r1 M1 hq => ?_)
  obtain ⟨rfl, f1, e1⟩ := hq
  show yR 87 9 [(0, .ref 0), (1, .int (iI x)), (2, .int (iI y))] [] M1 _
  refine yR.adv 4 (pc' := 15) (lv' := [(0, .ref 0), (1, .int (iI x)), (2, .int (iI y))]) (st' := [.ref 58, .long ((iI y).toInt64)]) (M' := M1) rfl ?_
  rw [iI_l (by omega)]
  refine yR.call _ rfl rfl rfl rfl rfl (m_fillP_58 M1 (lI y)) (fun r1 M2 hq => ?_)
  obtain ⟨rfl, f2, e2⟩ := hq
  show yR 87 18 [(0, .ref 0), (1, .int (iI x)), (2, .int (iI y))] [] M2 _
  refine yR.adv 4 (pc' := 23) (lv' := [(5, .int 0), (3, .long 0), (0, .ref 0), (1, .int (iI x)), (2, .int (iI y))]) (st' := []) (M' := M2) rfl ?_
  have K := m_val_loop M cf hcf Q x y (zVv cf Q x y) 15 0 M2 0 rfl (fun t ht => by rw [(e2 56 t (by decide) (by simp)).1, (e1 56 t (by decide) (by simp)).1]; exact hc t ht) (fun j hj => by rw [(e2 57 j (by decide) (by simp)).2, f1 j hj, zpw_lI]) (fun j hj => by rw [f2 j hj, zpw_lI]) (fun j hj => by rw [(e2 59 j (by decide) (by simp)).2, (e1 59 j (by decide) (by simp)).2]; exact h3 j hj) rfl ((e1.sub (by decide)).trans (e2.sub (by decide)))
  exact K.drop (by refine ⟨?_, ?_⟩ <;> simp [zget, zwf, nI_0] <;> rfl)
-- the reference's
theorem r_powerN (M : zMm) (v : Int64) (n : Nat) (h : n < 1000) : yOk 106 0 [(0, .long v), (2, .int (nI n))] [] M (some (.long (zpw v n))) M := by
  have := r_power M v (nI n) (nI_pos (by omega))
  rwa [nI_clamp (by omega)] at this
theorem r_val_in {Q' : Option Value → zMm → Prop} (M : zMm) (cf : Nat → Int) (hcf : ∀ t, t < 15 → (cf t).natAbs ≤ 1000) (hc : ∀ t, t < 15 → M.1 117 t = iI (cf t)) (Q x y Nz : Int) (a : Nat) (ha : a < 5) (K : yR 151 75 [(0, .ref 93), (1, .long (lI x)), (3, .long (lI y)), (5, .long (lI Q)), (7, .long (lI Nz)), (9, .int (nI a))] [] M Q') : ∀ (d b : Nat) (N : Int), b + d = 5 - a → zrowN (zVf cf Q x y) a d b N = Nz →
    yR 151 15 [(0, .ref 93), (1, .long (lI x)), (3, .long (lI y)), (5, .long (lI Q)), (7, .long (lI N)), (9, .int (nI a)), (10, .int (nI b))] [] M Q' := by
  intro d
  induction d using Nat.strongRecOn with
  | ind d ih =>
    intro b N h hz
    refine yR.adv 4 (pc' := 21) (lv' := [(0, .ref 93), (1, .long (lI x)), (3, .long (lI y)), (5, .long (lI Q)), (7, .long (lI N)), (9, .int (nI a)), (10, .int (nI b))]) (st' := [.int 4, .int ((nI a) + (nI b))]) (M' := M) rfl ?_
    rw [nI_add]
    refine yR.if2 .gt _ _ _ _ rfl (fun q1 => ?_) (fun q1 => ?_)
    · have q1' : (4 : Int) < ((a + b : Nat) : Int) := zcT q1 (nI_toInt (by omega)) rfl
      have hd : d = 0 := by omega
      subst hd
      have hz' : Nz = N := hz.symm
      subst hz'
      exact K.drop (by refine ⟨?_, ?_⟩ <;> simp [zget, zwf])
    · have q1' : ¬ (4 : Int) < ((a + b : Nat) : Int) := zcF q1 (nI_toInt (by omega)) rfl
      obtain ⟨d', rfl⟩ : ∃ d', d = d' + 1 := ⟨d - 1, by omega⟩
      obtain ⟨o1, o2, o3⟩ := ztrm a ha b (by omega) (by omega)
      have hz2 : zrowN (zVf cf Q x y) a d' (b + 1) (N + zVf cf Q x y ((a + b) * (a + b + 1) / 2 + b)) = Nz := hz
      generalize htt : (a + b) * (a + b + 1) / 2 + b = t at o1 o2 o3 hz2
      have hcb := hcf t o1
      have hf : zVf cf Q x y t = cf t * x ^ a * y ^ b * Q ^ (4 - a - b) := by unfold zVf; rw [o2, o3]
      refine yR.adv 5 (pc' := 34) (lv' := [(0, .ref 93), (1, .long (lI x)), (3, .long (lI y)), (5, .long (lI Q)), (7, .long (lI N)), (9, .int (nI a)), (10, .int (nI b))]) (st' := [.int (nI b), .int (nI a), .ref 117, .long (lI N)]) (M' := M) rfl ?_
      refine yR.callK (M1 := M) _ rfl rfl rfl rfl rfl (r_termOf M a b ha (by omega)) ?_
      show yR 151 37 [(0, .ref 93), (1, .long (lI x)), (3, .long (lI y)), (5, .long (lI Q)), (7, .long (lI N)), (9, .int (nI a)), (10, .int (nI b))] [.int (nI ((a + b) * (a + b + 1) / 2 + b)), .ref 117, .long (lI N)] M _
      rw [htt]
      refine yR.iald t _ _ _ rfl rfl (by decide) (rfl) (by omega) ?_
      rw [hc t o1]
      refine yR.adv 3 (pc' := 42) (lv' := [(0, .ref 93), (1, .long (lI x)), (3, .long (lI y)), (5, .long (lI Q)), (7, .long (lI N)), (9, .int (nI a)), (10, .int (nI b))]) (st' := [.int (nI a), .long (lI x), .long ((iI (cf t)).toInt64), .long (lI N)]) (M' := M) rfl ?_
      refine yR.callK (M1 := M) _ rfl rfl rfl rfl rfl (r_powerN M (lI x) a (by omega)) ?_
      show yR 151 45 [(0, .ref 93), (1, .long (lI x)), (3, .long (lI y)), (5, .long (lI Q)), (7, .long (lI N)), (9, .int (nI a)), (10, .int (nI b))] [.long (zpw (lI x) a), .long ((iI (cf t)).toInt64), .long (lI N)] M _
      refine yR.adv 3 (pc' := 49) (lv' := [(0, .ref 93), (1, .long (lI x)), (3, .long (lI y)), (5, .long (lI Q)), (7, .long (lI N)), (9, .int (nI a)), (10, .int (nI b))]) (st' := [.int (nI b), .long (lI y), .long (((iI (cf t)).toInt64) * (zpw (lI x) a)), .long (lI N)]) (M' := M) rfl ?_
      refine yR.callK (M1 := M) _ rfl rfl rfl rfl rfl (r_powerN M (lI y) b (by omega)) ?_
      show yR 151 52 [(0, .ref 93), (1, .long (lI x)), (3, .long (lI y)), (5, .long (lI Q)), (7, .long (lI N)), (9, .int (nI a)), (10, .int (nI b))] [.long (zpw (lI y) b), .long (((iI (cf t)).toInt64) * (zpw (lI x) a)), .long (lI N)] M _
      refine yR.adv 7 (pc' := 62) (lv' := [(0, .ref 93), (1, .long (lI x)), (3, .long (lI y)), (5, .long (lI Q)), (7, .long (lI N)), (9, .int (nI a)), (10, .int (nI b))]) (st' := [.int ((4 - (nI a)) - (nI b)), .long (lI Q), .long ((((iI (cf t)).toInt64) * (zpw (lI x) a)) * (zpw (lI y) b)), .long (lI N)]) (M' := M) rfl ?_
      have hmi : (4 : Int32) - nI a - nI b = nI (4 - a - b) := by
        rw [show (4 : Int32) = iI 4 from rfl, nI_iI, nI_iI, nI_iI, iI_sub, iI_sub]
        congr 1
        omega
      rw [hmi]
      refine yR.callK (M1 := M) _ rfl rfl rfl rfl rfl (r_powerN M (lI Q) (4 - a - b) (by omega)) ?_
      show yR 151 65 [(0, .ref 93), (1, .long (lI x)), (3, .long (lI y)), (5, .long (lI Q)), (7, .long (lI N)), (9, .int (nI a)), (10, .int (nI b))] [.long (zpw (lI Q) (4 - a - b)), .long ((((iI (cf t)).toInt64) * (zpw (lI x) a)) * (zpw (lI y) b)), .long (lI N)] M _
      refine yR.adv 5 (pc' := 15) (lv' := [(10, .int (nI b + 1)), (7, .long ((lI N) + (((((iI (cf t)).toInt64) * (zpw (lI x) a)) * (zpw (lI y) b)) * (zpw (lI Q) (4 - a - b))))), (0, .ref 93), (1, .long (lI x)), (3, .long (lI y)), (5, .long (lI Q)), (9, .int (nI a))]) (st' := []) (M' := M) rfl ?_
      rw [zpw_lI, zpw_lI, zpw_lI, iI_l (by omega), lI_mul, lI_mul, lI_mul, lI_add, ← hf]
      exact (ih d' (by omega) (b + 1) (N + zVf cf Q x y t) (by omega) hz2).drop (by refine ⟨?_, ?_⟩ <;> simp [zget, zwf, nI_succ])
theorem r_val_out (M : zMm) (cf : Nat → Int) (hcf : ∀ t, t < 15 → (cf t).natAbs ≤ 1000) (hc : ∀ t, t < 15 → M.1 117 t = iI (cf t)) (Q x y Nz : Int) : ∀ (d a : Nat) (N : Int), a + d = 5 → zallN (zVf cf Q x y) d a N = Nz →
    yR 151 6 [(0, .ref 93), (1, .long (lI x)), (3, .long (lI y)), (5, .long (lI Q)), (7, .long (lI N)), (9, .int (nI a))] [] M (fun r N => r = some (.long (lI Nz)) ∧ N = M) := by
  intro d
  induction d using Nat.strongRecOn with
  | ind d ih =>
    intro a N h hz
    refine yR.adv 2 (pc' := 9) (lv' := [(0, .ref 93), (1, .long (lI x)), (3, .long (lI y)), (5, .long (lI Q)), (7, .long (lI N)), (9, .int (nI a))]) (st' := [.int 4, .int (nI a)]) (M' := M) rfl ?_
    refine yR.if2 .gt _ _ _ _ rfl (fun q1 => ?_) (fun q1 => ?_)
    · have q1' : (4 : Int) < a := zcT q1 (nI_toInt (by omega)) rfl
      have hd : d = 0 := by omega
      subst hd
      refine yR.adv 1 (pc' := 83) (lv' := [(0, .ref 93), (1, .long (lI x)), (3, .long (lI y)), (5, .long (lI Q)), (7, .long (lI N)), (9, .int (nI a))]) (st' := [.long (lI N)]) (M' := M) rfl ?_
      refine yR.ret _ rfl rfl rfl ?_
      exact ⟨by rw [show Nz = N from hz.symm], rfl⟩
    · have q1' : ¬ (4 : Int) < a := zcF q1 (nI_toInt (by omega)) rfl
      obtain ⟨d', rfl⟩ : ∃ d', d = d' + 1 := ⟨d - 1, by omega⟩
      refine yR.adv 2 (pc' := 15) (lv' := [(10, .int 0), (0, .ref 93), (1, .long (lI x)), (3, .long (lI y)), (5, .long (lI Q)), (7, .long (lI N)), (9, .int (nI a))]) (st' := []) (M' := M) rfl ?_
      refine yR.drop (lv := [(0, .ref 93), (1, .long (lI x)), (3, .long (lI y)), (5, .long (lI Q)), (7, .long (lI N)), (9, .int (nI a)), (10, .int (nI 0))]) (by refine ⟨?_, ?_⟩ <;> simp [zget, zwf] <;> rfl) ?_
      refine r_val_in M cf hcf hc Q x y _ a (by omega) ?_ (5 - a) 0 N (by omega) rfl
      refine yR.adv 2 (pc' := 6) (lv' := [(9, .int (nI a + 1)), (0, .ref 93), (1, .long (lI x)), (3, .long (lI y)), (5, .long (lI Q)), (7, .long (lI (zrowN (zVf cf Q x y) a (5 - a) 0 N)))]) (st' := []) (M' := M) rfl ?_
      exact (ih d' (by omega) (a + 1) _ (by omega) hz).drop (by refine ⟨?_, ?_⟩ <;> simp [zget, zwf, nI_succ])
theorem r_valueAt (M : zMm) (cf : Nat → Int) (hcf : ∀ t, t < 15 → (cf t).natAbs ≤ 1000) (hc : ∀ t, t < 15 → M.1 117 t = iI (cf t)) (Q x y : Int) : yOk 151 0 [(0, .ref 93), (1, .long (lI x)), (3, .long (lI y)), (5, .long (lI Q))] [] M (some (.long (lI (zVv cf Q x y)))) M := by
  refine yR.ok ?_
  unfold zVv
  rw [← zN_all]
  refine yR.adv 4 (pc' := 6) (lv' := [(9, .int 0), (7, .long 0), (0, .ref 93), (1, .long (lI x)), (3, .long (lI y)), (5, .long (lI Q))]) (st' := []) (M' := M) rfl ?_
  have K := r_val_out M cf hcf hc Q x y _ 5 0 0 rfl rfl
  exact K.drop (by refine ⟨?_, ?_⟩ <;> simp [zget, zwf, nI_0] <;> rfl)
-- sums over the places
def zlN (V : Int → Int → Int) (mx my : Int) : zPl → Int → Int
  | [], N => N
  | e :: r, N => zlN V mx my r (N + e.2.toInt * V (e.1.1.toInt + mx) (e.1.2.toInt + my))
theorem zlN_acc (V : Int → Int → Int) (mx my : Int) : ∀ (L : zPl) (N : Int), zlN V mx my L N = N + zlN V mx my L 0
  | [], N => by simp [zlN]
  | e :: r, N => by
    show zlN V mx my r (N + e.2.toInt * V (e.1.1.toInt + mx) (e.1.2.toInt + my)) = N + zlN V mx my r (0 + e.2.toInt * V (e.1.1.toInt + mx) (e.1.2.toInt + my))
    rw [zlN_acc V mx my r (N + _), zlN_acc V mx my r (0 + _)]
    omega
theorem zldrop {L : zPl} {i : Nat} {e : zPt × Int32} (h : L[i]? = some e) : L.drop i = e :: L.drop (i + 1) := by
  have h0 := (List.getElem?_eq_some_iff.mp h).1
  rw [List.drop_eq_getElem_cons h0]
  congr 1
  rw [List.getElem?_eq_getElem h0] at h
  exact Option.some.inj h
theorem zlN_b (V : Int → Int → Int) (mx my : Int) (B : Nat) : ∀ (L : zPl) (N : Int), (∀ e, e ∈ L → (e.2.toInt * V (e.1.1.toInt + mx) (e.1.2.toInt + my)).natAbs ≤ B) → (zlN V mx my L N).natAbs ≤ N.natAbs + L.length * B
  | [], N, _ => by simp [zlN]
  | e :: r, N, h => by
    have h1 := zlN_b V mx my B r (N + e.2.toInt * V (e.1.1.toInt + mx) (e.1.2.toInt + my)) (fun e' he => h e' (List.mem_cons_of_mem _ he))
    have h2 := h e List.mem_cons_self
    have h3 := Int.natAbs_add_le N (e.2.toInt * V (e.1.1.toInt + mx) (e.1.2.toInt + my))
    show (zlN V mx my r (N + e.2.toInt * V (e.1.1.toInt + mx) (e.1.2.toInt + my))).natAbs ≤ _
    rw [List.length_cons, Nat.succ_mul]
    omega
theorem m_sumMoved_loop (M0 : zMm) (dom : Nat) (q W : Int) (L : zPl) (cf : Nat → Int) (hcf : ∀ t, t < 15 → (cf t).natAbs ≤ 1000) (Q mx my Nz : Int) (bx : mx.natAbs ≤ 100) (by' : my.natAbs ≤ 100) : ∀ (d i : Nat) (M : zMm) (N : Int), i + d = L.length → zRm dom q W M L → (∀ t, t < 15 → M.1 56 t = iI (cf t)) → (∀ j, j < 5 → M.2 59 j = lI (Q ^ j)) → zlN (zVv cf Q) mx my (L.drop i) N = Nz → zKp [57, 58] [] M0 M →
    yR 86 5 [(0, .ref 0), (1, .int (iI mx)), (2, .int (iI my)), (3, .long (lI N)), (5, .int (nI i))] [] M (fun r N => r = some (.long (lI Nz)) ∧ zKp [57, 58] [] M0 N) := by
  intro d
  induction d using Nat.strongRecOn with
  | ind d ih =>
    intro i M N h hR hc h3 hz hE
    have hL24 := hR.1.2.1
    refine yR.adv 4 (pc' := 14) (lv' := [(0, .ref 0), (1, .int (iI mx)), (2, .int (iI my)), (3, .long (lI N)), (5, .int (nI i))]) (st' := [.int (M.1 1 3), .int (nI i)]) (M' := M) rfl ?_
    rw [hR.1.1]
    refine yR.if2 .ge _ _ _ _ rfl (fun q1 => ?_) (fun q1 => ?_)
    · have q1' : (L.length : Int) ≤ i := zcT q1 (nI_toInt (by omega)) (nI_toInt (by omega))
      rw [List.drop_eq_nil_of_le (by omega)] at hz
      refine yR.adv 1 (pc' := 67) (lv' := [(0, .ref 0), (1, .int (iI mx)), (2, .int (iI my)), (3, .long (lI N)), (5, .int (nI i))]) (st' := [.long (lI N)]) (M' := M) rfl ?_
      refine yR.ret _ rfl rfl rfl ?_
      exact ⟨by rw [show Nz = N from hz.symm], hE⟩
    · have q1' : ¬ (L.length : Int) ≤ i := zcF q1 (nI_toInt (by omega)) (nI_toInt (by omega))
      have hg := List.getElem?_eq_getElem (show i < L.length by omega)
      generalize hee : L[i] = e at hg
      obtain ⟨g1, g2, g3⟩ := hR.1.2.2 i e hg
      obtain ⟨k1, k2, k3⟩ := hR.2.1 e (List.mem_of_getElem? hg)
      unfold zgr at k1 k2
      rw [zldrop hg] at hz
      have hz2 : zlN (zVv cf Q) mx my (L.drop (i + 1)) (N + e.2.toInt * zVv cf Q (e.1.1.toInt + mx) (e.1.2.toInt + my)) = Nz := hz
      refine yR.adv 5 (pc' := 27) (lv' := [(0, .ref 0), (1, .int (iI mx)), (2, .int (iI my)), (3, .long (lI N)), (5, .int (nI i))]) (st' := [.int (nI i), .ref 4, .long (lI N)]) (M' := M) rfl ?_
      refine yR.iald i _ _ _ rfl rfl (by decide) (rfl) (by omega) ?_
      rw [g3]
      refine yR.adv 6 (pc' := 39) (lv' := [(0, .ref 0), (1, .int (iI mx)), (2, .int (iI my)), (3, .long (lI N)), (5, .int (nI i))]) (st' := [.int (nI i), .ref 2, .ref 0, .long e.2.toInt64, .long (lI N)]) (M' := M) rfl ?_
      refine yR.iald i _ _ _ rfl rfl (by decide) (rfl) (by omega) ?_
      rw [g1]
      refine yR.adv 6 (pc' := 51) (lv' := [(0, .ref 0), (1, .int (iI mx)), (2, .int (iI my)), (3, .long (lI N)), (5, .int (nI i))]) (st' := [.int (nI i), .ref 3, .int (e.1.1 + (iI mx)), .ref 0, .long e.2.toInt64, .long (lI N)]) (M' := M) rfl ?_
      refine yR.iald i _ _ _ rfl rfl (by decide) (rfl) (by omega) ?_
      rw [g2]
      refine yR.adv 2 (pc' := 54) (lv' := [(0, .ref 0), (1, .int (iI mx)), (2, .int (iI my)), (3, .long (lI N)), (5, .int (nI i))]) (st' := [.int (e.1.2 + (iI my)), .int (e.1.1 + (iI mx)), .ref 0, .long e.2.toInt64, .long (lI N)]) (M' := M) rfl ?_
      rw [show e.1.1 + iI mx = iI (e.1.1.toInt + mx) from by rw [← iI_add, iI_of], show e.1.2 + iI my = iI (e.1.2.toInt + my) from by rw [← iI_add, iI_of]]
      refine yR.call _ rfl rfl rfl rfl rfl (m_valueAt M cf hcf hc Q (e.1.1.toInt + mx) (e.1.2.toInt + my) (by omega) (by omega) h3) (fun r1 M1 hq => ?_)
      obtain ⟨rfl, e1⟩ := hq
      show yR 86 57 [(0, .ref 0), (1, .int (iI mx)), (2, .int (iI my)), (3, .long (lI N)), (5, .int (nI i))] [.long (lI (zVv cf Q (e.1.1.toInt + mx) (e.1.2.toInt + my))), .long e.2.toInt64, .long (lI N)] M1 _
      refine yR.adv 5 (pc' := 5) (lv' := [(5, .int (nI i + 1)), (3, .long ((lI N) + (e.2.toInt64 * (lI (zVv cf Q (e.1.1.toInt + mx) (e.1.2.toInt + my)))))), (0, .ref 0), (1, .int (iI mx)), (2, .int (iI my))]) (st' := []) (M' := M1) rfl ?_
      rw [show e.2.toInt64 = lI e.2.toInt from by rw [← iI_of e.2, iI_l (by unfold zwr at k3; omega), iI_of], lI_mul, lI_add]
      exact (ih (d - 1) (by omega) (i + 1) M1 _ (by omega) (hR.keep (fun a i z1 z2 => (e1 a i (by simp <;> omega) (by simp)).1)) (fun t ht => by rw [(e1 56 t (by decide) (by simp)).1]; exact hc t ht) (fun j hj => by rw [(e1 59 j (by decide) (by simp)).2]; exact h3 j hj) hz2 (hE.trans e1)).drop (by refine ⟨?_, ?_⟩ <;> simp [zget, zwf, nI_succ])
theorem m_sumMoved (M : zMm) (dom : Nat) (q W : Int) (L : zPl) (hR : zRm dom q W M L) (cf : Nat → Int) (hcf : ∀ t, t < 15 → (cf t).natAbs ≤ 1000) (hc : ∀ t, t < 15 → M.1 56 t = iI (cf t)) (Q mx my : Int) (bx : mx.natAbs ≤ 100) (by' : my.natAbs ≤ 100) (h3 : ∀ j, j < 5 → M.2 59 j = lI (Q ^ j)) :
    yR 86 0 [(0, .ref 0), (1, .int (iI mx)), (2, .int (iI my))] [] M (fun r N => r = some (.long (lI (zlN (zVv cf Q) mx my L 0))) ∧ zKp [57, 58] [] M N) := by
  refine yR.adv 4 (pc' := 5) (lv' := [(5, .int 0), (3, .long 0), (0, .ref 0), (1, .int (iI mx)), (2, .int (iI my))]) (st' := []) (M' := M) rfl ?_
  have K := m_sumMoved_loop M dom q W L cf hcf Q mx my (zlN (zVv cf Q) mx my L 0) bx by' L.length 0 M 0 (Nat.zero_add _) hR hc h3 (by rw [List.drop_zero]) (zKp.refl _ _ _)
  exact K.drop (by refine ⟨?_, ?_⟩ <;> simp [zget, zwf, nI_0] <;> rfl)
