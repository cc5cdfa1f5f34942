/-! ===== weights of a pair, of the class ===== -/
def zWW (b1 b2 : Int64) : Int64 := b1 / zg b1 b2 * b2
def zokW (a1 b1 a2 b2 : Int64) : Prop := (zWW b1 b2).toInt ≤ 10000 ∧ (a1 * (zWW b1 b2 / b1)).toInt ≤ 10000 ∧ (a2 * (zWW b1 b2 / b2)).toInt ≤ 10000
theorem zpos_ne {b : Int64} (h : 0 < b.toInt) : ¬ b = 0 := fun e => by rw [e] at h; exact absurd h (by decide)
theorem zpos_mx {b : Int64} (h : 0 < b.toInt) : b.toInt ≠ -2 ^ 63 := by omega
theorem m_bring (M : zMm) (a1 b1 a2 b2 : Int64) (h1 : M.2 50 0 = a1) (h2 : M.2 50 1 = b1) (h3 : M.2 51 0 = a2) (h4 : M.2 51 1 = b2) (p1 : 0 < b1.toInt) (p2 : 0 < b2.toInt) (v : Int32) (hv : (zokW a1 b1 a2 b2 ∧ v = 1) ∨ (¬ zokW a1 b1 a2 b2 ∧ v = 0)) :
    yR 12 0 [(0, .ref 12)] [] M (fun r N => r = some (.int v) ∧ N.2 12 16 = zWW b1 b2 ∧ N.2 12 14 = a1 * (zWW b1 b2 / b1) ∧ N.2 12 15 = a2 * (zWW b1 b2 / b2) ∧ zKp [] [(12, 14), (12, 15), (12, 16)] M N) := by
  have hg : 0 < (zg b1 b2).toInt := by rw [zg_toInt p2]; have := zg_pos (u := b1) p2; omega
  refine yR.adv 6 (pc' := 14) (lv' := [(0, .ref 12)]) (st' := [.long (M.2 51 1), .long (M.2 50 1)]) (M' := M) rfl ?_
  rw [h2]
  rw [h4]
  refine yR.callK (M1 := M) _ rfl rfl rfl rfl rfl (m_gcd M b1 b2 (zpos_mx p1) (zpos_mx p2)) ?_
  show yR 12 17 [(0, .ref 12)] [.long (zg b1 b2)] M _
  refine yR.adv 4 (pc' := 21) (lv' := [(1, .long (zg b1 b2)), (0, .ref 12)]) (st' := [.int (lg_cmp (zg b1 b2) 0)]) (M' := M) rfl ?_
  refine yR.if1 .eq _ _ _ _ rfl (fun q1 => ?_) (fun q1 => ?_)
  · exact absurd (show zg b1 b2 = 0 from Int64.toInt_inj.mp (zlT q1 rfl rfl)) (zpos_ne hg)
  · refine yR.adv 5 (pc' := 33) (lv' := [(1, .long (zg b1 b2)), (0, .ref 12)]) (st' := [.int (lg_cmp (M.2 50 1) 0)]) (M' := M) rfl ?_
    rw [h2]
    refine yR.if1 .eq _ _ _ _ rfl (fun q2 => ?_) (fun q2 => ?_)
    · exact absurd (show b1 = 0 from Int64.toInt_inj.mp (zlT q2 rfl rfl)) (zpos_ne p1)
    · refine yR.adv 5 (pc' := 45) (lv' := [(1, .long (zg b1 b2)), (0, .ref 12)]) (st' := [.int (lg_cmp (M.2 51 1) 0)]) (M' := M) rfl ?_
      rw [h4]
      refine yR.if1 .ne _ _ _ _ rfl (fun q3 => ?_) (fun q3 => ?_)
      · refine yR.adv 5 (pc' := 59) (lv' := [(1, .long (zg b1 b2)), (0, .ref 12)]) (st' := [.long (zg b1 b2), .long (M.2 50 1), .ref 12]) (M' := M) rfl ?_
        rw [h2]
        refine yR.ldiv _ _ _ rfl (zpos_ne hg) ?_
        refine yR.adv 14 (pc' := 90) (lv' := [(1, .long (zg b1 b2)), (0, .ref 12)]) (st' := [.long ((zupL M 12 16 ((b1 / (zg b1 b2)) * (M.2 51 1))).2 50 1), .long ((zupL M 12 16 ((b1 / (zg b1 b2)) * (M.2 51 1))).2 12 16), .long ((zupL M 12 16 ((b1 / (zg b1 b2)) * (M.2 51 1))).2 50 0), .ref 12]) (M' := zupL M 12 16 ((b1 / (zg b1 b2)) * (M.2 51 1))) rfl ?_
        rw [h4]
        generalize g1 : zupL M 12 16 ((b1 / (zg b1 b2)) * (b2)) = M1
        have k1 : M1.2 50 0 = a1 := by rw [← g1]; simp [zupL_l, h1]
        have k2 : M1.2 50 1 = b1 := by rw [← g1]; simp [zupL_l, h2]
        have k3 : M1.2 51 0 = a2 := by rw [← g1]; simp [zupL_l, h3]
        have k4 : M1.2 51 1 = b2 := by rw [← g1]; simp [zupL_l, h4]
        have k5 : M1.2 12 16 = zWW b1 b2 := by rw [← g1]; simp [zupL_l, zWW]
        rw [k1]
        rw [k2]
        rw [k5]
        refine yR.ldiv _ _ _ rfl (zpos_ne p1) ?_
        refine yR.adv 11 (pc' := 114) (lv' := [(1, .long (zg b1 b2)), (0, .ref 12)]) (st' := [.long ((zupL M1 12 14 (a1 * ((zWW b1 b2) / b1))).2 51 1), .long ((zupL M1 12 14 (a1 * ((zWW b1 b2) / b1))).2 12 16), .long ((zupL M1 12 14 (a1 * ((zWW b1 b2) / b1))).2 51 0), .ref 12]) (M' := zupL M1 12 14 (a1 * ((zWW b1 b2) / b1))) rfl ?_
        generalize g2 : zupL M1 12 14 (a1 * ((zWW b1 b2) / b1)) = M2
        have l3 : M2.2 51 0 = a2 := by rw [← g2]; simp [zupL_l, k3]
        have l4 : M2.2 51 1 = b2 := by rw [← g2]; simp [zupL_l, k4]
        have l5 : M2.2 12 16 = zWW b1 b2 := by rw [← g2]; simp [zupL_l, k5]
        have l6 : M2.2 12 14 = a1 * (zWW b1 b2 / b1) := by rw [← g2]; simp [zupL_l]
        rw [l3]
        rw [l4]
        rw [l5]
        refine yR.ldiv _ _ _ rfl (zpos_ne p2) ?_
        refine yR.adv 6 (pc' := 127) (lv' := [(1, .long (zg b1 b2)), (0, .ref 12)]) (st' := [.int (lg_cmp ((zupL M2 12 15 (a2 * ((zWW b1 b2) / b2))).2 12 16) 10000)]) (M' := zupL M2 12 15 (a2 * ((zWW b1 b2) / b2))) rfl ?_
        generalize g3 : zupL M2 12 15 (a2 * ((zWW b1 b2) / b2)) = M3
        have n5 : M3.2 12 16 = zWW b1 b2 := by rw [← g3]; simp [zupL_l, l5]
        have n6 : M3.2 12 14 = a1 * (zWW b1 b2 / b1) := by rw [← g3]; simp [zupL_l, l6]
        have n7 : M3.2 12 15 = a2 * (zWW b1 b2 / b2) := by rw [← g3]; simp [zupL_l]
        have E : zKp [] [(12, 14), (12, 15), (12, 16)] M M3 := by rw [← g3, ← g2, ← g1]; exact (((zKp.refl _ _ M).upL (by simp)).upL (by simp)).upL (by simp)
        have zero : ¬ zokW a1 b1 a2 b2 → yR 12 156 [(0, .ref 12)] [] M3 (fun r N => r = some (.int v) ∧ N.2 12 16 = zWW b1 b2 ∧ N.2 12 14 = a1 * (zWW b1 b2 / b1) ∧ N.2 12 15 = a2 * (zWW b1 b2 / b2) ∧ zKp [] [(12, 14), (12, 15), (12, 16)] M N) := by
          intro hn
          have hv0 : v = 0 := hv.elim (fun p => absurd p.1 hn) (fun p => p.2)
          refine yR.adv 1 (pc' := 157) (lv' := [(0, .ref 12)]) (st' := [.int 0]) (M' := M3) rfl ?_
          refine yR.ret _ rfl rfl rfl ?_
          exact ⟨by rw [hv0], n5, n6, n7, E⟩
        rw [n5]
        refine yR.if1 .gt _ _ _ _ rfl (fun q4 => ?_) (fun q4 => ?_)
        · exact (zero (fun z => absurd z.1 (Int.not_le.mpr (zlT q4 rfl rfl)))).drop (by refine ⟨?_, ?_⟩ <;> simp [zget, zwf])
        · refine yR.adv 4 (pc' := 138) (lv' := [(1, .long (zg b1 b2)), (0, .ref 12)]) (st' := [.int (lg_cmp (M3.2 12 14) 10000)]) (M' := M3) rfl ?_
          rw [n6]
          refine yR.if1 .gt _ _ _ _ rfl (fun q5 => ?_) (fun q5 => ?_)
          · exact (zero (fun z => absurd z.2.1 (Int.not_le.mpr (zlT q5 rfl rfl)))).drop (by refine ⟨?_, ?_⟩ <;> simp [zget, zwf])
          · refine yR.adv 4 (pc' := 149) (lv' := [(1, .long (zg b1 b2)), (0, .ref 12)]) (st' := [.int (lg_cmp (M3.2 12 15) 10000)]) (M' := M3) rfl ?_
            rw [n7]
            refine yR.if1 .gt _ _ _ _ rfl (fun q6 => ?_) (fun q6 => ?_)
            · exact (zero (fun z => absurd z.2.2 (Int.not_le.mpr (zlT q6 rfl rfl)))).drop (by refine ⟨?_, ?_⟩ <;> simp [zget, zwf])
            · have hok : zokW a1 b1 a2 b2 := ⟨Int.not_lt.mp (zlF q4 rfl rfl), Int.not_lt.mp (zlF q5 rfl rfl), Int.not_lt.mp (zlF q6 rfl rfl)⟩
              have hv0 : v = 1 := hv.elim (fun p => p.2) (fun p => absurd hok p.1)
              refine yR.adv 2 (pc' := 157) (lv' := [(1, .long (zg b1 b2)), (0, .ref 12)]) (st' := [.int 1]) (M' := M3) rfl ?_
              refine yR.ret _ rfl rfl rfl ?_
              exact ⟨by rw [hv0], n5, n6, n7, E⟩
      · exact absurd (show b2 = 0 from Int64.toInt_inj.mp (Classical.not_not.mp (zlF q3 rfl rfl))) (zpos_ne p2)
-- the numbers of a pair
def zTt (dom : Nat) : Int := if dom = 2 then 6 else 12
def zSp (dom : Nat) : Int := if dom = 0 then 8 else if dom = 1 then 6 else 2
def zSc (dom : Nat) : Int := if dom = 1 then 24 else 3
theorem zdue_ok : ∀ dom, dom < 3 → ∀ q, q < 7 → zduU dom (q : Nat) 0 * zduL dom 3 = lI (zTt dom) ∧ (if dom = 1 then 3 else 2 : Int64) * zduU dom (q : Nat) 3 * zduL dom 0 = lI (zSp dom * ((q : Int) * q)) ∧ zduL dom 0 * zduL dom 3 = lI (zSc dom) := by decide +kernel
def zU1 (dom : Nat) (q rj : Int) : Int := zTt dom * rj - zSp dom * (q * q)
def zU2 (dom : Nat) (q ri : Int) : Int := zSp dom * (q * q) - zTt dom * ri
def zDD (dom : Nat) (ri rj c : Int) : Int := zSc dom * (rj - ri) * c
theorem zmulb {x y : Int} {A B : Nat} (hx : x.natAbs ≤ A) (hy : y.natAbs ≤ B) : (x * y).natAbs ≤ A * B := by rw [Int.natAbs_mul]; exact Nat.mul_le_mul hx hy
theorem zT_b (dom : Nat) : (zTt dom).natAbs ≤ 12 ∧ 0 < zTt dom := by unfold zTt; split <;> decide
theorem zSp_b (dom : Nat) : (zSp dom).natAbs ≤ 8 := by
  unfold zSp
  split
  · decide
  · split <;> decide
theorem zSc_b (dom : Nat) : (zSc dom).natAbs ≤ 24 ∧ 0 < zSc dom := by unfold zSc; split <;> decide
theorem zU1_b (dom : Nat) {q rj : Int} (hq : q.natAbs ≤ 6) (hr : rj.natAbs ≤ 200) : (zU1 dom q rj).natAbs ≤ 10000 ∧ (zU2 dom q rj).natAbs ≤ 10000 := by
  have h1 := zmulb (zT_b dom).1 hr
  have h2 := zmulb (zSp_b dom) (zmulb hq hq)
  unfold zU1 zU2
  omega
theorem zDD_b (dom : Nat) {ri rj c : Int} (hi : 0 ≤ ri ∧ ri ≤ 200) (hj : 0 ≤ rj ∧ rj ≤ 200) (hc : c.natAbs ≤ 8) : (zDD dom ri rj c).natAbs ≤ 40000 := by
  have h1 := zmulb (zmulb (zSc_b dom).1 (show (rj - ri).natAbs ≤ 200 by omega)) hc
  unfold zDD
  omega
/-- the weights by their lower number: the class's -/
def zfA (u d : Int) : Int64 := zfu (zsg (lI d) (lI u)) (zsg (lI d) (lI d))
def zfB (u d : Int) : Int64 := zfd (zsg (lI d) (lI u)) (zsg (lI d) (lI d))
theorem zsg_b {u d : Int} (hu : u.natAbs ≤ 1000000) (hd : d.natAbs ≤ 1000000) (hd0 : d ≠ 0) : (zsg (lI d) (lI u)).toInt = (if d < 0 then -u else u) ∧ (zsg (lI d) (lI d)).toInt = (if d < 0 then -d else d) ∧ 0 < (zsg (lI d) (lI d)).toInt := by
  have td : (lI d).toInt = d := lI_toInt (by omega)
  have tu : (lI u).toInt = u := lI_toInt (by omega)
  unfold zsg
  rw [td]
  split
  · rw [lI_neg, lI_neg, lI_toInt (by omega), lI_toInt (by omega)]
    exact ⟨rfl, rfl, by omega⟩
  · rw [tu, td]
    exact ⟨rfl, rfl, by omega⟩
