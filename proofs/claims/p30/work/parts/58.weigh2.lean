/-! ===== weigh; isRightUpTo ===== -/
def zokP (dom : Nat) (q ri ci rj cj : Int) : Prop := ri ≠ rj ∧ 0 < (zfA (zU1 dom q rj) (zDD dom ri rj ci)).toInt ∧ 0 < (zfA (zU2 dom q ri) (zDD dom ri rj cj)).toInt ∧ zokW (zfA (zU1 dom q rj) (zDD dom ri rj ci)) (zfB (zU1 dom q rj) (zDD dom ri rj ci)) (zfA (zU2 dom q ri) (zDD dom ri rj cj)) (zfB (zU2 dom q ri) (zDD dom ri rj cj))
def zpW (dom : Nat) (q ri ci rj cj : Int) : Int64 := zWW (zfB (zU1 dom q rj) (zDD dom ri rj ci)) (zfB (zU2 dom q ri) (zDD dom ri rj cj))
def zp1 (dom : Nat) (q ri ci rj cj : Int) : Int64 := zfA (zU1 dom q rj) (zDD dom ri rj ci) * (zpW dom q ri ci rj cj / zfB (zU1 dom q rj) (zDD dom ri rj ci))
def zp2 (dom : Nat) (q ri ci rj cj : Int) : Int64 := zfA (zU2 dom q ri) (zDD dom ri rj cj) * (zpW dom q ri ci rj cj / zfB (zU2 dom q ri) (zDD dom ri rj cj))
theorem m_weigh (M : zMm) (dom : Nat) (hdom : dom < 3) (q : Nat) (hq : 1 ≤ q ∧ q ≤ 6) (i j : Nat) (hi : i < 28) (hj : j < 28) (ri rj : Int) (ci cj : Nat) (h0 : M.1 12 0 = nI dom) (hd : ∀ t, t < 21 → M.2 46 t = zduU dom q t ∧ M.2 47 t = zduL dom t) (h1 : M.1 16 i = iI ri) (h2 : M.1 16 j = iI rj) (h3 : M.1 15 i = nI ci) (h4 : M.1 15 j = nI cj)
    (b1 : 0 ≤ ri ∧ ri ≤ 200) (b2 : 0 ≤ rj ∧ rj ≤ 200) (b3 : 1 ≤ ci ∧ ci ≤ 8) (b4 : 1 ≤ cj ∧ cj ≤ 8) (v : Int32) (hv : (zokP dom q ri ci rj cj ∧ v = 1) ∨ (¬ zokP dom q ri ci rj cj ∧ v = 0)) :
    yR 11 0 [(0, .ref 12), (1, .int (nI i)), (2, .int (nI j))] [] M (fun r N => r = some (.int v) ∧ (v = 1 → N.2 12 16 = zpW dom q ri ci rj cj ∧ N.2 12 14 = zp1 dom q ri ci rj cj ∧ N.2 12 15 = zp2 dom q ri ci rj cj) ∧ zKp [50, 51] [(12, 14), (12, 15), (12, 16)] M N) := by
  have zero : ∀ (lv : zL) (N : zMm), zSub [] lv → zKp [50, 51] [(12, 14), (12, 15), (12, 16)] M N → ¬ zokP dom q ri ci rj cj → yR 11 190 lv [] N (fun r N => r = some (.int v) ∧ (v = 1 → N.2 12 16 = zpW dom q ri ci rj cj ∧ N.2 12 14 = zp1 dom q ri ci rj cj ∧ N.2 12 15 = zp2 dom q ri ci rj cj) ∧ zKp [50, 51] [(12, 14), (12, 15), (12, 16)] M N) := by
    intro lv N hs hE hn
    have hv0 : v = 0 := hv.elim (fun p => absurd p.1 hn) (fun p => p.2)
    refine yR.drop hs ?_
    refine yR.adv 1 (pc' := 191) (lv' := []) (st' := [.int 0]) (M' := N) rfl ?_
    refine yR.ret _ rfl rfl rfl ?_
    exact ⟨by rw [hv0], fun e => by rw [hv0] at e; exact absurd e (by decide), hE⟩
  refine yR.adv 3 (pc' := 5) (lv' := [(0, .ref 12), (1, .int (nI i)), (2, .int (nI j))]) (st' := [.int (nI j), .ref 16]) (M' := M) rfl ?_
  refine yR.iald j _ _ _ rfl rfl (by decide) (rfl) (by omega) ?_
  refine yR.adv 3 (pc' := 11) (lv' := [(0, .ref 12), (1, .int (nI i)), (2, .int (nI j))]) (st' := [.int (nI i), .ref 16, .int (M.1 16 j)]) (M' := M) rfl ?_
  refine yR.iald i _ _ _ rfl rfl (by decide) (rfl) (by omega) ?_
  rw [h1, h2]
  refine yR.adv 6 (pc' := 18) (lv' := [(3, .long (((iI rj) - (iI ri)).toInt64)), (0, .ref 12), (1, .int (nI i)), (2, .int (nI j))]) (st' := [.int (lg_cmp (((iI rj) - (iI ri)).toInt64) 0)]) (M' := M) rfl ?_
  rw [iI_sub, iI_l (by omega)]
  have td : (lI (rj - ri)).toInt = rj - ri := lI_toInt (by omega)
  refine yR.if1 .ne _ _ _ _ rfl (fun q1 => ?_) (fun q1 => ?_)
  · have q1' : ¬ rj - ri = 0 := zlT q1 td rfl
    have hne : ri ≠ rj := by omega
    obtain ⟨hT, hS, hC⟩ := zdue_ok dom hdom q (by omega)
    have d0 := hd 0 (by omega)
    have d3 := hd 3 (by omega)
    have tail : ∀ (lv : zL), zget lv 0 = some (.ref 12) → True := fun _ _ => trivial
    have main : ∀ sq : Int32, sq.toInt64 = (if dom = 1 then 3 else 2 : Int64) → yR 11 36 [(3, .long (lI (rj - ri))), (0, .ref 12), (1, .int (nI i)), (2, .int (nI j))] [.int sq] M (fun r N => r = some (.int v) ∧ (v = 1 → N.2 12 16 = zpW dom q ri ci rj cj ∧ N.2 12 14 = zp1 dom q ri ci rj cj ∧ N.2 12 15 = zp2 dom q ri ci rj cj) ∧ zKp [50, 51] [(12, 14), (12, 15), (12, 16)] M N) := by
      intro sq hsq
      refine yR.adv 44 (pc' := 106) (lv' := [(11, .long (((M.2 47 0) * (M.2 47 3)) * (lI (rj - ri)))), (9, .long ((sq.toInt64 * (M.2 46 3)) * (M.2 47 0))), (7, .long ((M.2 46 0) * (M.2 47 3))), (6, .int 3), (5, .int sq), (3, .long (lI (rj - ri))), (0, .ref 12), (1, .int (nI i)), (2, .int (nI j))]) (st' := [.int (nI j), .ref 16, .long ((M.2 46 0) * (M.2 47 3)), .ref 50]) (M' := M) rfl ?_
      rw [d0.1, d0.2, d3.1, d3.2, hsq, hT, hS, hC, lI_mul]
      show yR 11 106 [(11, .long (lI (zSc dom * (rj - ri)))), (9, .long (lI (zSp dom * ((q : Int) * q)))), (7, .long (lI (zTt dom))), (6, .int 3), (5, .int sq), (3, .long (lI (rj - ri))), (0, .ref 12), (1, .int (nI i)), (2, .int (nI j))] [.int (nI j), .ref 16, .long (lI (zTt dom)), .ref 50] M _
      refine yR.iald j _ _ _ rfl rfl (by decide) (rfl) (by omega) ?_
      rw [h2]
      refine yR.adv 8 (pc' := 119) (lv' := [(11, .long (lI (zSc dom * (rj - ri)))), (9, .long (lI (zSp dom * ((q : Int) * q)))), (7, .long (lI (zTt dom))), (6, .int 3), (5, .int sq), (3, .long (lI (rj - ri))), (0, .ref 12), (1, .int (nI i)), (2, .int (nI j))]) (st' := [.int (nI i), .ref 15, .long (lI (zSc dom * (rj - ri))), .long (((lI (zTt dom)) * ((iI rj).toInt64)) - (lI (zSp dom * ((q : Int) * q)))), .ref 50]) (M' := M) rfl ?_
      rw [iI_l (by omega), lI_mul, lI_sub]
      show yR 11 119 [(11, .long (lI (zSc dom * (rj - ri)))), (9, .long (lI (zSp dom * ((q : Int) * q)))), (7, .long (lI (zTt dom))), (6, .int 3), (5, .int sq), (3, .long (lI (rj - ri))), (0, .ref 12), (1, .int (nI i)), (2, .int (nI j))] [.int (nI i), .ref 15, .long (lI (zSc dom * (rj - ri))), .long (lI (zU1 dom q rj)), .ref 50] M _
      refine yR.iald i _ _ _ rfl rfl (by decide) (rfl) (by omega) ?_
      rw [h3]
      refine yR.adv 2 (pc' := 122) (lv' := [(11, .long (lI (zSc dom * (rj - ri)))), (9, .long (lI (zSp dom * ((q : Int) * q)))), (7, .long (lI (zTt dom))), (6, .int 3), (5, .int sq), (3, .long (lI (rj - ri))), (0, .ref 12), (1, .int (nI i)), (2, .int (nI j))]) (st' := [.long ((lI (zSc dom * (rj - ri))) * ((nI ci).toInt64)), .long (lI (zU1 dom q rj)), .ref 50]) (M' := M) rfl ?_
      rw [nI_iI ci, iI_l (by omega), lI_mul]
      show yR 11 122 [(11, .long (lI (zSc dom * (rj - ri)))), (9, .long (lI (zSp dom * ((q : Int) * q)))), (7, .long (lI (zTt dom))), (6, .int 3), (5, .int sq), (3, .long (lI (rj - ri))), (0, .ref 12), (1, .int (nI i)), (2, .int (nI j))] [.long (lI (zDD dom ri rj ci)), .long (lI (zU1 dom q rj)), .ref 50] M _
      have n1 : zDD dom ri rj ci ≠ 0 := by unfold zDD; exact Int.mul_ne_zero (Int.mul_ne_zero (by have := (zSc_b dom).2; omega) (by omega)) (by omega)
      have n2 : zDD dom ri rj cj ≠ 0 := by unfold zDD; exact Int.mul_ne_zero (Int.mul_ne_zero (by have := (zSc_b dom).2; omega) (by omega)) (by omega)
      have c1 := zDD_b dom (c := ci) b1 b2 (by omega)
      have c2 := zDD_b dom (c := cj) b1 b2 (by omega)
      have c3 := (zU1_b dom (q := q) (rj := rj) (by omega) (by omega)).1
      have c4 := (zU1_b dom (q := q) (rj := ri) (by omega) (by omega)).2
      have t1 : (lI (zDD dom ri rj ci)).toInt = zDD dom ri rj ci := lI_toInt (by omega)
      have t2 : (lI (zDD dom ri rj cj)).toInt = zDD dom ri rj cj := lI_toInt (by omega)
      have t3 : (lI (zU1 dom q rj)).toInt = zU1 dom q rj := lI_toInt (by omega)
      have t4 : (lI (zU2 dom q ri)).toInt = zU2 dom q ri := lI_toInt (by omega)
      have s1 := zsg_b (u := zU1 dom q rj) (d := zDD dom ri rj ci) (by omega) (by omega) n1
      have s2 := zsg_b (u := zU2 dom q ri) (d := zDD dom ri rj cj) (by omega) (by omega) n2
      refine yR.callK (M1 := zupL (zupL M 50 0 (zfA (zU1 dom q rj) (zDD dom ri rj ci))) 50 1 (zfB (zU1 dom q rj) (zDD dom ri rj ci))) _ rfl rfl rfl rfl rfl (m_becomeS_50 M (lI (zU1 dom q rj)) (lI (zDD dom ri rj ci)) (by rw [t3]; omega) (by rw [t1]; exact n1) (by rw [t1]; omega)) ?_
      show yR 11 125 [(11, .long (lI (zSc dom * (rj - ri)))), (9, .long (lI (zSp dom * ((q : Int) * q)))), (7, .long (lI (zTt dom))), (6, .int 3), (5, .int sq), (3, .long (lI (rj - ri))), (0, .ref 12), (1, .int (nI i)), (2, .int (nI j))] [] (zupL (zupL M 50 0 (zfA (zU1 dom q rj) (zDD dom ri rj ci))) 50 1 (zfB (zU1 dom q rj) (zDD dom ri rj ci))) _
      generalize g1 : zupL (zupL M 50 0 (zfA (zU1 dom q rj) (zDD dom ri rj ci))) 50 1 (zfB (zU1 dom q rj) (zDD dom ri rj ci)) = M1
      have E1 : zKp [50, 51] [(12, 14), (12, 15), (12, 16)] M M1 := by rw [← g1]; exact ((zKp.refl _ _ M).upL (by simp)).upL (by simp)
      have k1 : M1.1 16 i = iI ri := by rw [← g1]; exact h1
      have k2 : M1.1 15 j = nI cj := by rw [← g1]; exact h4
      refine yR.adv 7 (pc' := 138) (lv' := [(11, .long (lI (zSc dom * (rj - ri)))), (9, .long (lI (zSp dom * ((q : Int) * q)))), (7, .long (lI (zTt dom))), (6, .int 3), (5, .int sq), (3, .long (lI (rj - ri))), (0, .ref 12), (1, .int (nI i)), (2, .int (nI j))]) (st' := [.int (nI i), .ref 16, .long (lI (zTt dom)), .long (lI (zSp dom * ((q : Int) * q))), .ref 51]) (M' := M1) rfl ?_
      refine yR.iald i _ _ _ rfl rfl (by decide) (rfl) (by omega) ?_
      rw [k1]
      refine yR.adv 7 (pc' := 149) (lv' := [(11, .long (lI (zSc dom * (rj - ri)))), (9, .long (lI (zSp dom * ((q : Int) * q)))), (7, .long (lI (zTt dom))), (6, .int 3), (5, .int sq), (3, .long (lI (rj - ri))), (0, .ref 12), (1, .int (nI i)), (2, .int (nI j))]) (st' := [.int (nI j), .ref 15, .long (lI (zSc dom * (rj - ri))), .long ((lI (zSp dom * ((q : Int) * q))) - ((lI (zTt dom)) * ((iI ri).toInt64))), .ref 51]) (M' := M1) rfl ?_
      rw [iI_l (by omega), lI_mul, lI_sub]
      show yR 11 149 [(11, .long (lI (zSc dom * (rj - ri)))), (9, .long (lI (zSp dom * ((q : Int) * q)))), (7, .long (lI (zTt dom))), (6, .int 3), (5, .int sq), (3, .long (lI (rj - ri))), (0, .ref 12), (1, .int (nI i)), (2, .int (nI j))] [.int (nI j), .ref 15, .long (lI (zSc dom * (rj - ri))), .long (lI (zU2 dom q ri)), .ref 51] M1 _
      refine yR.iald j _ _ _ rfl rfl (by decide) (rfl) (by omega) ?_
      rw [k2]
      refine yR.adv 2 (pc' := 152) (lv' := [(11, .long (lI (zSc dom * (rj - ri)))), (9, .long (lI (zSp dom * ((q : Int) * q)))), (7, .long (lI (zTt dom))), (6, .int 3), (5, .int sq), (3, .long (lI (rj - ri))), (0, .ref 12), (1, .int (nI i)), (2, .int (nI j))]) (st' := [.long ((lI (zSc dom * (rj - ri))) * ((nI cj).toInt64)), .long (lI (zU2 dom q ri)), .ref 51]) (M' := M1) rfl ?_
      rw [nI_iI cj, iI_l (by omega), lI_mul]
      show yR 11 152 [(11, .long (lI (zSc dom * (rj - ri)))), (9, .long (lI (zSp dom * ((q : Int) * q)))), (7, .long (lI (zTt dom))), (6, .int 3), (5, .int sq), (3, .long (lI (rj - ri))), (0, .ref 12), (1, .int (nI i)), (2, .int (nI j))] [.long (lI (zDD dom ri rj cj)), .long (lI (zU2 dom q ri)), .ref 51] M1 _
      refine yR.callK (M1 := zupL (zupL M1 51 0 (zfA (zU2 dom q ri) (zDD dom ri rj cj))) 51 1 (zfB (zU2 dom q ri) (zDD dom ri rj cj))) _ rfl rfl rfl rfl rfl (m_becomeS_51 M1 (lI (zU2 dom q ri)) (lI (zDD dom ri rj cj)) (by rw [t4]; omega) (by rw [t2]; exact n2) (by rw [t2]; omega)) ?_
      show yR 11 155 [(11, .long (lI (zSc dom * (rj - ri)))), (9, .long (lI (zSp dom * ((q : Int) * q)))), (7, .long (lI (zTt dom))), (6, .int 3), (5, .int sq), (3, .long (lI (rj - ri))), (0, .ref 12), (1, .int (nI i)), (2, .int (nI j))] [] (zupL (zupL M1 51 0 (zfA (zU2 dom q ri) (zDD dom ri rj cj))) 51 1 (zfB (zU2 dom q ri) (zDD dom ri rj cj))) _
      generalize g2 : zupL (zupL M1 51 0 (zfA (zU2 dom q ri) (zDD dom ri rj cj))) 51 1 (zfB (zU2 dom q ri) (zDD dom ri rj cj)) = M2
      have E2 : zKp [50, 51] [(12, 14), (12, 15), (12, 16)] M M2 := by rw [← g2]; exact (E1.upL (by simp)).upL (by simp)
      have f1 : M2.2 50 0 = zfA (zU1 dom q rj) (zDD dom ri rj ci) := by rw [← g2, ← g1]; simp [zupL_l]
      have f2 : M2.2 50 1 = zfB (zU1 dom q rj) (zDD dom ri rj ci) := by rw [← g2, ← g1]; simp [zupL_l]
      have f3 : M2.2 51 0 = zfA (zU2 dom q ri) (zDD dom ri rj cj) := by rw [← g2]; simp [zupL_l]
      have f4 : M2.2 51 1 = zfB (zU2 dom q ri) (zDD dom ri rj cj) := by rw [← g2]; simp [zupL_l]
      refine yR.adv 5 (pc' := 164) (lv' := [(11, .long (lI (zSc dom * (rj - ri)))), (9, .long (lI (zSp dom * ((q : Int) * q)))), (7, .long (lI (zTt dom))), (6, .int 3), (5, .int sq), (3, .long (lI (rj - ri))), (0, .ref 12), (1, .int (nI i)), (2, .int (nI j))]) (st' := [.int (lg_cmp (M2.2 50 0) 0)]) (M' := M2) rfl ?_
      rw [f1]
      refine yR.if1 .le _ _ _ _ rfl (fun q2 => ?_) (fun q2 => ?_)
      · exact zero _ M2 ⟨by simp, by simp [zwf]⟩ E2 (fun z => absurd z.2.1 (Int.not_lt.mpr (zlT q2 rfl rfl)))
      · have q2' : ¬ (zfA (zU1 dom q rj) (zDD dom ri rj ci)).toInt ≤ 0 := zlF q2 rfl rfl
        refine yR.adv 5 (pc' := 176) (lv' := [(11, .long (lI (zSc dom * (rj - ri)))), (9, .long (lI (zSp dom * ((q : Int) * q)))), (7, .long (lI (zTt dom))), (6, .int 3), (5, .int sq), (3, .long (lI (rj - ri))), (0, .ref 12), (1, .int (nI i)), (2, .int (nI j))]) (st' := [.int (lg_cmp (M2.2 51 0) 0)]) (M' := M2) rfl ?_
        rw [f3]
        refine yR.if1 .le _ _ _ _ rfl (fun q3 => ?_) (fun q3 => ?_)
        · exact zero _ M2 ⟨by simp, by simp [zwf]⟩ E2 (fun z => absurd z.2.2.1 (Int.not_lt.mpr (zlT q3 rfl rfl)))
        · have q3' : ¬ (zfA (zU2 dom q ri) (zDD dom ri rj cj)).toInt ≤ 0 := zlF q3 rfl rfl
          obtain ⟨v2, hv2⟩ := zem (zokW (zfA (zU1 dom q rj) (zDD dom ri rj ci)) (zfB (zU1 dom q rj) (zDD dom ri rj ci)) (zfA (zU2 dom q ri) (zDD dom ri rj cj)) (zfB (zU2 dom q ri) (zDD dom ri rj cj)))
          refine yR.adv 1 (pc' := 180) (lv' := [(11, .long (lI (zSc dom * (rj - ri)))), (9, .long (lI (zSp dom * ((q : Int) * q)))), (7, .long (lI (zTt dom))), (6, .int 3), (5, .int sq), (3, .long (lI (rj - ri))), (0, .ref 12), (1, .int (nI i)), (2, .int (nI j))]) (st' := [.ref 12]) (M' := M2) rfl ?_
          refine yR.call _ rfl rfl rfl rfl rfl (m_bring M2 _ _ _ _ f1 f2 f3 f4 (zfd_le s1.2.2).1 (zfd_le s2.2.2).1 v2 hv2) (fun r1 M3 hq => ?_)
          obtain ⟨rfl, m1, m2, m3, e3⟩ := hq
          show yR 11 183 [(11, .long (lI (zSc dom * (rj - ri)))), (9, .long (lI (zSp dom * ((q : Int) * q)))), (7, .long (lI (zTt dom))), (6, .int 3), (5, .int sq), (3, .long (lI (rj - ri))), (0, .ref 12), (1, .int (nI i)), (2, .int (nI j))] [.int v2] M3 _
          have E3 : zKp [50, 51] [(12, 14), (12, 15), (12, 16)] M M3 := E2.trans (e3.mono (by simp) (by simp <;> omega))
          refine yR.if1 .eq _ _ _ _ rfl (fun q4 => ?_) (fun q4 => ?_)
          · exact zero _ M3 ⟨by simp, by simp [zwf]⟩ E3 (fun z => zeq0 hv2 q4 z.2.2.2)
          · have hok : zokP dom q ri ci rj cj := ⟨hne, by omega, by omega, zeq1 hv2 q4⟩
            have hv0 : v = 1 := hv.elim (fun p => p.2) (fun p => absurd hok p.1)
            refine yR.adv 2 (pc' := 191) (lv' := [(11, .long (lI (zSc dom * (rj - ri)))), (9, .long (lI (zSp dom * ((q : Int) * q)))), (7, .long (lI (zTt dom))), (6, .int 3), (5, .int sq), (3, .long (lI (rj - ri))), (0, .ref 12), (1, .int (nI i)), (2, .int (nI j))]) (st' := [.int 1]) (M' := M3) rfl ?_
            refine yR.ret _ rfl rfl rfl ?_
            exact ⟨by rw [hv0], fun _ => ⟨m1, m2, m3⟩, E3⟩
    refine yR.adv 3 (pc' := 28) (lv' := [(3, .long (lI (rj - ri))), (0, .ref 12), (1, .int (nI i)), (2, .int (nI j))]) (st' := [.int 1, .int (M.1 12 0)]) (M' := M) rfl ?_
    rw [h0]
    refine yR.if2 .ne _ _ _ _ rfl (fun q2 => ?_) (fun q2 => ?_)
    · have q2' : ¬ (dom : Int) = 1 := zcT q2 (nI_toInt (by omega)) rfl
      refine yR.adv 1 (pc' := 36) (lv' := [(3, .long (lI (rj - ri))), (0, .ref 12), (1, .int (nI i)), (2, .int (nI j))]) (st' := [.int 2]) (M' := M) rfl ?_
      exact main 2 (by rw [if_neg (by omega)]; rfl)
    · have q2' : ¬ ¬ (dom : Int) = 1 := zcF q2 (nI_toInt (by omega)) rfl
      refine yR.adv 2 (pc' := 36) (lv' := [(3, .long (lI (rj - ri))), (0, .ref 12), (1, .int (nI i)), (2, .int (nI j))]) (st' := [.int 3]) (M' := M) rfl ?_
      exact main 3 (by rw [if_pos (by omega)]; rfl)
  · have q1' : ¬ ¬ rj - ri = 0 := zlF q1 td rfl
    have hv0 : v = 0 := hv.elim (fun p => absurd p.1.1 (by omega)) (fun p => p.2)
    refine yR.adv 1 (pc' := 22) (lv' := [(3, .long (lI (rj - ri))), (0, .ref 12), (1, .int (nI i)), (2, .int (nI j))]) (st' := [.int 0]) (M' := M) rfl ?_
    refine yR.ret _ rfl rfl rfl ?_
    exact ⟨by rw [hv0], fun e => by rw [hv0] at e; exact absurd e (by decide), zKp.refl _ _ _⟩
def zrt (dom : Nat) (q : Int) (w1 w2 W : Int64) (li lj : List zPt) (t : Nat) : Prop := (w1 * zps li t + w2 * zps lj t) * zduL dom t = zduU dom q t * W
theorem zterms : ∀ d, d < 6 → (nI d + 1) * (nI d + 2) / 2 = nI ((d + 1) * (d + 2) / 2) ∧ (d + 1) * (d + 2) / 2 ≤ 21 := by decide
theorem m_rightC_loop (M : zMm) (dom : Nat) (q : Nat) (T : Nat) (hT : T ≤ 21) (i j : Nat) (hi : i < 28) (hj : j < 28) (dd : Int32) (w1 w2 W : Int64) (li lj : List zPt) (h1 : M.2 12 14 = w1) (h2 : M.2 12 15 = w2) (h3 : M.2 12 16 = W) (hd : ∀ t, t < 21 → M.2 46 t = zduU dom q t ∧ M.2 47 t = zduL dom t) (g1 : ∀ t, t < 21 → M.2 (18 + i) t = zps li t) (g2 : ∀ t, t < 21 → M.2 (18 + j) t = zps lj t) (v : Int32)
    (hv : ((∀ t, t < T → zrt dom q w1 w2 W li lj t) ∧ v = 1) ∨ (¬ (∀ t, t < T → zrt dom q w1 w2 W li lj t) ∧ v = 0)) : ∀ (d t : Nat), t + d = T → (∀ s, s < t → zrt dom q w1 w2 W li lj s) → yR 13 14 [(0, .ref 12), (1, .int dd), (2, .int (nI i)), (3, .int (nI j)), (4, .int (nI T)), (5, .int (nI t))] [] M (fun r N => r = some (.int v) ∧ N = M) := by
  intro d
  induction d using Nat.strongRecOn with
  | ind d ih =>
    intro t h hp
    have done : t = T → yR 13 93 [(0, .ref 12)] [] M (fun r N => r = some (.int v) ∧ N = M) := by
      intro e
      have hv0 : v = 1 := hv.elim (fun p => p.2) (fun p => absurd (fun s hs => hp s (by omega)) p.1)
      refine yR.adv 1 (pc' := 94) (lv' := [(0, .ref 12)]) (st' := [.int 1]) (M' := M) rfl ?_
      refine yR.ret _ rfl rfl rfl ?_
      exact ⟨by rw [hv0], rfl⟩
    refine yR.adv 2 (pc' := 18) (lv' := [(0, .ref 12), (1, .int dd), (2, .int (nI i)), (3, .int (nI j)), (4, .int (nI T)), (5, .int (nI t))]) (st' := [.int (nI T), .int (nI t)]) (M' := M) rfl ?_
    refine yR.if2 .ge _ _ _ _ rfl (fun q1 => ?_) (fun q1 => ?_)
    · have q1' : (T : Int) ≤ t := zcT q1 (nI_toInt (by omega)) (nI_toInt (by omega))
      exact (done (by omega)).drop (by refine ⟨?_, ?_⟩ <;> simp [zget, zwf])
    · have q1' : ¬ (T : Int) ≤ t := zcF q1 (nI_toInt (by omega)) (nI_toInt (by omega))
      refine yR.adv 2 (pc' := 25) (lv' := [(0, .ref 12), (1, .int dd), (2, .int (nI i)), (3, .int (nI j)), (4, .int (nI T)), (5, .int (nI t))]) (st' := [.int 21, .int (nI t)]) (M' := M) rfl ?_
      refine yR.if2 .ge _ _ _ _ rfl (fun q2 => ?_) (fun q2 => ?_)
      · have q2' : (21 : Int) ≤ t := zcT q2 (nI_toInt (by omega)) rfl
        omega
      · have ht : t < 21 := by omega
        refine yR.adv 5 (pc' := 37) (lv' := [(0, .ref 12), (1, .int dd), (2, .int (nI i)), (3, .int (nI j)), (4, .int (nI T)), (5, .int (nI t))]) (st' := [.int (nI i), .ref 17, .long (M.2 12 14)]) (M' := M) rfl ?_
        rw [h1]
        refine yR.row i _ _ _ rfl (rfl) (by omega) ?_
        refine yR.adv 1 (pc' := 40) (lv' := [(0, .ref 12), (1, .int dd), (2, .int (nI i)), (3, .int (nI j)), (4, .int (nI T)), (5, .int (nI t))]) (st' := [.int (nI t), .ref (18 + i), .long w1]) (M' := M) rfl ?_
        refine yR.lald t _ _ _ rfl (zrow_lay _ (by omega)) (by decide) (rfl) (by omega) ?_
        rw [g1 t ht]
        refine yR.adv 6 (pc' := 51) (lv' := [(0, .ref 12), (1, .int dd), (2, .int (nI i)), (3, .int (nI j)), (4, .int (nI T)), (5, .int (nI t))]) (st' := [.int (nI j), .ref 17, .long (M.2 12 15), .long (w1 * (zps li t))]) (M' := M) rfl ?_
        rw [h2]
        refine yR.row j _ _ _ rfl (rfl) (by omega) ?_
        refine yR.adv 1 (pc' := 54) (lv' := [(0, .ref 12), (1, .int dd), (2, .int (nI i)), (3, .int (nI j)), (4, .int (nI T)), (5, .int (nI t))]) (st' := [.int (nI t), .ref (18 + j), .long w2, .long (w1 * (zps li t))]) (M' := M) rfl ?_
        refine yR.lald t _ _ _ rfl (zrow_lay _ (by omega)) (by decide) (rfl) (by omega) ?_
        rw [g2 t ht]
        refine yR.adv 7 (pc' := 67) (lv' := [(6, .long ((w1 * (zps li t)) + (w2 * (zps lj t)))), (0, .ref 12), (1, .int dd), (2, .int (nI i)), (3, .int (nI j)), (4, .int (nI T)), (5, .int (nI t))]) (st' := [.int (nI t), .ref 47, .long ((w1 * (zps li t)) + (w2 * (zps lj t)))]) (M' := M) rfl ?_
        refine yR.lald t _ _ _ rfl rfl (by decide) (rfl) (by omega) ?_
        refine yR.adv 4 (pc' := 75) (lv' := [(6, .long ((w1 * (zps li t)) + (w2 * (zps lj t)))), (0, .ref 12), (1, .int dd), (2, .int (nI i)), (3, .int (nI j)), (4, .int (nI T)), (5, .int (nI t))]) (st' := [.int (nI t), .ref 46, .long (((w1 * (zps li t)) + (w2 * (zps lj t))) * (M.2 47 t))]) (M' := M) rfl ?_
        refine yR.lald t _ _ _ rfl rfl (by decide) (rfl) (by omega) ?_
        refine yR.adv 4 (pc' := 82) (lv' := [(6, .long ((w1 * (zps li t)) + (w2 * (zps lj t)))), (0, .ref 12), (1, .int dd), (2, .int (nI i)), (3, .int (nI j)), (4, .int (nI T)), (5, .int (nI t))]) (st' := [.int (lg_cmp (((w1 * (zps li t)) + (w2 * (zps lj t))) * (M.2 47 t)) ((M.2 46 t) * (M.2 12 16)))]) (M' := M) rfl ?_
        rw [(hd t ht).1, (hd t ht).2, h3]
        show yR 13 82 [(6, .long ((w1 * (zps li t)) + (w2 * (zps lj t)))), (0, .ref 12), (1, .int dd), (2, .int (nI i)), (3, .int (nI j)), (4, .int (nI T)), (5, .int (nI t))] [.int (lg_cmp ((w1 * zps li t + w2 * zps lj t) * zduL dom t) (zduU dom q t * W))] M _
        refine yR.if1 .eq _ _ _ _ rfl (fun q3 => ?_) (fun q3 => ?_)
        · have q3' : zrt dom q w1 w2 W li lj t := Int64.toInt_inj.mp (zlT q3 rfl rfl)
          refine yR.adv 2 (pc' := 14) (lv' := [(5, .int (nI t + 1)), (6, .long ((w1 * (zps li t)) + (w2 * (zps lj t)))), (0, .ref 12), (1, .int dd), (2, .int (nI i)), (3, .int (nI j)), (4, .int (nI T))]) (st' := []) (M' := M) rfl ?_
          exact (ih (d - 1) (by omega) (t + 1) (by omega) (fun s hs => if e : s = t then e ▸ q3' else hp s (by omega))).drop (by refine ⟨?_, ?_⟩ <;> simp [zget, zwf, nI_succ])
        · have q3' : ¬ zrt dom q w1 w2 W li lj t := fun e => zlF q3 rfl rfl (Int64.toInt_inj.mpr e)
          have hv0 : v = 0 := hv.elim (fun p => absurd (p.1 t (by omega)) q3') (fun p => p.2)
          refine yR.adv 1 (pc' := 86) (lv' := [(6, .long ((w1 * (zps li t)) + (w2 * (zps lj t)))), (0, .ref 12), (1, .int dd), (2, .int (nI i)), (3, .int (nI j)), (4, .int (nI T)), (5, .int (nI t))]) (st' := [.int 0]) (M' := M) rfl ?_
          refine yR.ret _ rfl rfl rfl ?_
          exact ⟨by rw [hv0], rfl⟩
theorem m_rightC (M : zMm) (dom : Nat) (q : Nat) (dg : Nat) (hdg : dg < 6) (i j : Nat) (hi : i < 28) (hj : j < 28) (w1 w2 W : Int64) (li lj : List zPt) (h1 : M.2 12 14 = w1) (h2 : M.2 12 15 = w2) (h3 : M.2 12 16 = W) (hd : ∀ t, t < 21 → M.2 46 t = zduU dom q t ∧ M.2 47 t = zduL dom t) (g1 : ∀ t, t < 21 → M.2 (18 + i) t = zps li t) (g2 : ∀ t, t < 21 → M.2 (18 + j) t = zps lj t) (v : Int32)
    (hv : ((∀ t, t < (dg + 1) * (dg + 2) / 2 → zrt dom q w1 w2 W li lj t) ∧ v = 1) ∨ (¬ (∀ t, t < (dg + 1) * (dg + 2) / 2 → zrt dom q w1 w2 W li lj t) ∧ v = 0)) : yOk 13 0 [(0, .ref 12), (1, .int (nI dg)), (2, .int (nI i)), (3, .int (nI j))] [] M (some (.int v)) M := by
  refine yR.ok ?_
  obtain ⟨z1, z2⟩ := zterms dg hdg
  refine yR.adv 8 (pc' := 8) (lv' := [(0, .ref 12), (1, .int (nI dg)), (2, .int (nI i)), (3, .int (nI j))]) (st' := [.int 2, .int (((nI dg) + 1) * ((nI dg) + 2))]) (M' := M) rfl ?_
  refine yR.idiv _ _ _ rfl (by decide) ?_
  rw [z1]
  refine yR.adv 3 (pc' := 14) (lv' := [(5, .int 0), (4, .int (nI ((dg + 1) * (dg + 2) / 2))), (0, .ref 12), (1, .int (nI dg)), (2, .int (nI i)), (3, .int (nI j))]) (st' := []) (M' := M) rfl ?_
  exact (m_rightC_loop M dom q _ z2 i j hi hj (nI dg) w1 w2 W li lj h1 h2 h3 hd g1 g2 v hv _ 0 (Nat.zero_add _) (fun s hs => absurd hs (by omega))).drop (by refine ⟨?_, ?_⟩ <;> simp [zget, zwf, nI_0])
