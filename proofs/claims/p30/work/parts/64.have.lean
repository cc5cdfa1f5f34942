/-! ===== weights of a pair, of the reference ===== -/
theorem r_have_end (M : zMm) (u d w e : Int) (bu : u.natAbs ≤ 1000000) (bd : 0 < d ∧ d ≤ 1000000) (bw : w.natAbs ≤ 1000000) (be : 0 < e ∧ e ≤ 1000000) (v : Int32) (hv : ((0 < u ∧ 0 < w ∧ zokW (zfu (lI u) (lI d)) (zfd (lI u) (lI d)) (zfu (lI w) (lI e)) (zfd (lI w) (lI e))) ∧ v = 1) ∨ (¬ (0 < u ∧ 0 < w ∧ zokW (zfu (lI u) (lI d)) (zfd (lI u) (lI d)) (zfu (lI w) (lI e)) (zfd (lI w) (lI e))) ∧ v = 0)) :
    yR 143 205 [(0, .ref 93), (12, .long (lI u)), (14, .long (lI w)), (16, .long (lI d)), (18, .long (lI e))] [] M (fun r N => r = some (.int v) ∧ (v = 1 → N.2 93 30 = zWW (zfd (lI u) (lI d)) (zfd (lI w) (lI e)) ∧ N.2 93 31 = zfu (lI u) (lI d) * (zWW (zfd (lI u) (lI d)) (zfd (lI w) (lI e)) / zfd (lI u) (lI d)) ∧ N.2 93 32 = zfu (lI w) (lI e) * (zWW (zfd (lI u) (lI d)) (zfd (lI w) (lI e)) / zfd (lI w) (lI e))) ∧ zKp [] [(93, 30), (93, 31), (93, 32)] M N) := by
  have tu : (lI u).toInt = u := lI_toInt (by omega)
  have td : (lI d).toInt = d := lI_toInt (by omega)
  have tw : (lI w).toInt = w := lI_toInt (by omega)
  have te : (lI e).toInt = e := lI_toInt (by omega)
  have pd : 0 < (lI d).toInt := by omega
  have pe : 0 < (lI e).toInt := by omega
  have p1 := (zfd_le (u := lI u) pd).1
  have p2 := (zfd_le (u := lI w) pe).1
  have hg : 0 < (zg (zfd (lI u) (lI d)) (zfd (lI w) (lI e))).toInt := by rw [zg_toInt p2]; have := zg_pos (u := zfd (lI u) (lI d)) p2; omega
  have zero0 : ∀ (lv : zL) (N : zMm), zSub [] lv → zKp [] [(93, 30), (93, 31), (93, 32)] M N → ¬ (0 < u ∧ 0 < w ∧ zokW (zfu (lI u) (lI d)) (zfd (lI u) (lI d)) (zfu (lI w) (lI e)) (zfd (lI w) (lI e))) → yR 143 345 lv [] N (fun r N => r = some (.int v) ∧ (v = 1 → N.2 93 30 = zWW (zfd (lI u) (lI d)) (zfd (lI w) (lI e)) ∧ N.2 93 31 = zfu (lI u) (lI d) * (zWW (zfd (lI u) (lI d)) (zfd (lI w) (lI e)) / zfd (lI u) (lI d)) ∧ N.2 93 32 = zfu (lI w) (lI e) * (zWW (zfd (lI u) (lI d)) (zfd (lI w) (lI e)) / zfd (lI w) (lI e))) ∧ zKp [] [(93, 30), (93, 31), (93, 32)] M N) := by
    intro lv N hs hE hn
    have hv0 : v = 0 := hv.elim (fun p => absurd p.1 hn) (fun p => p.2)
    refine yR.drop hs ?_
    refine yR.adv 1 (pc' := 346) (lv' := []) (st' := [.int 0]) (M' := N) rfl ?_
    refine yR.ret _ rfl rfl rfl ?_
    exact ⟨by rw [hv0], fun z => by rw [hv0] at z; exact absurd z (by decide), hE⟩
  have zero1 : ∀ (lv : zL), zSub [] lv → ¬ (0 < u ∧ 0 < w ∧ zokW (zfu (lI u) (lI d)) (zfd (lI u) (lI d)) (zfu (lI w) (lI e)) (zfd (lI w) (lI e))) → yR 143 219 lv [] M (fun r N => r = some (.int v) ∧ (v = 1 → N.2 93 30 = zWW (zfd (lI u) (lI d)) (zfd (lI w) (lI e)) ∧ N.2 93 31 = zfu (lI u) (lI d) * (zWW (zfd (lI u) (lI d)) (zfd (lI w) (lI e)) / zfd (lI u) (lI d)) ∧ N.2 93 32 = zfu (lI w) (lI e) * (zWW (zfd (lI u) (lI d)) (zfd (lI w) (lI e)) / zfd (lI w) (lI e))) ∧ zKp [] [(93, 30), (93, 31), (93, 32)] M N) := by
    intro lv hs hn
    have hv0 : v = 0 := hv.elim (fun p => absurd p.1 hn) (fun p => p.2)
    refine yR.drop hs ?_
    refine yR.adv 1 (pc' := 220) (lv' := []) (st' := [.int 0]) (M' := M) rfl ?_
    refine yR.ret _ rfl rfl rfl ?_
    exact ⟨by rw [hv0], fun z => by rw [hv0] at z; exact absurd z (by decide), zKp.refl _ _ _⟩
  refine yR.adv 3 (pc' := 209) (lv' := [(0, .ref 93), (12, .long (lI u)), (14, .long (lI w)), (16, .long (lI d)), (18, .long (lI e))]) (st' := [.int (lg_cmp (lI u) 0)]) (M' := M) rfl ?_
  refine yR.if1 .le _ _ _ _ rfl (fun q1 => ?_) (fun q1 => ?_)
  · have q1' : u ≤ 0 := zlT q1 tu rfl
    exact zero1 _ ⟨by simp, by simp [zwf]⟩ (fun z => by have := z.1; omega)
  · have q1' : ¬ u ≤ 0 := zlF q1 tu rfl
    refine yR.adv 3 (pc' := 216) (lv' := [(0, .ref 93), (12, .long (lI u)), (14, .long (lI w)), (16, .long (lI d)), (18, .long (lI e))]) (st' := [.int (lg_cmp (lI w) 0)]) (M' := M) rfl ?_
    refine yR.if1 .gt _ _ _ _ rfl (fun q2 => ?_) (fun q2 => ?_)
    · have q2' : 0 < w := zlT q2 tw rfl
      refine yR.adv 2 (pc' := 225) (lv' := [(0, .ref 93), (12, .long (lI u)), (14, .long (lI w)), (16, .long (lI d)), (18, .long (lI e))]) (st' := [.long (lI d), .long (lI u)]) (M' := M) rfl ?_
      refine yR.callK (M1 := M) _ rfl rfl rfl rfl rfl (r_gcd M (lI u) (lI d) (by omega) (by omega)) ?_
      show yR 143 228 [(0, .ref 93), (12, .long (lI u)), (14, .long (lI w)), (16, .long (lI d)), (18, .long (lI e))] [.long (zg (lI u) (lI d))] M _
      refine yR.adv 3 (pc' := 234) (lv' := [(20, .long (zg (lI u) (lI d))), (0, .ref 93), (12, .long (lI u)), (14, .long (lI w)), (16, .long (lI d)), (18, .long (lI e))]) (st' := [.long (lI e), .long (lI w)]) (M' := M) rfl ?_
      refine yR.callK (M1 := M) _ rfl rfl rfl rfl rfl (r_gcd M (lI w) (lI e) (by omega) (by omega)) ?_
      show yR 143 237 [(20, .long (zg (lI u) (lI d))), (0, .ref 93), (12, .long (lI u)), (14, .long (lI w)), (16, .long (lI d)), (18, .long (lI e))] [.long (zg (lI w) (lI e))] M _
      refine yR.adv 4 (pc' := 244) (lv' := [(22, .long (zg (lI w) (lI e))), (20, .long (zg (lI u) (lI d))), (0, .ref 93), (12, .long (lI u)), (14, .long (lI w)), (16, .long (lI d)), (18, .long (lI e))]) (st' := [.long (zg (lI u) (lI d)), .long (lI d), .ref 93]) (M' := M) rfl ?_
      refine yR.ldiv _ _ _ rfl (zg_ne pd) ?_
      show yR 143 245 [(22, .long (zg (lI w) (lI e))), (20, .long (zg (lI u) (lI d))), (0, .ref 93), (12, .long (lI u)), (14, .long (lI w)), (16, .long (lI d)), (18, .long (lI e))] [.long (zfd (lI u) (lI d)), .ref 93] M _
      refine yR.adv 2 (pc' := 249) (lv' := [(22, .long (zg (lI w) (lI e))), (20, .long (zg (lI u) (lI d))), (0, .ref 93), (12, .long (lI u)), (14, .long (lI w)), (16, .long (lI d)), (18, .long (lI e))]) (st' := [.long (zg (lI u) (lI d)), .long (lI d), .long (zfd (lI u) (lI d)), .ref 93]) (M' := M) rfl ?_
      refine yR.ldiv _ _ _ rfl (zg_ne pd) ?_
      show yR 143 250 [(22, .long (zg (lI w) (lI e))), (20, .long (zg (lI u) (lI d))), (0, .ref 93), (12, .long (lI u)), (14, .long (lI w)), (16, .long (lI d)), (18, .long (lI e))] [.long (zfd (lI u) (lI d)), .long (zfd (lI u) (lI d)), .ref 93] M _
      refine yR.adv 2 (pc' := 254) (lv' := [(22, .long (zg (lI w) (lI e))), (20, .long (zg (lI u) (lI d))), (0, .ref 93), (12, .long (lI u)), (14, .long (lI w)), (16, .long (lI d)), (18, .long (lI e))]) (st' := [.long (zg (lI w) (lI e)), .long (lI e), .long (zfd (lI u) (lI d)), .long (zfd (lI u) (lI d)), .ref 93]) (M' := M) rfl ?_
      refine yR.ldiv _ _ _ rfl (zg_ne pe) ?_
      show yR 143 255 [(22, .long (zg (lI w) (lI e))), (20, .long (zg (lI u) (lI d))), (0, .ref 93), (12, .long (lI u)), (14, .long (lI w)), (16, .long (lI d)), (18, .long (lI e))] [.long (zfd (lI w) (lI e)), .long (zfd (lI u) (lI d)), .long (zfd (lI u) (lI d)), .ref 93] M _
      refine yR.callK (M1 := M) _ rfl rfl rfl rfl rfl (r_gcd M (zfd (lI u) (lI d)) (zfd (lI w) (lI e)) (zpos_mx p1) (zpos_mx p2)) ?_
      show yR 143 258 [(22, .long (zg (lI w) (lI e))), (20, .long (zg (lI u) (lI d))), (0, .ref 93), (12, .long (lI u)), (14, .long (lI w)), (16, .long (lI d)), (18, .long (lI e))] [.long (zg (zfd (lI u) (lI d)) (zfd (lI w) (lI e))), .long (zfd (lI u) (lI d)), .ref 93] M _
      refine yR.ldiv _ _ _ rfl (zpos_ne hg) ?_
      refine yR.adv 2 (pc' := 263) (lv' := [(22, .long (zg (lI w) (lI e))), (20, .long (zg (lI u) (lI d))), (0, .ref 93), (12, .long (lI u)), (14, .long (lI w)), (16, .long (lI d)), (18, .long (lI e))]) (st' := [.long (zg (lI w) (lI e)), .long (lI e), .long ((zfd (lI u) (lI d)) / (zg (zfd (lI u) (lI d)) (zfd (lI w) (lI e)))), .ref 93]) (M' := M) rfl ?_
      refine yR.ldiv _ _ _ rfl (zg_ne pe) ?_
      show yR 143 264 [(22, .long (zg (lI w) (lI e))), (20, .long (zg (lI u) (lI d))), (0, .ref 93), (12, .long (lI u)), (14, .long (lI w)), (16, .long (lI d)), (18, .long (lI e))] [.long (zfd (lI w) (lI e)), .long ((zfd (lI u) (lI d)) / (zg (zfd (lI u) (lI d)) (zfd (lI w) (lI e)))), .ref 93] M _
      refine yR.adv 5 (pc' := 273) (lv' := [(22, .long (zg (lI w) (lI e))), (20, .long (zg (lI u) (lI d))), (0, .ref 93), (12, .long (lI u)), (14, .long (lI w)), (16, .long (lI d)), (18, .long (lI e))]) (st' := [.long (zg (lI u) (lI d)), .long (lI u), .ref 93]) (M' := zupL M 93 30 (((zfd (lI u) (lI d)) / (zg (zfd (lI u) (lI d)) (zfd (lI w) (lI e)))) * (zfd (lI w) (lI e)))) rfl ?_
      generalize g1 : zupL M 93 30 (((zfd (lI u) (lI d)) / (zg (zfd (lI u) (lI d)) (zfd (lI w) (lI e)))) * (zfd (lI w) (lI e))) = M1
      have k1 : M1.2 93 30 = zWW (zfd (lI u) (lI d)) (zfd (lI w) (lI e)) := by rw [← g1]; simp [zupL_l, zWW]
      refine yR.ldiv _ _ _ rfl (zg_ne pd) ?_
      show yR 143 274 [(22, .long (zg (lI w) (lI e))), (20, .long (zg (lI u) (lI d))), (0, .ref 93), (12, .long (lI u)), (14, .long (lI w)), (16, .long (lI d)), (18, .long (lI e))] [.long (zfu (lI u) (lI d)), .ref 93] M1 _
      refine yR.adv 4 (pc' := 282) (lv' := [(22, .long (zg (lI w) (lI e))), (20, .long (zg (lI u) (lI d))), (0, .ref 93), (12, .long (lI u)), (14, .long (lI w)), (16, .long (lI d)), (18, .long (lI e))]) (st' := [.long (zg (lI u) (lI d)), .long (lI d), .long (M1.2 93 30), .long (zfu (lI u) (lI d)), .ref 93]) (M' := M1) rfl ?_
      rw [k1]
      refine yR.ldiv _ _ _ rfl (zg_ne pd) ?_
      show yR 143 283 [(22, .long (zg (lI w) (lI e))), (20, .long (zg (lI u) (lI d))), (0, .ref 93), (12, .long (lI u)), (14, .long (lI w)), (16, .long (lI d)), (18, .long (lI e))] [.long (zfd (lI u) (lI d)), .long (zWW (zfd (lI u) (lI d)) (zfd (lI w) (lI e))), .long (zfu (lI u) (lI d)), .ref 93] M1 _
      refine yR.ldiv _ _ _ rfl (zpos_ne p1) ?_
      refine yR.adv 5 (pc' := 293) (lv' := [(22, .long (zg (lI w) (lI e))), (20, .long (zg (lI u) (lI d))), (0, .ref 93), (12, .long (lI u)), (14, .long (lI w)), (16, .long (lI d)), (18, .long (lI e))]) (st' := [.long (zg (lI w) (lI e)), .long (lI w), .ref 93]) (M' := zupL M1 93 31 ((zfu (lI u) (lI d)) * ((zWW (zfd (lI u) (lI d)) (zfd (lI w) (lI e))) / (zfd (lI u) (lI d))))) rfl ?_
      generalize g2 : zupL M1 93 31 ((zfu (lI u) (lI d)) * ((zWW (zfd (lI u) (lI d)) (zfd (lI w) (lI e))) / (zfd (lI u) (lI d)))) = M2
      have k2 : M2.2 93 30 = zWW (zfd (lI u) (lI d)) (zfd (lI w) (lI e)) := by rw [← g2]; simp [zupL_l, k1]
      have k3 : M2.2 93 31 = zfu (lI u) (lI d) * (zWW (zfd (lI u) (lI d)) (zfd (lI w) (lI e)) / zfd (lI u) (lI d)) := by rw [← g2]; simp [zupL_l]
      refine yR.ldiv _ _ _ rfl (zg_ne pe) ?_
      show yR 143 294 [(22, .long (zg (lI w) (lI e))), (20, .long (zg (lI u) (lI d))), (0, .ref 93), (12, .long (lI u)), (14, .long (lI w)), (16, .long (lI d)), (18, .long (lI e))] [.long (zfu (lI w) (lI e)), .ref 93] M2 _
      refine yR.adv 4 (pc' := 302) (lv' := [(22, .long (zg (lI w) (lI e))), (20, .long (zg (lI u) (lI d))), (0, .ref 93), (12, .long (lI u)), (14, .long (lI w)), (16, .long (lI d)), (18, .long (lI e))]) (st' := [.long (zg (lI w) (lI e)), .long (lI e), .long (M2.2 93 30), .long (zfu (lI w) (lI e)), .ref 93]) (M' := M2) rfl ?_
      rw [k2]
      refine yR.ldiv _ _ _ rfl (zg_ne pe) ?_
      show yR 143 303 [(22, .long (zg (lI w) (lI e))), (20, .long (zg (lI u) (lI d))), (0, .ref 93), (12, .long (lI u)), (14, .long (lI w)), (16, .long (lI d)), (18, .long (lI e))] [.long (zfd (lI w) (lI e)), .long (zWW (zfd (lI u) (lI d)) (zfd (lI w) (lI e))), .long (zfu (lI w) (lI e)), .ref 93] M2 _
      refine yR.ldiv _ _ _ rfl (zpos_ne p2) ?_
      refine yR.adv 6 (pc' := 316) (lv' := [(22, .long (zg (lI w) (lI e))), (20, .long (zg (lI u) (lI d))), (0, .ref 93), (12, .long (lI u)), (14, .long (lI w)), (16, .long (lI d)), (18, .long (lI e))]) (st' := [.int (lg_cmp ((zupL M2 93 32 ((zfu (lI w) (lI e)) * ((zWW (zfd (lI u) (lI d)) (zfd (lI w) (lI e))) / (zfd (lI w) (lI e))))).2 93 30) 10000)]) (M' := zupL M2 93 32 ((zfu (lI w) (lI e)) * ((zWW (zfd (lI u) (lI d)) (zfd (lI w) (lI e))) / (zfd (lI w) (lI e))))) rfl ?_
      generalize g3 : zupL M2 93 32 ((zfu (lI w) (lI e)) * ((zWW (zfd (lI u) (lI d)) (zfd (lI w) (lI e))) / (zfd (lI w) (lI e)))) = M3
      have n1 : M3.2 93 30 = zWW (zfd (lI u) (lI d)) (zfd (lI w) (lI e)) := by rw [← g3]; simp [zupL_l, k2]
      have n2 : M3.2 93 31 = zfu (lI u) (lI d) * (zWW (zfd (lI u) (lI d)) (zfd (lI w) (lI e)) / zfd (lI u) (lI d)) := by rw [← g3]; simp [zupL_l, k3]
      have n3 : M3.2 93 32 = zfu (lI w) (lI e) * (zWW (zfd (lI u) (lI d)) (zfd (lI w) (lI e)) / zfd (lI w) (lI e)) := by rw [← g3]; simp [zupL_l]
      have E : zKp [] [(93, 30), (93, 31), (93, 32)] M M3 := by rw [← g3, ← g2, ← g1]; exact (((zKp.refl _ _ M).upL (by simp)).upL (by simp)).upL (by simp)
      rw [n1]
      refine yR.if1 .gt _ _ _ _ rfl (fun q4 => ?_) (fun q4 => ?_)
      · exact zero0 _ M3 ⟨by simp, by simp [zwf]⟩ E (fun z => absurd z.2.2.1 (Int.not_le.mpr (zlT q4 rfl rfl)))
      · refine yR.adv 4 (pc' := 327) (lv' := [(22, .long (zg (lI w) (lI e))), (20, .long (zg (lI u) (lI d))), (0, .ref 93), (12, .long (lI u)), (14, .long (lI w)), (16, .long (lI d)), (18, .long (lI e))]) (st' := [.int (lg_cmp (M3.2 93 31) 10000)]) (M' := M3) rfl ?_
        rw [n2]
        refine yR.if1 .gt _ _ _ _ rfl (fun q5 => ?_) (fun q5 => ?_)
        · exact zero0 _ M3 ⟨by simp, by simp [zwf]⟩ E (fun z => absurd z.2.2.2.1 (Int.not_le.mpr (zlT q5 rfl rfl)))
        · refine yR.adv 4 (pc' := 338) (lv' := [(22, .long (zg (lI w) (lI e))), (20, .long (zg (lI u) (lI d))), (0, .ref 93), (12, .long (lI u)), (14, .long (lI w)), (16, .long (lI d)), (18, .long (lI e))]) (st' := [.int (lg_cmp (M3.2 93 32) 10000)]) (M' := M3) rfl ?_
          rw [n3]
          refine yR.if1 .gt _ _ _ _ rfl (fun q6 => ?_) (fun q6 => ?_)
          · exact zero0 _ M3 ⟨by simp, by simp [zwf]⟩ E (fun z => absurd z.2.2.2.2 (Int.not_le.mpr (zlT q6 rfl rfl)))
          · have hok : (0 < u ∧ 0 < w ∧ zokW (zfu (lI u) (lI d)) (zfd (lI u) (lI d)) (zfu (lI w) (lI e)) (zfd (lI w) (lI e))) := ⟨by omega, q2', Int.not_lt.mp (zlF q4 rfl rfl), Int.not_lt.mp (zlF q5 rfl rfl), Int.not_lt.mp (zlF q6 rfl rfl)⟩
            have hv0 : v = 1 := hv.elim (fun p => p.2) (fun p => absurd hok p.1)
            refine yR.adv 2 (pc' := 346) (lv' := [(22, .long (zg (lI w) (lI e))), (20, .long (zg (lI u) (lI d))), (0, .ref 93), (12, .long (lI u)), (14, .long (lI w)), (16, .long (lI d)), (18, .long (lI e))]) (st' := [.int 1]) (M' := M3) rfl ?_
            refine yR.ret _ rfl rfl rfl ?_
            exact ⟨by rw [hv0], fun _ => ⟨n1, n2, n3⟩, E⟩
    · have q2' : ¬ 0 < w := zlF q2 tw rfl
      exact zero1 _ ⟨by simp, by simp [zwf]⟩ (fun z => q2' z.2.1)
/-- a fraction and the same with both numbers k times -/
theorem zfA_k {u d U D k : Int} (hk : 0 < k) (bu : u.natAbs ≤ 1000000) (bd : 0 < d ∧ d ≤ 1000000) (bU : U.natAbs ≤ 1000000) (bD : D.natAbs ≤ 1000000) (hD : D ≠ 0) (h1 : (if D < 0 then -U else U) = k * u) (h2 : (if D < 0 then -D else D) = k * d) : zfA U D = zfu (lI u) (lI d) ∧ zfB U D = zfd (lI u) (lI d) := by
  obtain ⟨s1, s2, s3⟩ := zsg_b bU bD hD
  have tu : (lI u).toInt = u := lI_toInt (by omega)
  have td : (lI d).toInt = d := lI_toInt (by omega)
  unfold zfA zfB
  refine zf_same s3 (by omega) ?_
  rw [s1, s2, h1, h2, tu, td, Int.mul_comm k u, Int.mul_assoc]
theorem zfu_pos {u d : Int} (bu : u.natAbs ≤ 1000000) (bd : 0 < d ∧ d ≤ 1000000) : 0 < (zfu (lI u) (lI d)).toInt ↔ 0 < u := by
  have tu : (lI u).toInt = u := lI_toInt (by omega)
  have td : (lI d).toInt = d := lI_toInt (by omega)
  have hc := zf_cross (u := lI u) (d := lI d) (by omega)
  have hp := (zfd_le (u := lI u) (d := lI d) (by omega)).1
  rw [tu, td] at hc
  refine ⟨fun h => ?_, fun h => ?_⟩
  · have h1 := Int.mul_pos h bd.1
    rw [hc] at h1
    exact Int.pos_of_mul_pos_left h1 hp
  · have h1 := Int.mul_pos h hp
    rw [← hc] at h1
    exact Int.pos_of_mul_pos_left h1 bd.1
/-- the law's three numbers, by the domain: of 1, of r, the lower one; and how often the class has them -/
def zRo (dom : Nat) : Int := if dom = 0 then 12 else if dom = 1 then 2 else 6
def zRf (dom : Nat) : Int := if dom = 0 then 8 else if dom = 1 then 1 else 2
def zRb (dom : Nat) : Int := if dom = 1 then 4 else 3
def zRk (dom : Nat) : Int := if dom = 1 then 6 else 1
theorem zR_k : ∀ dom, dom < 3 → zTt dom = zRk dom * zRo dom ∧ zSp dom = zRk dom * zRf dom ∧ zSc dom = zRk dom * zRb dom ∧ 0 < zRk dom ∧ 0 < zRb dom ∧ (zRb dom).natAbs ≤ 4 ∧ (zRf dom).natAbs ≤ 8 ∧ (zRo dom).natAbs ≤ 12 := by decide
theorem r_have_mid (M : zMm) (dom : Nat) (hdom : dom < 3) (q : Nat) (hq : 1 ≤ q ∧ q ≤ 6) (i j : Nat) (hi : i < 170) (hj : j < 170) (ri rj : Int) (ci cj : Nat) (h1 : M.1 113 i = iI ri) (h2 : M.1 113 j = iI rj) (h3 : M.1 112 i = nI ci) (h4 : M.1 112 j = nI cj)
    (b1 : 0 ≤ ri ∧ ri ≤ 200) (b2 : 0 ≤ rj ∧ rj ≤ 200) (b3 : 1 ≤ ci ∧ ci ≤ 8) (b4 : 1 ≤ cj ∧ cj ≤ 8) (hne : ri ≠ rj) (v : Int32) (hv : (zokP dom q ri ci rj cj ∧ v = 1) ∨ (¬ zokP dom q ri ci rj cj ∧ v = 0)) :
    yR 143 106 [(0, .ref 93), (1, .int (nI i)), (2, .int (nI j)), (3, .int (iI q)), (4, .long (lI (rj - ri))), (6, .long (lI (zRo dom))), (8, .long (lI (zRf dom))), (10, .long (lI (zRb dom)))] [] M (fun r N => r = some (.int v) ∧ (v = 1 → N.2 93 30 = zpW dom q ri ci rj cj ∧ N.2 93 31 = zp1 dom q ri ci rj cj ∧ N.2 93 32 = zp2 dom q ri ci rj cj) ∧ zKp [] [(93, 30), (93, 31), (93, 32)] M N) := by
  obtain ⟨kT, kS, kC, kp, bp, bb, bf, bo⟩ := zR_k dom hdom
  have tail : ∀ u w d e : Int, (u = if rj - ri < 0 then -(rj * zRo dom - zRf dom * q * q) else rj * zRo dom - zRf dom * q * q) → (w = if rj - ri < 0 then -(zRf dom * q * q - ri * zRo dom) else zRf dom * q * q - ri * zRo dom) → (d = if rj - ri < 0 then -(zRb dom * ci * (rj - ri)) else zRb dom * ci * (rj - ri)) → (e = if rj - ri < 0 then -(zRb dom * cj * (rj - ri)) else zRb dom * cj * (rj - ri)) →
      yR 143 205 [(0, .ref 93), (12, .long (lI u)), (14, .long (lI w)), (16, .long (lI d)), (18, .long (lI e))] [] M (fun r N => r = some (.int v) ∧ (v = 1 → N.2 93 30 = zpW dom q ri ci rj cj ∧ N.2 93 31 = zp1 dom q ri ci rj cj ∧ N.2 93 32 = zp2 dom q ri ci rj cj) ∧ zKp [] [(93, 30), (93, 31), (93, 32)] M N) := by
    intro u w d e hu hw hd he
    have n1 : zDD dom ri rj ci ≠ 0 := by unfold zDD; exact Int.mul_ne_zero (Int.mul_ne_zero (by have := (zSc_b dom).2; omega) (by omega)) (by omega)
    have n2 : zDD dom ri rj cj ≠ 0 := by unfold zDD; exact Int.mul_ne_zero (Int.mul_ne_zero (by have := (zSc_b dom).2; omega) (by omega)) (by omega)
    have c1 := zDD_b dom (c := ci) b1 b2 (by omega)
    have c2 := zDD_b dom (c := cj) b1 b2 (by omega)
    have c3 := (zU1_b dom (q := q) (rj := rj) (by omega) (by omega)).1
    have c4 := (zU1_b dom (q := q) (rj := ri) (by omega) (by omega)).2
    have U1 : zU1 dom q rj = zRk dom * (rj * zRo dom - zRf dom * q * q) := by unfold zU1; rw [kT, kS, Int.mul_sub, Int.mul_assoc, Int.mul_assoc, Int.mul_assoc, Int.mul_comm rj]
    have U2 : zU2 dom q ri = zRk dom * (zRf dom * q * q - ri * zRo dom) := by unfold zU2; rw [kT, kS, Int.mul_sub, Int.mul_assoc, Int.mul_assoc, Int.mul_assoc, Int.mul_comm ri]
    have D1 : zDD dom ri rj ci = zRk dom * (zRb dom * ci * (rj - ri)) := by unfold zDD; rw [kC, Int.mul_assoc, Int.mul_assoc, Int.mul_assoc, Int.mul_comm (rj - ri)]
    have D2 : zDD dom ri rj cj = zRk dom * (zRb dom * cj * (rj - ri)) := by unfold zDD; rw [kC, Int.mul_assoc, Int.mul_assoc, Int.mul_assoc, Int.mul_comm (rj - ri)]
    have hs1 : zDD dom ri rj ci < 0 ↔ rj - ri < 0 := by
      have hp : 0 < zSc dom * ci := Int.mul_pos (zSc_b dom).2 (by omega)
      have he2 : zDD dom ri rj ci = zSc dom * ci * (rj - ri) := by unfold zDD; rw [Int.mul_right_comm]
      rw [he2]
      refine ⟨fun z => Int.not_le.mp (fun y => absurd (Int.mul_nonneg (Int.le_of_lt hp) y) (Int.not_le.mpr z)), fun z => Int.mul_neg_of_pos_of_neg hp z⟩
    have hs2 : zDD dom ri rj cj < 0 ↔ rj - ri < 0 := by
      have hp : 0 < zSc dom * cj := Int.mul_pos (zSc_b dom).2 (by omega)
      have he2 : zDD dom ri rj cj = zSc dom * cj * (rj - ri) := by unfold zDD; rw [Int.mul_right_comm]
      rw [he2]
      refine ⟨fun z => Int.not_le.mp (fun y => absurd (Int.mul_nonneg (Int.le_of_lt hp) y) (Int.not_le.mpr z)), fun z => Int.mul_neg_of_pos_of_neg hp z⟩
    have x1 : (if zDD dom ri rj ci < 0 then -zU1 dom q rj else zU1 dom q rj) = zRk dom * u := by
      by_cases z : rj - ri < 0
      · rw [if_pos (hs1.mpr z), hu, if_pos z, U1, Int.mul_neg]
      · rw [if_neg (fun y => z (hs1.mp y)), hu, if_neg z, U1]
    have x2 : (if zDD dom ri rj ci < 0 then -zDD dom ri rj ci else zDD dom ri rj ci) = zRk dom * d := by
      by_cases z : rj - ri < 0
      · rw [if_pos (hs1.mpr z), hd, if_pos z, D1, Int.mul_neg]
      · rw [if_neg (fun y => z (hs1.mp y)), hd, if_neg z, D1]
    have x3 : (if zDD dom ri rj cj < 0 then -zU2 dom q ri else zU2 dom q ri) = zRk dom * w := by
      by_cases z : rj - ri < 0
      · rw [if_pos (hs2.mpr z), hw, if_pos z, U2, Int.mul_neg]
      · rw [if_neg (fun y => z (hs2.mp y)), hw, if_neg z, U2]
    have x4 : (if zDD dom ri rj cj < 0 then -zDD dom ri rj cj else zDD dom ri rj cj) = zRk dom * e := by
      by_cases z : rj - ri < 0
      · rw [if_pos (hs2.mpr z), he, if_pos z, D2, Int.mul_neg]
      · rw [if_neg (fun y => z (hs2.mp y)), he, if_neg z, D2]
    have kbd : ∀ x : Int, (zRk dom * x).natAbs ≤ 40000 → x.natAbs ≤ 40000 := fun x hx => by
      rw [Int.natAbs_mul] at hx
      have h1 : 1 ≤ (zRk dom).natAbs := by omega
      have := Nat.mul_le_mul_right x.natAbs h1
      omega
    have bu := kbd u (by rw [← x1]; split <;> omega)
    have bw := kbd w (by rw [← x3]; split <;> omega)
    have bd := kbd d (by rw [← x2]; split <;> omega)
    have be := kbd e (by rw [← x4]; split <;> omega)
    have pd : 0 < d := Int.pos_of_mul_pos_right (by rw [← x2]; split <;> omega) kp
    have pe : 0 < e := Int.pos_of_mul_pos_right (by rw [← x4]; split <;> omega) kp
    obtain ⟨f1, f2⟩ := zfA_k kp (by omega) (d := d) (by omega) (by omega) (by omega) n1 x1 x2
    obtain ⟨f3, f4⟩ := zfA_k kp (by omega) (d := e) (by omega) (by omega) (by omega) n2 x3 x4
    have hiff : zokP dom q ri ci rj cj ↔ (0 < u ∧ 0 < w ∧ zokW (zfu (lI u) (lI d)) (zfd (lI u) (lI d)) (zfu (lI w) (lI e)) (zfd (lI w) (lI e))) := by
      unfold zokP
      rw [f1, f2, f3, f4, zfu_pos (by omega) (by omega), zfu_pos (by omega) (by omega)]
      exact ⟨fun z => z.2, fun z => ⟨hne, z⟩⟩
    refine (r_have_end M u d w e (by omega) (by omega) (by omega) (by omega) v (by rw [hiff] at hv; exact hv)).mono (fun r N hN => ?_)
    unfold zp1 zp2 zpW
    rw [f1, f2, f3, f4]
    exact hN
  refine yR.adv 3 (pc' := 111) (lv' := [(0, .ref 93), (1, .int (nI i)), (2, .int (nI j)), (3, .int (iI q)), (4, .long (lI (rj - ri))), (6, .long (lI (zRo dom))), (8, .long (lI (zRf dom))), (10, .long (lI (zRb dom)))]) (st' := [.int (nI j), .ref 113]) (M' := M) rfl ?_
  refine yR.iald j _ _ _ rfl rfl (by decide) (rfl) (by omega) ?_
  rw [h2]
  refine yR.adv 22 (pc' := 140) (lv' := [(12, .long ((((iI rj).toInt64) * (lI (zRo dom))) - (((lI (zRf dom)) * ((iI q).toInt64)) * ((iI q).toInt64)))), (0, .ref 93), (1, .int (nI i)), (2, .int (nI j)), (3, .int (iI q)), (4, .long (lI (rj - ri))), (6, .long (lI (zRo dom))), (8, .long (lI (zRf dom))), (10, .long (lI (zRb dom)))]) (st' := [.int (nI i), .ref 113, .long (((lI (zRf dom)) * ((iI q).toInt64)) * ((iI q).toInt64))]) (M' := M) rfl ?_
  refine yR.iald i _ _ _ rfl rfl (by decide) (rfl) (by omega) ?_
  rw [h1]
  refine yR.adv 9 (pc' := 155) (lv' := [(14, .long ((((lI (zRf dom)) * ((iI q).toInt64)) * ((iI q).toInt64)) - (((iI ri).toInt64) * (lI (zRo dom))))), (12, .long ((((iI rj).toInt64) * (lI (zRo dom))) - (((lI (zRf dom)) * ((iI q).toInt64)) * ((iI q).toInt64)))), (0, .ref 93), (1, .int (nI i)), (2, .int (nI j)), (3, .int (iI q)), (4, .long (lI (rj - ri))), (6, .long (lI (zRo dom))), (8, .long (lI (zRf dom))), (10, .long (lI (zRb dom)))]) (st' := [.int (nI i), .ref 112, .long (lI (zRb dom))]) (M' := M) rfl ?_
  refine yR.iald i _ _ _ rfl rfl (by decide) (rfl) (by omega) ?_
  rw [h3]
  refine yR.adv 9 (pc' := 170) (lv' := [(16, .long (((lI (zRb dom)) * ((nI ci).toInt64)) * (lI (rj - ri)))), (14, .long ((((lI (zRf dom)) * ((iI q).toInt64)) * ((iI q).toInt64)) - (((iI ri).toInt64) * (lI (zRo dom))))), (12, .long ((((iI rj).toInt64) * (lI (zRo dom))) - (((lI (zRf dom)) * ((iI q).toInt64)) * ((iI q).toInt64)))), (0, .ref 93), (1, .int (nI i)), (2, .int (nI j)), (3, .int (iI q)), (4, .long (lI (rj - ri))), (6, .long (lI (zRo dom))), (8, .long (lI (zRf dom))), (10, .long (lI (zRb dom)))]) (st' := [.int (nI j), .ref 112, .long (lI (zRb dom))]) (M' := M) rfl ?_
  refine yR.iald j _ _ _ rfl rfl (by decide) (rfl) (by omega) ?_
  rw [h4]
  refine yR.adv 8 (pc' := 182) (lv' := [(18, .long (((lI (zRb dom)) * ((nI cj).toInt64)) * (lI (rj - ri)))), (16, .long (((lI (zRb dom)) * ((nI ci).toInt64)) * (lI (rj - ri)))), (14, .long ((((lI (zRf dom)) * ((iI q).toInt64)) * ((iI q).toInt64)) - (((iI ri).toInt64) * (lI (zRo dom))))), (12, .long ((((iI rj).toInt64) * (lI (zRo dom))) - (((lI (zRf dom)) * ((iI q).toInt64)) * ((iI q).toInt64)))), (0, .ref 93), (1, .int (nI i)), (2, .int (nI j)), (3, .int (iI q)), (4, .long (lI (rj - ri))), (6, .long (lI (zRo dom))), (8, .long (lI (zRf dom))), (10, .long (lI (zRb dom)))]) (st' := [.int (lg_cmp (lI (rj - ri)) 0)]) (M' := M) rfl ?_
  rw [iI_l (by omega), iI_l (by omega), iI_l (by omega), nI_iI ci, nI_iI cj, iI_l (by omega), iI_l (by omega)]
  simp only [lI_mul, lI_sub]
  show yR 143 182 [(18, .long (lI (zRb dom * cj * (rj - ri)))), (16, .long (lI (zRb dom * ci * (rj - ri)))), (14, .long (lI (zRf dom * q * q - ri * zRo dom))), (12, .long (lI (rj * zRo dom - zRf dom * q * q))), (0, .ref 93), (1, .int (nI i)), (2, .int (nI j)), (3, .int (iI q)), (4, .long (lI (rj - ri))), (6, .long (lI (zRo dom))), (8, .long (lI (zRf dom))), (10, .long (lI (zRb dom)))] [.int (lg_cmp (lI (rj - ri)) 0)] M _
  have td : (lI (rj - ri)).toInt = rj - ri := lI_toInt (by omega)
  refine yR.if1 .ge _ _ _ _ rfl (fun q1 => ?_) (fun q1 => ?_)
  · have q1' : 0 ≤ rj - ri := zlT q1 td rfl
    exact (tail _ _ _ _ (by rw [if_neg (by omega)]) (by rw [if_neg (by omega)]) (by rw [if_neg (by omega)]) (by rw [if_neg (by omega)])).drop (by refine ⟨?_, ?_⟩ <;> simp [zget, zwf])
  · have q1' : ¬ 0 ≤ rj - ri := zlF q1 td rfl
    refine yR.adv 12 (pc' := 205) (lv' := [(18, .long (-(lI (zRb dom * cj * (rj - ri))))), (16, .long (-(lI (zRb dom * ci * (rj - ri))))), (14, .long (-(lI (zRf dom * q * q - ri * zRo dom)))), (12, .long (-(lI (rj * zRo dom - zRf dom * q * q)))), (0, .ref 93), (1, .int (nI i)), (2, .int (nI j)), (3, .int (iI q)), (4, .long (lI (rj - ri))), (6, .long (lI (zRo dom))), (8, .long (lI (zRf dom))), (10, .long (lI (zRb dom)))]) (st' := []) (M' := M) rfl ?_
    simp only [lI_neg]
    exact (tail _ _ _ _ (by rw [if_pos (by omega)]) (by rw [if_pos (by omega)]) (by rw [if_pos (by omega)]) (by rw [if_pos (by omega)])).drop (by refine ⟨?_, ?_⟩ <;> simp [zget, zwf])
theorem r_have_0 (M : zMm) (q : Nat) (hq : 1 ≤ q ∧ q ≤ 6) (i j : Nat) (hi : i < 170) (hj : j < 170) (ri rj : Int) (ci cj : Nat) (h1 : M.1 113 i = iI ri) (h2 : M.1 113 j = iI rj) (h3 : M.1 112 i = nI ci) (h4 : M.1 112 j = nI cj) (b1 : 0 ≤ ri ∧ ri ≤ 200) (b2 : 0 ≤ rj ∧ rj ≤ 200) (b3 : 1 ≤ ci ∧ ci ≤ 8) (b4 : 1 ≤ cj ∧ cj ≤ 8) (hm : M.1 93 4 = 0) (v : Int32) (hv : (zokP 0 q ri ci rj cj ∧ v = 1) ∨ (¬ zokP 0 q ri ci rj cj ∧ v = 0)) : yR 143 0 [(0, .ref 93), (1, .int (nI i)), (2, .int (nI j)), (3, .int (iI q))] [] M (fun r N => r = some (.int v) ∧ (v = 1 → N.2 93 30 = zpW 0 q ri ci rj cj ∧ N.2 93 31 = zp1 0 q ri ci rj cj ∧ N.2 93 32 = zp2 0 q ri ci rj cj) ∧ zKp [] [(93, 30), (93, 31), (93, 32)] M N) := by
  refine yR.adv 3 (pc' := 5) (lv' := [(0, .ref 93), (1, .int (nI i)), (2, .int (nI j)), (3, .int (iI q))]) (st' := [.int (nI j), .ref 113]) (M' := M) rfl ?_
  refine yR.iald j _ _ _ rfl rfl (by decide) (rfl) (by omega) ?_
  refine yR.adv 3 (pc' := 11) (lv' := [(0, .ref 93), (1, .int (nI i)), (2, .int (nI j)), (3, .int (iI q))]) (st' := [.int (nI i), .ref 113, .int (M.1 113 j)]) (M' := M) rfl ?_
  refine yR.iald i _ _ _ rfl rfl (by decide) (rfl) (by omega) ?_
  rw [h1, h2]
  refine yR.adv 6 (pc' := 20) (lv' := [(4, .long (((iI rj) - (iI ri)).toInt64)), (0, .ref 93), (1, .int (nI i)), (2, .int (nI j)), (3, .int (iI q))]) (st' := [.int (lg_cmp (((iI rj) - (iI ri)).toInt64) 0)]) (M' := M) rfl ?_
  rw [iI_sub, iI_l (by omega)]
  have td : (lI (rj - ri)).toInt = rj - ri := lI_toInt (by omega)
  refine yR.if1 .ne _ _ _ _ rfl (fun q1 => ?_) (fun q1 => ?_)
  · have q1' : ¬ rj - ri = 0 := zlT q1 td rfl
    refine yR.adv 2 (pc' := 29) (lv' := [(4, .long (lI (rj - ri))), (0, .ref 93), (1, .int (nI i)), (2, .int (nI j)), (3, .int (iI q))]) (st' := [.int (M.1 93 4)]) (M' := M) rfl ?_
    rw [hm]
    refine yR.if1 .ne _ _ _ _ rfl (fun q9 => ?_) (fun q9 => ?_)
    · exact absurd q9 (by decide)
    · refine yR.adv 5 (pc' := 61) (lv' := [(6, .long 12), (4, .long (lI (rj - ri))), (0, .ref 93), (1, .int (nI i)), (2, .int (nI j)), (3, .int (iI q))]) (st' := [.int (M.1 93 4)]) (M' := M) rfl ?_
      rw [hm]
      refine yR.if1 .ne _ _ _ _ rfl (fun q9 => ?_) (fun q9 => ?_)
      · exact absurd q9 (by decide)
      · refine yR.adv 6 (pc' := 92) (lv' := [(8, .long 8), (6, .long 12), (4, .long (lI (rj - ri))), (0, .ref 93), (1, .int (nI i)), (2, .int (nI j)), (3, .int (iI q))]) (st' := [.int 1, .int (M.1 93 4)]) (M' := M) rfl ?_
        rw [hm]
        refine yR.if2 .ne _ _ _ _ rfl (fun q9 => ?_) (fun q9 => ?_)
        · refine yR.adv 2 (pc' := 106) (lv' := [(10, .long 3), (8, .long 8), (6, .long 12), (4, .long (lI (rj - ri))), (0, .ref 93), (1, .int (nI i)), (2, .int (nI j)), (3, .int (iI q))]) (st' := []) (M' := M) rfl ?_
          exact (r_have_mid M 0 (by decide) q hq i j hi hj ri rj ci cj h1 h2 h3 h4 b1 b2 b3 b4 (by omega) v hv).drop (by refine ⟨?_, ?_⟩ <;> simp [zget, zwf] <;> exact ⟨rfl, rfl, rfl⟩)
        · exact absurd q9 (by decide)
  · have q1' : ¬ ¬ rj - ri = 0 := zlF q1 td rfl
    have hv0 : v = 0 := hv.elim (fun p => absurd p.1.1 (by omega)) (fun p => p.2)
    refine yR.adv 1 (pc' := 24) (lv' := [(4, .long (lI (rj - ri))), (0, .ref 93), (1, .int (nI i)), (2, .int (nI j)), (3, .int (iI q))]) (st' := [.int 0]) (M' := M) rfl ?_
    refine yR.ret _ rfl rfl rfl ?_
    exact ⟨by rw [hv0], fun e => by rw [hv0] at e; exact absurd e (by decide), zKp.refl _ _ _⟩
theorem r_have_1 (M : zMm) (q : Nat) (hq : 1 ≤ q ∧ q ≤ 6) (i j : Nat) (hi : i < 170) (hj : j < 170) (ri rj : Int) (ci cj : Nat) (h1 : M.1 113 i = iI ri) (h2 : M.1 113 j = iI rj) (h3 : M.1 112 i = nI ci) (h4 : M.1 112 j = nI cj) (b1 : 0 ≤ ri ∧ ri ≤ 200) (b2 : 0 ≤ rj ∧ rj ≤ 200) (b3 : 1 ≤ ci ∧ ci ≤ 8) (b4 : 1 ≤ cj ∧ cj ≤ 8) (hm : M.1 93 4 = 1) (v : Int32) (hv : (zokP 1 q ri ci rj cj ∧ v = 1) ∨ (¬ zokP 1 q ri ci rj cj ∧ v = 0)) : yR 143 0 [(0, .ref 93), (1, .int (nI i)), (2, .int (nI j)), (3, .int (iI q))] [] M (fun r N => r = some (.int v) ∧ (v = 1 → N.2 93 30 = zpW 1 q ri ci rj cj ∧ N.2 93 31 = zp1 1 q ri ci rj cj ∧ N.2 93 32 = zp2 1 q ri ci rj cj) ∧ zKp [] [(93, 30), (93, 31), (93, 32)] M N) := by
  refine yR.adv 3 (pc' := 5) (lv' := [(0, .ref 93), (1, .int (nI i)), (2, .int (nI j)), (3, .int (iI q))]) (st' := [.int (nI j), .ref 113]) (M' := M) rfl ?_
  refine yR.iald j _ _ _ rfl rfl (by decide) (rfl) (by omega) ?_
  refine yR.adv 3 (pc' := 11) (lv' := [(0, .ref 93), (1, .int (nI i)), (2, .int (nI j)), (3, .int (iI q))]) (st' := [.int (nI i), .ref 113, .int (M.1 113 j)]) (M' := M) rfl ?_
  refine yR.iald i _ _ _ rfl rfl (by decide) (rfl) (by omega) ?_
  rw [h1, h2]
  refine yR.adv 6 (pc' := 20) (lv' := [(4, .long (((iI rj) - (iI ri)).toInt64)), (0, .ref 93), (1, .int (nI i)), (2, .int (nI j)), (3, .int (iI q))]) (st' := [.int (lg_cmp (((iI rj) - (iI ri)).toInt64) 0)]) (M' := M) rfl ?_
  rw [iI_sub, iI_l (by omega)]
  have td : (lI (rj - ri)).toInt = rj - ri := lI_toInt (by omega)
  refine yR.if1 .ne _ _ _ _ rfl (fun q1 => ?_) (fun q1 => ?_)
  · have q1' : ¬ rj - ri = 0 := zlT q1 td rfl
    refine yR.adv 2 (pc' := 29) (lv' := [(4, .long (lI (rj - ri))), (0, .ref 93), (1, .int (nI i)), (2, .int (nI j)), (3, .int (iI q))]) (st' := [.int (M.1 93 4)]) (M' := M) rfl ?_
    rw [hm]
    refine yR.if1 .ne _ _ _ _ rfl (fun q9 => ?_) (fun q9 => ?_)
    · refine yR.adv 3 (pc' := 43) (lv' := [(4, .long (lI (rj - ri))), (0, .ref 93), (1, .int (nI i)), (2, .int (nI j)), (3, .int (iI q))]) (st' := [.int 1, .int (M.1 93 4)]) (M' := M) rfl ?_
      rw [hm]
      refine yR.if2 .ne _ _ _ _ rfl (fun q9 => ?_) (fun q9 => ?_)
      · exact absurd q9 (by decide)
      · refine yR.adv 5 (pc' := 61) (lv' := [(6, .long 2), (4, .long (lI (rj - ri))), (0, .ref 93), (1, .int (nI i)), (2, .int (nI j)), (3, .int (iI q))]) (st' := [.int (M.1 93 4)]) (M' := M) rfl ?_
        rw [hm]
        refine yR.if1 .ne _ _ _ _ rfl (fun q9 => ?_) (fun q9 => ?_)
        · refine yR.adv 3 (pc' := 75) (lv' := [(6, .long 2), (4, .long (lI (rj - ri))), (0, .ref 93), (1, .int (nI i)), (2, .int (nI j)), (3, .int (iI q))]) (st' := [.int 1, .int (M.1 93 4)]) (M' := M) rfl ?_
          rw [hm]
          refine yR.if2 .ne _ _ _ _ rfl (fun q9 => ?_) (fun q9 => ?_)
          · exact absurd q9 (by decide)
          · refine yR.adv 6 (pc' := 92) (lv' := [(8, .long 1), (6, .long 2), (4, .long (lI (rj - ri))), (0, .ref 93), (1, .int (nI i)), (2, .int (nI j)), (3, .int (iI q))]) (st' := [.int 1, .int (M.1 93 4)]) (M' := M) rfl ?_
            rw [hm]
            refine yR.if2 .ne _ _ _ _ rfl (fun q9 => ?_) (fun q9 => ?_)
            · exact absurd q9 (by decide)
            · refine yR.adv 3 (pc' := 106) (lv' := [(10, .long 4), (8, .long 1), (6, .long 2), (4, .long (lI (rj - ri))), (0, .ref 93), (1, .int (nI i)), (2, .int (nI j)), (3, .int (iI q))]) (st' := []) (M' := M) rfl ?_
              exact (r_have_mid M 1 (by decide) q hq i j hi hj ri rj ci cj h1 h2 h3 h4 b1 b2 b3 b4 (by omega) v hv).drop (by refine ⟨?_, ?_⟩ <;> simp [zget, zwf] <;> exact ⟨rfl, rfl, rfl⟩)
        · exact absurd q9 (by decide)
    · exact absurd q9 (by decide)
  · have q1' : ¬ ¬ rj - ri = 0 := zlF q1 td rfl
    have hv0 : v = 0 := hv.elim (fun p => absurd p.1.1 (by omega)) (fun p => p.2)
    refine yR.adv 1 (pc' := 24) (lv' := [(4, .long (lI (rj - ri))), (0, .ref 93), (1, .int (nI i)), (2, .int (nI j)), (3, .int (iI q))]) (st' := [.int 0]) (M' := M) rfl ?_
    refine yR.ret _ rfl rfl rfl ?_
    exact ⟨by rw [hv0], fun e => by rw [hv0] at e; exact absurd e (by decide), zKp.refl _ _ _⟩
theorem r_have_2 (M : zMm) (q : Nat) (hq : 1 ≤ q ∧ q ≤ 6) (i j : Nat) (hi : i < 170) (hj : j < 170) (ri rj : Int) (ci cj : Nat) (h1 : M.1 113 i = iI ri) (h2 : M.1 113 j = iI rj) (h3 : M.1 112 i = nI ci) (h4 : M.1 112 j = nI cj) (b1 : 0 ≤ ri ∧ ri ≤ 200) (b2 : 0 ≤ rj ∧ rj ≤ 200) (b3 : 1 ≤ ci ∧ ci ≤ 8) (b4 : 1 ≤ cj ∧ cj ≤ 8) (hm : M.1 93 4 = 2) (v : Int32) (hv : (zokP 2 q ri ci rj cj ∧ v = 1) ∨ (¬ zokP 2 q ri ci rj cj ∧ v = 0)) : yR 143 0 [(0, .ref 93), (1, .int (nI i)), (2, .int (nI j)), (3, .int (iI q))] [] M (fun r N => r = some (.int v) ∧ (v = 1 → N.2 93 30 = zpW 2 q ri ci rj cj ∧ N.2 93 31 = zp1 2 q ri ci rj cj ∧ N.2 93 32 = zp2 2 q ri ci rj cj) ∧ zKp [] [(93, 30), (93, 31), (93, 32)] M N) := by
  refine yR.adv 3 (pc' := 5) (lv' := [(0, .ref 93), (1, .int (nI i)), (2, .int (nI j)), (3, .int (iI q))]) (st' := [.int (nI j), .ref 113]) (M' := M) rfl ?_
  refine yR.iald j _ _ _ rfl rfl (by decide) (rfl) (by omega) ?_
  refine yR.adv 3 (pc' := 11) (lv' := [(0, .ref 93), (1, .int (nI i)), (2, .int (nI j)), (3, .int (iI q))]) (st' := [.int (nI i), .ref 113, .int (M.1 113 j)]) (M' := M) rfl ?_
  refine yR.iald i _ _ _ rfl rfl (by decide) (rfl) (by omega) ?_
  rw [h1, h2]
  refine yR.adv 6 (pc' := 20) (lv' := [(4, .long (((iI rj) - (iI ri)).toInt64)), (0, .ref 93), (1, .int (nI i)), (2, .int (nI j)), (3, .int (iI q))]) (st' := [.int (lg_cmp (((iI rj) - (iI ri)).toInt64) 0)]) (M' := M) rfl ?_
  rw [iI_sub, iI_l (by omega)]
  have td : (lI (rj - ri)).toInt = rj - ri := lI_toInt (by omega)
  refine yR.if1 .ne _ _ _ _ rfl (fun q1 => ?_) (fun q1 => ?_)
  · have q1' : ¬ rj - ri = 0 := zlT q1 td rfl
    refine yR.adv 2 (pc' := 29) (lv' := [(4, .long (lI (rj - ri))), (0, .ref 93), (1, .int (nI i)), (2, .int (nI j)), (3, .int (iI q))]) (st' := [.int (M.1 93 4)]) (M' := M) rfl ?_
    rw [hm]
    refine yR.if1 .ne _ _ _ _ rfl (fun q9 => ?_) (fun q9 => ?_)
    · refine yR.adv 3 (pc' := 43) (lv' := [(4, .long (lI (rj - ri))), (0, .ref 93), (1, .int (nI i)), (2, .int (nI j)), (3, .int (iI q))]) (st' := [.int 1, .int (M.1 93 4)]) (M' := M) rfl ?_
      rw [hm]
      refine yR.if2 .ne _ _ _ _ rfl (fun q9 => ?_) (fun q9 => ?_)
      · refine yR.adv 4 (pc' := 61) (lv' := [(6, .long 6), (4, .long (lI (rj - ri))), (0, .ref 93), (1, .int (nI i)), (2, .int (nI j)), (3, .int (iI q))]) (st' := [.int (M.1 93 4)]) (M' := M) rfl ?_
        rw [hm]
        refine yR.if1 .ne _ _ _ _ rfl (fun q9 => ?_) (fun q9 => ?_)
        · refine yR.adv 3 (pc' := 75) (lv' := [(6, .long 6), (4, .long (lI (rj - ri))), (0, .ref 93), (1, .int (nI i)), (2, .int (nI j)), (3, .int (iI q))]) (st' := [.int 1, .int (M.1 93 4)]) (M' := M) rfl ?_
          rw [hm]
          refine yR.if2 .ne _ _ _ _ rfl (fun q9 => ?_) (fun q9 => ?_)
          · refine yR.adv 5 (pc' := 92) (lv' := [(8, .long 2), (6, .long 6), (4, .long (lI (rj - ri))), (0, .ref 93), (1, .int (nI i)), (2, .int (nI j)), (3, .int (iI q))]) (st' := [.int 1, .int (M.1 93 4)]) (M' := M) rfl ?_
            rw [hm]
            refine yR.if2 .ne _ _ _ _ rfl (fun q9 => ?_) (fun q9 => ?_)
            · refine yR.adv 2 (pc' := 106) (lv' := [(10, .long 3), (8, .long 2), (6, .long 6), (4, .long (lI (rj - ri))), (0, .ref 93), (1, .int (nI i)), (2, .int (nI j)), (3, .int (iI q))]) (st' := []) (M' := M) rfl ?_
              exact (r_have_mid M 2 (by decide) q hq i j hi hj ri rj ci cj h1 h2 h3 h4 b1 b2 b3 b4 (by omega) v hv).drop (by refine ⟨?_, ?_⟩ <;> simp [zget, zwf] <;> exact ⟨rfl, rfl, rfl⟩)
            · exact absurd q9 (by decide)
          · exact absurd q9 (by decide)
        · exact absurd q9 (by decide)
      · exact absurd q9 (by decide)
    · exact absurd q9 (by decide)
  · have q1' : ¬ ¬ rj - ri = 0 := zlF q1 td rfl
    have hv0 : v = 0 := hv.elim (fun p => absurd p.1.1 (by omega)) (fun p => p.2)
    refine yR.adv 1 (pc' := 24) (lv' := [(4, .long (lI (rj - ri))), (0, .ref 93), (1, .int (nI i)), (2, .int (nI j)), (3, .int (iI q))]) (st' := [.int 0]) (M' := M) rfl ?_
    refine yR.ret _ rfl rfl rfl ?_
    exact ⟨by rw [hv0], fun e => by rw [hv0] at e; exact absurd e (by decide), zKp.refl _ _ _⟩
theorem r_have (dom : Nat) (hdom : dom < 3) (M : zMm) (q : Nat) (hq : 1 ≤ q ∧ q ≤ 6) (i j : Nat) (hi : i < 170) (hj : j < 170) (ri rj : Int) (ci cj : Nat) (h1 : M.1 113 i = iI ri) (h2 : M.1 113 j = iI rj) (h3 : M.1 112 i = nI ci) (h4 : M.1 112 j = nI cj) (b1 : 0 ≤ ri ∧ ri ≤ 200) (b2 : 0 ≤ rj ∧ rj ≤ 200) (b3 : 1 ≤ ci ∧ ci ≤ 8) (b4 : 1 ≤ cj ∧ cj ≤ 8) (hm : M.1 93 4 = nI dom) (v : Int32) (hv : (zokP dom q ri ci rj cj ∧ v = 1) ∨ (¬ zokP dom q ri ci rj cj ∧ v = 0)) : yR 143 0 [(0, .ref 93), (1, .int (nI i)), (2, .int (nI j)), (3, .int (iI q))] [] M (fun r N => r = some (.int v) ∧ (v = 1 → N.2 93 30 = zpW dom q ri ci rj cj ∧ N.2 93 31 = zp1 dom q ri ci rj cj ∧ N.2 93 32 = zp2 dom q ri ci rj cj) ∧ zKp [] [(93, 30), (93, 31), (93, 32)] M N) := by
  have h : dom = 0 ∨ dom = 1 ∨ dom = 2 := by omega
  rcases h with rfl | rfl | rfl
  · exact r_have_0 M q hq i j hi hj ri rj ci cj h1 h2 h3 h4 b1 b2 b3 b4 hm v hv
  · exact r_have_1 M q hq i j hi hj ri rj ci cj h1 h2 h3 h4 b1 b2 b3 b4 hm v hv
  · exact r_have_2 M q hq i j hi hj ri rj ci cj h1 h2 h3 h4 b1 b2 b3 b4 hm v hv
