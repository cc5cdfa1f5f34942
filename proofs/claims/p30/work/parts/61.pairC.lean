/-! ===== pair, of the class ===== -/
theorem m_addAll_loop (M0 : zMm) (w : Int32) (ps : List zPt) (Lz : zPl) : ∀ (d i : Nat) (M : zMm) (L : zPl), i + d = ps.length → zOrb 9 2 10 11 M ps → zRu 1 3 2 3 4 M L → zLok L → lgood w L (ps.drop i) → laddA L (ps.drop i) w = Lz → zKp [2, 3, 4] [(1, 3)] M0 M →
    yR 27 2 [(0, .ref 1), (1, .ref 9), (2, .int w), (3, .int (nI i))] [] M (fun r N => r = none ∧ zRu 1 3 2 3 4 N Lz ∧ zLok Lz ∧ zKp [2, 3, 4] [(1, 3)] M0 N) := by
  intro d
  induction d using Nat.strongRecOn with
  | ind d ih =>
    intro i M L h hO hR hk hg hz hE
    have hlen := hO.2.1
    refine yR.adv 3 (pc' := 7) (lv' := [(0, .ref 1), (1, .ref 9), (2, .int w), (3, .int (nI i))]) (st' := [.int (M.1 9 2), .int (nI i)]) (M' := M) rfl ?_
    rw [hO.1]
    refine yR.if2 .ge _ _ _ _ rfl (fun q1 => ?_) (fun q1 => ?_)
    · have q1' : (ps.length : Int) ≤ i := zcT q1 (nI_toInt (by omega)) (nI_toInt (by omega))
      refine yR.ret _ rfl rfl rfl ?_
      rw [List.drop_eq_nil_of_le (by omega)] at hz
      have hz' : Lz = L := hz.symm
      subst hz'
      exact ⟨rfl, hR, hk, hE⟩
    · have q1' : ¬ (ps.length : Int) ≤ i := zcF q1 (nI_toInt (by omega)) (nI_toInt (by omega))
      obtain ⟨p, hp1, hp2, hp3⟩ := hO.at (show i < ps.length by omega)
      have hdr : ps.drop i = p :: ps.drop (i + 1) := by
        have h1 := List.drop_eq_getElem_cons (show i < ps.length by omega)
        rw [h1]
        congr 1
        have h2 := List.getElem?_eq_getElem (show i < ps.length by omega)
        rw [h2] at hp1
        exact Option.some.inj hp1
      rw [hdr] at hg hz
      obtain ⟨⟨hb, hroom⟩, hg2⟩ := hg
      refine yR.adv 4 (pc' := 16) (lv' := [(0, .ref 1), (1, .ref 9), (2, .int w), (3, .int (nI i))]) (st' := [.int (nI i), .ref 10, .ref 1]) (M' := M) rfl ?_
      refine yR.iald i _ _ _ rfl rfl (by decide) (rfl) (by omega) ?_
      refine yR.adv 3 (pc' := 22) (lv' := [(0, .ref 1), (1, .ref 9), (2, .int w), (3, .int (nI i))]) (st' := [.int (nI i), .ref 11, .int (M.1 10 i), .ref 1]) (M' := M) rfl ?_
      refine yR.iald i _ _ _ rfl rfl (by decide) (rfl) (by omega) ?_
      rw [hp2, hp3]
      refine yR.adv 1 (pc' := 24) (lv' := [(0, .ref 1), (1, .ref 9), (2, .int w), (3, .int (nI i))]) (st' := [.int w, .int p.2, .int p.1, .ref 1]) (M' := M) rfl ?_
      have hl := hR.lay (by decide) (by decide) (by decide) (by decide) (by decide) (by decide) p.1 p.2 w hroom
      have hbad : ¬ zbad (M.1 2) (M.1 3) (M.1 4) L.length p.1 p.2 w := fun z => hb ((hR.bad p.1 p.2 w).mp z)
      refine yR.callK (M1 := zlayM 1 3 2 3 4 M L.length p.1 p.2 w) _ rfl rfl rfl rfl rfl (m_add_1 M L.length hR.1 hR.2.1 (hR.W hk) p.1 p.2 w hbad (by rw [hR.fnd]; exact hroom)) ?_
      show yR 27 27 [(0, .ref 1), (1, .ref 9), (2, .int w), (3, .int (nI i))] [.int (zlayR 2 3 M L.length p.1 p.2)] (zlayM 1 3 2 3 4 M L.length p.1 p.2 w) _
      generalize g1 : zlayM 1 3 2 3 4 M L.length p.1 p.2 w = M1
      rw [g1] at hl
      refine yR.adv 3 (pc' := 2) (lv' := [(3, .int (nI i + 1)), (0, .ref 1), (1, .ref 9), (2, .int w)]) (st' := []) (M' := M1) rfl ?_
      have fr : ∀ a i, a ≠ 2 → a ≠ 3 → a ≠ 4 → a ≠ 1 → M1.1 a i = M.1 a i := fun a i n1 n2 n3 n4 => (hl.2 a i (by simp [n1, n2, n3]) (by simp [n4])).1
      have K := ih (d - 1) (by omega) (i + 1) M1 (ladd L p w) (by omega) ⟨by rw [fr 9 2 (by omega) (by omega) (by omega) (by omega)]; exact hO.1, hO.2.1, fun j p' hj => by rw [fr 10 j (by omega) (by omega) (by omega) (by omega), fr 11 j (by omega) (by omega) (by omega) (by omega)]; exact hO.2.2 j p' hj⟩ hl.1 (hk.add hb) hg2 hz (hE.trans hl.2)
      exact (K).drop (by refine ⟨?_, ?_⟩ <;> simp [zget, zwf, nI_succ])
theorem m_addAll (M : zMm) (w : Int32) (ps : List zPt) (L : zPl) (hO : zOrb 9 2 10 11 M ps) (hR : zRu 1 3 2 3 4 M L) (hk : zLok L) (hg : lgood w L ps) : yR 27 0 [(0, .ref 1), (1, .ref 9), (2, .int w)] [] M (fun r N => r = none ∧ zRu 1 3 2 3 4 N (laddA L ps w) ∧ zLok (laddA L ps w) ∧ zKp [2, 3, 4] [(1, 3)] M N) := by
  refine yR.adv 2 (pc' := 2) (lv' := [(3, .int 0), (0, .ref 1), (1, .ref 9), (2, .int w)]) (st' := []) (M' := M) rfl ?_
  exact (m_addAll_loop M w ps _ ps.length 0 M L (Nat.zero_add _) hO hR hk hg rfl (zKp.refl _ _ _)).drop (by refine ⟨?_, ?_⟩ <;> simp [zget, zwf, nI_0])
-- orbits have no place twice, no two share one
theorem zorbs_nd : ∀ dom, dom < 3 → ∀ q, q < 7 → ((zreps dom q).flatMap (zorb dom q)).Nodup := by decide +kernel
theorem zorbs_gr : ∀ dom, dom < 3 → ∀ q, q < 7 → ((zreps dom q).flatMap (zorb dom q)).all (fun p => decide (-24 ≤ p.1.toInt) && (decide (p.1.toInt ≤ 24) && (decide (-24 ≤ p.2.toInt) && decide (p.2.toInt ≤ 24)))) = true := by decide +kernel
theorem zorb_gr {dom q i : Nat} (hdom : dom < 3) (hq : q < 7) (hi : i < (zreps dom q).length) : ∀ p, p ∈ zorb dom q (zpt dom q i) → zgr p.1 ∧ zgr p.2 := fun p hp => by
  have h1 := List.all_eq_true.mp (zorbs_gr dom hdom q hq) p (List.mem_flatMap.mpr ⟨_, List.mem_of_getElem? (zpt_get hi), hp⟩)
  simp only [Bool.and_eq_true, decide_eq_true_eq] at h1
  exact ⟨⟨h1.1, h1.2.1⟩, h1.2.2.1, h1.2.2.2⟩
theorem zorb_nd {dom q i : Nat} (hdom : dom < 3) (hq : q < 7) (hi : i < (zreps dom q).length) : (zorb dom q (zpt dom q i)).Nodup := by
  have h1 := zorbs_nd dom hdom q hq
  unfold List.Nodup at h1 ⊢
  exact (List.pairwise_flatMap.mp h1).1 _ (List.mem_of_getElem? (zpt_get hi))
theorem zpt_at {dom q i : Nat} (h : i < (zreps dom q).length) : (zreps dom q)[i] = zpt dom q i := by
  have h1 := zpt_get h
  rw [List.getElem?_eq_getElem h] at h1
  exact Option.some.inj h1
theorem zorb_dj {dom q i j : Nat} (hdom : dom < 3) (hq : q < 7) (hij : i < j) (hj : j < (zreps dom q).length) : ∀ p, p ∈ zorb dom q (zpt dom q i) → ∀ p', p' ∈ zorb dom q (zpt dom q j) → p ≠ p' := by
  have h1 := zorbs_nd dom hdom q hq
  unfold List.Nodup at h1
  have h2 := List.pairwise_iff_getElem.mp (List.pairwise_flatMap.mp h1).2 i j (by omega) hj hij
  rw [zpt_at (by omega), zpt_at hj] at h2
  exact h2
/-- the least common lower number -/
theorem zWW_ok {b1 b2 : Int64} (h1 : 0 < b1.toInt ∧ b1.toInt ≤ 1000000) (h2 : 0 < b2.toInt ∧ b2.toInt ≤ 1000000) : 0 < (zWW b1 b2).toInt ∧ 0 < (zWW b1 b2 / b1).toInt ∧ (zWW b1 b2 / b1).toInt ≤ 1000000 ∧ 0 < (zWW b1 b2 / b2).toInt ∧ (zWW b1 b2 / b2).toInt ≤ 1000000 := by
  obtain ⟨g, b', e', p1, p2, p3, s1, s2, s3, s4⟩ := zg_split h1.1 h2.1
  have hb' : b' ≤ b1.toInt := by
    rw [s1]
    have := Int.mul_le_mul_of_nonneg_right (show (1 : Int) ≤ g by omega) (show 0 ≤ b' by omega)
    omega
  have he' : e' ≤ b2.toInt := by
    rw [s2]
    have := Int.mul_le_mul_of_nonneg_right (show (1 : Int) ≤ g by omega) (show 0 ≤ e' by omega)
    omega
  have hW := zmul_ok (x := b1 / zg b1 b2) (y := b2) (A := 1000000) (B := 1000000) (by rw [s3]; omega) (by omega) (by decide)
  have hW1 : (zWW b1 b2).toInt = b1.toInt * e' := by
    unfold zWW
    rw [hW.1, s3, s2, s1, Int.mul_assoc, Int.mul_comm b', Int.mul_assoc, Int.mul_comm e' b']
  have hW2 : (zWW b1 b2).toInt = b2.toInt * b' := by
    unfold zWW
    rw [hW.1, s3, Int.mul_comm]
  have hpos : 0 < (zWW b1 b2).toInt := by rw [hW1]; exact Int.mul_pos h1.1 p3
  have hmin : zWW b1 b2 ≠ Int64.minValue := fun z => by rw [z] at hpos; exact absurd hpos (by decide)
  have d1 : (zWW b1 b2 / b1).toInt = e' := by rw [Int64.toInt_div_of_ne_left _ _ hmin, hW1, Int.mul_tdiv_cancel_left _ (by omega)]
  have d2 : (zWW b1 b2 / b2).toInt = b' := by rw [Int64.toInt_div_of_ne_left _ _ hmin, hW2, Int.mul_tdiv_cancel_left _ (by omega)]
  rw [d1, d2]
  omega
theorem zp_b {dom q : Nat} (hdom : dom < 3) (hq : 1 ≤ q ∧ q ≤ 6) {ri rj : Int} {ci cj : Nat} (b1 : 0 ≤ ri ∧ ri ≤ 200) (b2 : 0 ≤ rj ∧ rj ≤ 200) (b3 : 1 ≤ ci ∧ ci ≤ 8) (b4 : 1 ≤ cj ∧ cj ≤ 8) (h : zokP dom q ri ci rj cj) :
    (1 ≤ (zpW dom q ri ci rj cj).toInt ∧ (zpW dom q ri ci rj cj).toInt ≤ 10000) ∧ (1 ≤ (zp1 dom q ri ci rj cj).toInt ∧ (zp1 dom q ri ci rj cj).toInt ≤ 10000) ∧ (1 ≤ (zp2 dom q ri ci rj cj).toInt ∧ (zp2 dom q ri ci rj cj).toInt ≤ 10000) := by
  obtain ⟨hne, hA1, hA2, hW⟩ := h
  have n1 : zDD dom ri rj ci ≠ 0 := by unfold zDD; exact Int.mul_ne_zero (Int.mul_ne_zero (by have := (zSc_b dom).2; omega) (by omega)) (by omega)
  have n2 : zDD dom ri rj cj ≠ 0 := by unfold zDD; exact Int.mul_ne_zero (Int.mul_ne_zero (by have := (zSc_b dom).2; omega) (by omega)) (by omega)
  have c1 := zDD_b dom (c := ci) b1 b2 (by omega)
  have c2 := zDD_b dom (c := cj) b1 b2 (by omega)
  have c3 := (zU1_b dom (q := q) (rj := rj) (by omega) (by omega)).1
  have c4 := (zU1_b dom (q := q) (rj := ri) (by omega) (by omega)).2
  have s1 := zsg_b (u := zU1 dom q rj) (d := zDD dom ri rj ci) (by omega) (by omega) n1
  have s2 := zsg_b (u := zU2 dom q ri) (d := zDD dom ri rj cj) (by omega) (by omega) n2
  have f1 := zfd_le (u := zsg (lI (zDD dom ri rj ci)) (lI (zU1 dom q rj))) s1.2.2
  have f2 := zfd_le (u := zsg (lI (zDD dom ri rj cj)) (lI (zU2 dom q ri))) s2.2.2
  have g1 := zfu_le (u := zsg (lI (zDD dom ri rj ci)) (lI (zU1 dom q rj))) s1.2.2
  have g2 := zfu_le (u := zsg (lI (zDD dom ri rj cj)) (lI (zU2 dom q ri))) s2.2.2
  have x1 : (zsg (lI (zDD dom ri rj ci)) (lI (zDD dom ri rj ci))).toInt ≤ 1000000 := by rw [s1.2.1]; split <;> omega
  have x2 : (zsg (lI (zDD dom ri rj cj)) (lI (zDD dom ri rj cj))).toInt ≤ 1000000 := by rw [s2.2.1]; split <;> omega
  have y1 : (zsg (lI (zDD dom ri rj ci)) (lI (zU1 dom q rj))).toInt.natAbs ≤ 10000 := by rw [s1.1]; split <;> omega
  have y2 : (zsg (lI (zDD dom ri rj cj)) (lI (zU2 dom q ri))).toInt.natAbs ≤ 10000 := by rw [s2.1]; split <;> omega
  have B1 : 0 < (zfB (zU1 dom q rj) (zDD dom ri rj ci)).toInt ∧ (zfB (zU1 dom q rj) (zDD dom ri rj ci)).toInt ≤ 1000000 := by unfold zfB; omega
  have B2 : 0 < (zfB (zU2 dom q ri) (zDD dom ri rj cj)).toInt ∧ (zfB (zU2 dom q ri) (zDD dom ri rj cj)).toInt ≤ 1000000 := by unfold zfB; omega
  have K := zWW_ok B1 B2
  obtain ⟨k1, k2, k3, k4, k5⟩ := K
  have A1 : (zfA (zU1 dom q rj) (zDD dom ri rj ci)).toInt.natAbs ≤ 10000 := by unfold zfA; omega
  have A2 : (zfA (zU2 dom q ri) (zDD dom ri rj cj)).toInt.natAbs ≤ 10000 := by unfold zfA; omega
  have m1 := zmul_ok (x := zfA (zU1 dom q rj) (zDD dom ri rj ci)) (y := zWW (zfB (zU1 dom q rj) (zDD dom ri rj ci)) (zfB (zU2 dom q ri) (zDD dom ri rj cj)) / zfB (zU1 dom q rj) (zDD dom ri rj ci)) (A := 10000) (B := 1000000) A1 (by omega) (by decide)
  have m2 := zmul_ok (x := zfA (zU2 dom q ri) (zDD dom ri rj cj)) (y := zWW (zfB (zU1 dom q rj) (zDD dom ri rj ci)) (zfB (zU2 dom q ri) (zDD dom ri rj cj)) / zfB (zU2 dom q ri) (zDD dom ri rj cj)) (A := 10000) (B := 1000000) A2 (by omega) (by decide)
  have r1 := Int.mul_pos hA1 k2
  have r2 := Int.mul_pos hA2 k4
  rw [← m1.1] at r1
  rw [← m2.1] at r2
  exact ⟨⟨k1, hW.1⟩, ⟨r1, hW.2.1⟩, r2, hW.2.2⟩
theorem zl2i {x : Int64} (h : 1 ≤ x.toInt ∧ x.toInt ≤ 10000) : x.toInt32.toInt = x.toInt := by
  have e := lI_i (z := x.toInt) (by omega) (by omega)
  rw [lI_of] at e
  rw [e, iI_toInt (by omega)]
/-- the pair's places -/
noncomputable def zpair (dom q i j : Nat) : zPl := (zorb dom q (zpt dom q i)).map (fun p => (p, (zp1 dom q (zfr dom q i) (zcnt dom q i) (zfr dom q j) (zcnt dom q j)).toInt32)) ++ (zorb dom q (zpt dom q j)).map (fun p => (p, (zp2 dom q (zfr dom q i) (zcnt dom q i) (zfr dom q j) (zcnt dom q j)).toInt32))
def zAp : List Nat := [2, 3, 4] ++ zA1
theorem m_becomePair (M : zMm) (dom : Nat) (hdom : dom < 3) (q : Nat) (hq : 1 ≤ q ∧ q ≤ 6) (i j : Nat) (hij : i < j) (hj : j < (zreps dom q).length) (hG : zGrD dom q M) (hd : M.1 1 0 = nI dom) (hok : zokP dom q (zfr dom q i) (zcnt dom q i) (zfr dom q j) (zcnt dom q j)) :
    yR 84 0 [(0, .ref 0), (1, .int (nI i)), (2, .int (nI j))] [] M (fun r N => r = none ∧ N.1 1 0 = nI dom ∧ N.1 1 1 = iI q ∧ N.1 1 2 = (zpW dom q (zfr dom q i) (zcnt dom q i) (zfr dom q j) (zcnt dom q j)).toInt32 ∧ zRu 1 3 2 3 4 N (zpair dom q i j) ∧ zLok (zpair dom q i j) ∧ zKp (1 :: zAp) [] M N) := by
  have hl := zreps_len dom hdom q (by omega)
  have hi : i < (zreps dom q).length := by omega
  have gi := zpt_get hi
  have gj := zpt_get hj
  obtain ⟨i1, i2, i3, i4, i5⟩ := hG.1.2.2.2 i _ gi
  obtain ⟨j1, j2, j3, j4, j5⟩ := hG.1.2.2.2 j _ gj
  have ci : 1 ≤ zcnt dom q i ∧ zcnt dom q i ≤ 8 := zorb_len dom q (zpt dom q i)
  have cj : 1 ≤ zcnt dom q j ∧ zcnt dom q j ≤ 8 := zorb_len dom q (zpt dom q j)
  have ci' := zorb_len dom q (zpt dom q i)
  have cj' := zorb_len dom q (zpt dom q j)
  have fi := zfr_b hdom (by omega) hi
  have fj := zfr_b hdom (by omega) hj
  obtain ⟨bW, bw1, bw2⟩ := zp_b hdom hq fi fj ci cj hok
  refine yR.adv 4 (pc' := 6) (lv' := [(0, .ref 0), (1, .int (nI i)), (2, .int (nI j))]) (st' := [.int (nI j), .int (nI i), .ref 12]) (M' := M) rfl ?_
  refine yR.call _ rfl rfl rfl rfl rfl (m_weigh M dom hdom q hq i j (by omega) (by omega) (zfr dom q i) (zfr dom q j) (zcnt dom q i) (zcnt dom q j) hG.1.1 hG.2 i4 j4 i3 j3 fi fj ci cj 1 (Or.inl ⟨hok, rfl⟩)) (fun r1 M1 hq => ?_)
  obtain ⟨rfl, w1, e1⟩ := hq
  show yR 84 9 [(0, .ref 0), (1, .int (nI i)), (2, .int (nI j))] [.int 1] M1 _
  obtain ⟨x1, x2, x3⟩ := w1 rfl
  have E1 : zKp [50, 51] [(12, 14), (12, 15), (12, 16), (12, 17), (12, 18)] M M1 := e1.mono (by simp) (by simp <;> omega)
  have G1 := hG.keep hl E1
  have A12 : ∀ a, 9 ≤ a → a < 54 → a ∈ (1 :: zAp) := fun a h1 h2 => by unfold zAp; simp [zA1_mem]; omega
  have A2 : ∀ a, 1 ≤ a → a < 5 → a ∈ (1 :: zAp) := fun a h1 h2 => by unfold zAp; simp; omega
  have F1 : zKp (1 :: zAp) [] M M1 := e1.mono (fun a ha => by simp at ha; exact A12 a (by omega) (by omega)) (fun a i ha => by simp at ha; exact Or.inl (A12 a (by omega) (by omega)))
  have d1 : M1.1 1 0 = nI dom := by rw [(e1 1 0 (by decide) (by decide)).1]; exact hd
  refine yR.if1 .ne _ _ _ _ rfl (fun q1 => ?_) (fun q1 => ?_)
  · refine yR.adv 12 (pc' := 39) (lv' := [(0, .ref 0), (1, .int (nI i)), (2, .int (nI j))]) (st' := [.int ((M1.2 12 16).toInt32), .int (M1.1 12 1), .int (M1.1 1 0), .ref 1]) (M' := M1) rfl ?_
    rw [d1]
    rw [G1.1.2.1]
    rw [x1]
    refine yR.callK (M1 := zup (zup (zup (zup M1 1 0 (nI dom)) 1 1 (iI q)) 1 2 ((zpW dom q (zfr dom q i) (zcnt dom q i) (zfr dom q j) (zcnt dom q j)).toInt32)) 1 3 0) _ rfl rfl rfl rfl rfl (m_startAnew_1 M1 (nI dom) (iI q) ((zpW dom q (zfr dom q i) (zcnt dom q i) (zfr dom q j) (zcnt dom q j)).toInt32)) ?_
    show yR 84 42 [(0, .ref 0), (1, .int (nI i)), (2, .int (nI j))] [] (zup (zup (zup (zup M1 1 0 (nI dom)) 1 1 (iI q)) 1 2 ((zpW dom q (zfr dom q i) (zcnt dom q i) (zfr dom q j) (zcnt dom q j)).toInt32)) 1 3 0) _
    generalize g2 : zup (zup (zup (zup M1 1 0 (nI dom)) 1 1 (iI q)) 1 2 ((zpW dom q (zfr dom q i) (zcnt dom q i) (zfr dom q j) (zcnt dom q j)).toInt32)) 1 3 0 = M2
    have E2 : zKp [1] [] M1 M2 := by rw [← g2]; exact ((((zKp.refl _ _ M1).up (by simp)).up (by simp)).up (by simp)).up (by simp)
    have a0 : M2.1 1 0 = nI dom := by rw [← g2]; simp [zup_i]
    have a1 : M2.1 1 1 = iI q := by rw [← g2]; simp [zup_i]
    have a2 : M2.1 1 2 = (zpW dom q (zfr dom q i) (zcnt dom q i) (zfr dom q j) (zcnt dom q j)).toInt32 := by rw [← g2]; simp [zup_i]
    have a3 : M2.1 1 3 = nI 0 := by rw [← g2]; simp [zup_i]; rfl
    have k1 : M2.1 13 i = iI (zpt dom q i).1 := by rw [(E2 13 i (by decide) (by simp)).1, (e1 13 i (by decide) (by simp)).1]; exact i1
    have k2 : M2.1 14 i = iI (zpt dom q i).2 := by rw [(E2 14 i (by decide) (by simp)).1, (e1 14 i (by decide) (by simp)).1]; exact i2
    refine yR.adv 12 (pc' := 68) (lv' := [(0, .ref 0), (1, .int (nI i)), (2, .int (nI j))]) (st' := [.int (nI i), .ref 13, .int (M2.1 1 1), .int (M2.1 1 0), .ref 9]) (M' := M2) rfl ?_
    rw [a0]
    rw [a1]
    refine yR.iald i _ _ _ rfl rfl (by decide) (rfl) (by omega) ?_
    rw [k1]
    refine yR.adv 4 (pc' := 77) (lv' := [(0, .ref 0), (1, .int (nI i)), (2, .int (nI j))]) (st' := [.int (nI i), .ref 14, .int (iI (zpt dom q i).1), .int (iI q), .int (nI dom), .ref 9]) (M' := M2) rfl ?_
    refine yR.iald i _ _ _ rfl rfl (by decide) (rfl) (by omega) ?_
    rw [k2]
    show yR 84 78 [(0, .ref 0), (1, .int (nI i)), (2, .int (nI j))] [.int (iI (zpt dom q i).2), .int (iI (zpt dom q i).1), .int (iI q), .int (nI dom), .ref 9] M2 _
    refine yR.call _ rfl rfl rfl rfl rfl (m_gatherE M2 (nI dom) (iI q) (iI (zpt dom q i).1) (iI (zpt dom q i).2)) (fun r1 M3 hq => ?_)
    obtain ⟨rfl, o3, e3⟩ := hq
    show yR 84 81 [(0, .ref 0), (1, .int (nI i)), (2, .int (nI j))] [] M3 _
    have R3 : zRu 1 3 2 3 4 M3 [] := ⟨by rw [(e3 1 3 (by decide) (by simp)).1]; exact a3, by simp, fun p e h => by simp at h⟩
    have w3 : M3.2 12 14 = zp1 dom q (zfr dom q i) (zcnt dom q i) (zfr dom q j) (zcnt dom q j) := by rw [(e3 12 14 (by decide) (by simp)).2, (E2 12 14 (by decide) (by simp)).2]; exact x2
    have zw1 : zwr ((zp1 dom q (zfr dom q i) (zcnt dom q i) (zfr dom q j) (zcnt dom q j)).toInt32).toInt := by rw [zl2i bw1]; exact ⟨by omega, bw1.2⟩
    have zw2 : zwr ((zp2 dom q (zfr dom q i) (zcnt dom q i) (zfr dom q j) (zcnt dom q j)).toInt32).toInt := by rw [zl2i bw2]; exact ⟨by omega, bw2.2⟩
    obtain ⟨L1, G3⟩ := lnew _ zw1 (zorb dom q (zpt dom q i)) [] (zorb_nd hdom (by omega) hi) (fun p hp => ⟨(zorb_gr hdom (by omega) hi p hp).1, (zorb_gr hdom (by omega) hi p hp).2, fun e he => by simp at he⟩) (by simp; omega)
    refine yR.adv 8 (pc' := 97) (lv' := [(0, .ref 0), (1, .int (nI i)), (2, .int (nI j))]) (st' := [.int ((M3.2 12 14).toInt32), .ref 9, .ref 1]) (M' := M3) rfl ?_
    rw [w3]
    refine yR.call _ rfl rfl rfl rfl rfl (m_addAll M3 _ (zorb dom q (zpt dom q i)) [] o3 R3 (fun e he => by simp at he) G3) (fun r1 M4 hq => ?_)
    obtain ⟨rfl, R4, K4, e4⟩ := hq
    show yR 84 100 [(0, .ref 0), (1, .int (nI i)), (2, .int (nI j))] [] M4 _
    rw [L1, List.nil_append] at R4 K4
    have c0 : M4.1 1 0 = nI dom := by rw [(e4 1 0 (by decide) (by simp)).1, (e3 1 0 (by decide) (by simp)).1]; exact a0
    have c1 : M4.1 1 1 = iI q := by rw [(e4 1 1 (by decide) (by simp)).1, (e3 1 1 (by decide) (by simp)).1]; exact a1
    have l1 : M4.1 13 j = iI (zpt dom q j).1 := by rw [(e4 13 j (by decide) (by simp)).1, (e3 13 j (by decide) (by simp)).1, (E2 13 j (by decide) (by simp)).1, (e1 13 j (by decide) (by simp)).1]; exact j1
    have l2 : M4.1 14 j = iI (zpt dom q j).2 := by rw [(e4 14 j (by decide) (by simp)).1, (e3 14 j (by decide) (by simp)).1, (E2 14 j (by decide) (by simp)).1, (e1 14 j (by decide) (by simp)).1]; exact j2
    refine yR.adv 12 (pc' := 126) (lv' := [(0, .ref 0), (1, .int (nI i)), (2, .int (nI j))]) (st' := [.int (nI j), .ref 13, .int (M4.1 1 1), .int (M4.1 1 0), .ref 9]) (M' := M4) rfl ?_
    rw [c0]
    rw [c1]
    refine yR.iald j _ _ _ rfl rfl (by decide) (rfl) (by omega) ?_
    rw [l1]
    refine yR.adv 4 (pc' := 135) (lv' := [(0, .ref 0), (1, .int (nI i)), (2, .int (nI j))]) (st' := [.int (nI j), .ref 14, .int (iI (zpt dom q j).1), .int (iI q), .int (nI dom), .ref 9]) (M' := M4) rfl ?_
    refine yR.iald j _ _ _ rfl rfl (by decide) (rfl) (by omega) ?_
    rw [l2]
    show yR 84 136 [(0, .ref 0), (1, .int (nI i)), (2, .int (nI j))] [.int (iI (zpt dom q j).2), .int (iI (zpt dom q j).1), .int (iI q), .int (nI dom), .ref 9] M4 _
    refine yR.call _ rfl rfl rfl rfl rfl (m_gatherE M4 (nI dom) (iI q) (iI (zpt dom q j).1) (iI (zpt dom q j).2)) (fun r1 M5 hq => ?_)
    obtain ⟨rfl, o5, e5⟩ := hq
    show yR 84 139 [(0, .ref 0), (1, .int (nI i)), (2, .int (nI j))] [] M5 _
    have R5 := R4.keep (N := M5) (e5 1 3 (by decide) (by simp)).1 (fun i => (e5 2 i (by decide) (by simp)).1) (fun i => (e5 3 i (by decide) (by simp)).1) (fun i => (e5 4 i (by decide) (by simp)).1)
    have w5 : M5.2 12 15 = zp2 dom q (zfr dom q i) (zcnt dom q i) (zfr dom q j) (zcnt dom q j) := by rw [(e5 12 15 (by decide) (by simp)).2, (e4 12 15 (by decide) (by simp)).2, (e3 12 15 (by decide) (by simp)).2, (E2 12 15 (by decide) (by simp)).2]; exact x3
    obtain ⟨L2, G5⟩ := lnew _ zw2 (zorb dom q (zpt dom q j)) ((zorb dom q (zpt dom q i)).map (fun p => (p, (zp1 dom q (zfr dom q i) (zcnt dom q i) (zfr dom q j) (zcnt dom q j)).toInt32))) (zorb_nd hdom (by omega) hj) (fun p hp => ⟨(zorb_gr hdom (by omega) hj p hp).1, (zorb_gr hdom (by omega) hj p hp).2, fun e he => by
      obtain ⟨p', hp', rfl⟩ := List.mem_map.mp he
      exact zorb_dj hdom (by omega) hij hj p' hp' p hp⟩) (by rw [List.length_map]; omega)
    refine yR.adv 8 (pc' := 155) (lv' := [(0, .ref 0), (1, .int (nI i)), (2, .int (nI j))]) (st' := [.int ((M5.2 12 15).toInt32), .ref 9, .ref 1]) (M' := M5) rfl ?_
    rw [w5]
    refine yR.call _ rfl rfl rfl rfl rfl (m_addAll M5 _ (zorb dom q (zpt dom q j)) _ o5 R5 K4 G5) (fun r1 M6 hq => ?_)
    obtain ⟨rfl, R6, K6, e6⟩ := hq
    show yR 84 158 [(0, .ref 0), (1, .int (nI i)), (2, .int (nI j))] [] M6 _
    rw [L2] at R6 K6
    refine yR.ret _ rfl rfl rfl ?_
    refine ⟨rfl, ?_, ?_, ?_, R6, K6, ?_⟩
    · rw [(e6 1 0 (by decide) (by simp)).1, (e5 1 0 (by decide) (by simp)).1]; exact c0
    · rw [(e6 1 1 (by decide) (by simp)).1, (e5 1 1 (by decide) (by simp)).1]; exact c1
    · rw [(e6 1 2 (by decide) (by simp)).1, (e5 1 2 (by decide) (by simp)).1, (e4 1 2 (by decide) (by simp)).1, (e3 1 2 (by decide) (by simp)).1]; exact a2
    · refine ((((F1.trans (E2.mono (by simp) (by simp))).trans (e3.mono ?_ ?_)).trans (e4.mono ?_ ?_)).trans (e5.mono ?_ ?_)).trans (e6.mono ?_ ?_)
      · exact fun a ha => by simp at ha; exact A12 a (by omega) (by omega)
      · exact fun a i ha => by simp at ha; exact Or.inl (A12 a (by omega) (by omega))
      · exact fun a ha => by simp at ha; exact A2 a (by omega) (by omega)
      · exact fun a i ha => by simp at ha; exact Or.inl (A2 a (by omega) (by omega))
      · exact fun a ha => by simp at ha; exact A12 a (by omega) (by omega)
      · exact fun a i ha => by simp at ha; exact Or.inl (A12 a (by omega) (by omega))
      · exact fun a ha => by simp at ha; exact A2 a (by omega) (by omega)
      · exact fun a i ha => by simp at ha; exact Or.inl (A2 a (by omega) (by omega))
  · exact absurd q1 (by decide)
