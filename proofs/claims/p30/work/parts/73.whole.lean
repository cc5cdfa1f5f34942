/-! ===== whole, of both ===== -/
def zmv (dom t : Nat) : Int := (zfu (zmu dom (zpxN t) (zpyN t)) (zmd dom (zpxN t) (zpyN t))).toInt * (720 / (zfd (zmu dom (zpxN t) (zpyN t)) (zmd dom (zpxN t) (zpyN t))).toInt)
theorem zmv_ok : ∀ dom, dom < 3 → ∀ t, t < 15 → (zfu (zmu dom (zpxN t) (zpyN t)) (zmd dom (zpxN t) (zpyN t))).toInt * 720 = zmv dom t * (zfd (zmu dom (zpxN t) (zpyN t)) (zmd dom (zpxN t) (zpyN t))).toInt ∧ (zmv dom t).natAbs ≤ 2880 ∧ 0 < (zfd (zmu dom (zpxN t) (zpyN t)) (zmd dom (zpxN t) (zpyN t))).toInt ∧ (zfd (zmu dom (zpxN t) (zpyN t)) (zmd dom (zpxN t) (zpyN t))).toInt ≤ 720 ∧ (zfu (zmu dom (zpxN t) (zpyN t)) (zmd dom (zpxN t) (zpyN t))).toInt.natAbs ≤ 2880 := by decide +kernel
theorem z720 : 0 < (lI 720).toInt := by decide
theorem zN_t {N : Int} (h : N.natAbs ≤ 100000000) : (lI N).toInt = N := lI_toInt (by omega)
/-- the class's step -/
theorem zN_m {N c m e mt : Int} {A B : Int64} (hN : N.natAbs ≤ 72000000) (hc : c.natAbs ≤ 1000) (hmt : mt.natAbs ≤ 2880) (hA : A = zfu (lI N) (lI 720)) (hB : B = zfd (lI N) (lI 720)) (he : 0 < e ∧ e ≤ 720) (hm : m.natAbs ≤ 2880) (hx : m * 720 = mt * e) :
    (A * lI e + lI c * lI m * B).toInt ≠ -2 ^ 63 ∧ 0 < (B * lI e).toInt ∧ zfu (A * lI e + lI c * lI m * B) (B * lI e) = zfu (lI (N + c * mt)) (lI 720) ∧ zfd (A * lI e + lI c * lI m * B) (B * lI e) = zfd (lI (N + c * mt)) (lI 720) := by
  have hcm := zmulb hc hmt
  have t1 := zN_t (N := N) (by omega)
  have t2 := zN_t (N := N + c * mt) (by omega)
  have te : (lI e).toInt = e := lI_toInt (by omega)
  have tc : (lI c).toInt = c := lI_toInt (by omega)
  have tm : (lI m).toInt = m := lI_toInt (by omega)
  have t7 : (lI 720).toInt = 720 := rfl
  have l1 := zfu_le (u := lI N) z720
  have l2 := zfd_le (u := lI N) z720
  have cr := zf_cross (u := lI N) z720
  rw [t1, t7, ← hA, ← hB] at cr
  rw [t1, ← hA] at l1
  rw [t7, ← hB] at l2
  have m1 := zmul_ok (x := A) (y := lI e) (A := 72000000) (B := 720) (by omega) (by omega) (by decide)
  have m2 := zmul_ok (x := lI c) (y := lI m) (A := 1000) (B := 2880) (by omega) (by omega) (by decide)
  have m3 := zmul_ok (x := lI c * lI m) (y := B) (A := 1000 * 2880) (B := 720) (by rw [m2.1]; exact m2.2) (by omega) (by decide)
  have s1 := zadd_ok (x := A * lI e) (y := lI c * lI m * B) (A := 72000000 * 720) (B := 1000 * 2880 * 720) (by rw [m1.1]; exact m1.2) (by rw [m3.1]; exact m3.2) (by decide)
  have m4 := zmul_ok (x := B) (y := lI e) (A := 720) (B := 720) (by omega) (by omega) (by decide)
  rw [m1.1, m3.1, m2.1, te, tc, tm] at s1
  rw [te] at m4
  have hp : 0 < B.toInt * e := Int.mul_pos l2.1 he.1
  refine ⟨by rw [s1.1]; omega, by rw [m4.1]; exact hp, ?_⟩
  refine zf_same (by rw [m4.1]; exact hp) z720 ?_
  rw [s1.1, m4.1, t2, t7, Int.add_mul, Int.add_mul]
  congr 1
  · rw [Int.mul_right_comm, cr, Int.mul_assoc]
  · have : c * m * B.toInt * 720 = c * (m * 720) * B.toInt := by ac_rfl
    rw [this, hx]
    ac_rfl
def zclsN (f : Nat → Int) : Nat → Nat → Int → Int
  | 0, _, N => N
  | d + 1, t, N => zclsN f d (t + 1) (N + f t)
theorem m_whole_loop {Q : Option Value → zMm → Prop} (M0 : zMm) (dom : Nat) (hdom : dom < 3) (cf : Nat → Int) (hcf : ∀ t, t < 15 → (cf t).natAbs ≤ 1000) (w : Int32) (Nz : Int) (K : ∀ M', M'.2 52 0 = zfu (lI Nz) (lI 720) → M'.2 52 1 = zfd (lI Nz) (lI 720) → zKp [52, 53] [] M0 M' → yR 55 78 [(0, .ref 0), (1, .int w)] [] M' Q) : ∀ (d t : Nat) (M : zMm) (N : Int), t + d = 15 → N.natAbs ≤ t * 2880000 → M.1 1 0 = nI dom → (∀ t, t < 15 → M.1 56 t = iI (cf t)) → M.2 52 0 = zfu (lI N) (lI 720) → M.2 52 1 = zfd (lI N) (lI 720) → zclsN (fun t => cf t * zmv dom t) d t N = Nz → zKp [52, 53] [] M0 M →
    yR 55 24 [(0, .ref 0), (1, .int w), (2, .int (nI t))] [] M Q := by
  intro d
  induction d using Nat.strongRecOn with
  | ind d ih =>
    intro t M N h hN h0 hc hA hB hz hE
    refine yR.adv 2 (pc' := 27) (lv' := [(0, .ref 0), (1, .int w), (2, .int (nI t))]) (st' := [.int 15, .int (nI t)]) (M' := M) rfl ?_
    refine yR.if2 .ge _ _ _ _ rfl (fun q1 => ?_) (fun q1 => ?_)
    · have q1' : (15 : Int) ≤ t := zcT q1 (nI_toInt (by omega)) rfl
      have hd : d = 0 := by omega
      subst hd
      have hz' : Nz = N := hz.symm
      subst hz'
      exact (K M hA hB hE).drop (by refine ⟨?_, ?_⟩ <;> simp [zget, zwf])
    · have q1' : ¬ (15 : Int) ≤ t := zcF q1 (nI_toInt (by omega)) rfl
      obtain ⟨d', rfl⟩ : ∃ d', d = d' + 1 := ⟨d - 1, by omega⟩
      obtain ⟨hpx, hpy, h7⟩ := zpxN_ok t (by omega)
      obtain ⟨x1, x2, x3, x4, x5⟩ := zmv_ok dom hdom t (by omega)
      have hcb := hcf t (by omega)
      refine yR.adv 7 (pc' := 45) (lv' := [(0, .ref 0), (1, .int w), (2, .int (nI t))]) (st' := [.int (nI t), .retAddr 0, .int (M.1 1 0), .ref 53]) (M' := M) rfl ?_
      rw [h0]
      refine yR.fald t _ _ _ rfl rfl (by decide) (rfl) (show t < 28 from by omega) ?_
      rw [hpx]
      refine yR.adv 2 (pc' := 50) (lv' := [(0, .ref 0), (1, .int w), (2, .int (nI t))]) (st' := [.int (nI t), .retAddr 1, .int (nI (zpxN t)), .int (nI dom), .ref 53]) (M' := M) rfl ?_
      refine yR.fald t _ _ _ rfl rfl (by decide) (rfl) (show t < 28 from by omega) ?_
      rw [hpy]
      refine yR.callK (M1 := zupL (zupL M 53 0 (zfu (zmu dom (zpxN t) (zpyN t)) (zmd dom (zpxN t) (zpyN t)))) 53 1 (zfd (zmu dom (zpxN t) (zpyN t)) (zmd dom (zpxN t) (zpyN t)))) _ rfl rfl rfl rfl rfl (m_moment_53 M dom (zpxN t) (zpyN t) hdom (by omega) (by omega) h7) ?_
      show yR 55 54 [(0, .ref 0), (1, .int w), (2, .int (nI t))] [] (zupL (zupL M 53 0 (zfu (zmu dom (zpxN t) (zpyN t)) (zmd dom (zpxN t) (zpyN t)))) 53 1 (zfd (zmu dom (zpxN t) (zpyN t)) (zmd dom (zpxN t) (zpyN t)))) _
      generalize g1 : zupL (zupL M 53 0 (zfu (zmu dom (zpxN t) (zpyN t)) (zmd dom (zpxN t) (zpyN t)))) 53 1 (zfd (zmu dom (zpxN t) (zpyN t)) (zmd dom (zpxN t) (zpyN t))) = M1
      have E1 : zKp [52, 53] [] M M1 := by rw [← g1]; exact ((zKp.refl _ _ M).upL (by simp)).upL (by simp)
      have a1 : M1.2 52 0 = zfu (lI N) (lI 720) := by rw [← g1]; simp [zupL_l, hA]
      have a2 : M1.2 52 1 = zfd (lI N) (lI 720) := by rw [← g1]; simp [zupL_l, hB]
      have a3 : M1.2 53 0 = lI (zfu (zmu dom (zpxN t) (zpyN t)) (zmd dom (zpxN t) (zpyN t))).toInt := by rw [← g1, lI_of]; simp [zupL_l]
      have a4 : M1.2 53 1 = lI (zfd (zmu dom (zpxN t) (zpyN t)) (zmd dom (zpxN t) (zpyN t))).toInt := by rw [← g1, lI_of]; simp [zupL_l]
      have a5 : M1.1 56 t = iI (cf t) := by rw [← g1]; exact hc t (by omega)
      have hst := zN_m (N := N) (c := cf t) (m := (zfu (zmu dom (zpxN t) (zpyN t)) (zmd dom (zpxN t) (zpyN t))).toInt) (e := (zfd (zmu dom (zpxN t) (zpyN t)) (zmd dom (zpxN t) (zpyN t))).toInt) (by omega) hcb x2 a1 a2 ⟨x3, x4⟩ x5 x1
      rw [← a3, ← a4] at hst
      obtain ⟨y1, y2, y3, y4⟩ := hst
      refine yR.adv 5 (pc' := 63) (lv' := [(0, .ref 0), (1, .int w), (2, .int (nI t))]) (st' := [.int (nI t), .ref 56, .ref 52]) (M' := M1) rfl ?_
      refine yR.iald t _ _ _ rfl rfl (by decide) (rfl) (by omega) ?_
      rw [a5]
      refine yR.adv 3 (pc' := 69) (lv' := [(0, .ref 0), (1, .int w), (2, .int (nI t))]) (st' := [.ref 53, .long ((iI (cf t)).toInt64), .ref 52]) (M' := M1) rfl ?_
      rw [iI_l (by omega)]
      refine yR.callK (M1 := zansM M1 (M1.2 52 0 * M1.2 53 1 + lI (cf t) * M1.2 53 0 * M1.2 52 1) (M1.2 52 1 * M1.2 53 1)) _ rfl rfl rfl rfl rfl (m_addTimes M1 (lI (cf t)) y1 y2) ?_
      show yR 55 72 [(0, .ref 0), (1, .int w), (2, .int (nI t))] [] (zansM M1 (M1.2 52 0 * M1.2 53 1 + lI (cf t) * M1.2 53 0 * M1.2 52 1) (M1.2 52 1 * M1.2 53 1)) _
      generalize g2 : zansM M1 (M1.2 52 0 * M1.2 53 1 + lI (cf t) * M1.2 53 0 * M1.2 52 1) (M1.2 52 1 * M1.2 53 1) = M2
      have E2 : zKp [52, 53] [] M1 M2 := by rw [← g2]; exact ((zKp.refl _ _ M1).upL (by simp)).upL (by simp)
      have b1 : M2.2 52 0 = zfu (lI (N + cf t * zmv dom t)) (lI 720) := by rw [← y3, ← g2]; simp [zupL_l]
      have b2 : M2.2 52 1 = zfd (lI (N + cf t * zmv dom t)) (lI 720) := by rw [← y4, ← g2]; simp [zupL_l]
      have hcm := zmulb hcb x2
      refine yR.adv 2 (pc' := 24) (lv' := [(2, .int (nI t + 1)), (0, .ref 0), (1, .int w)]) (st' := []) (M' := M2) rfl ?_
      exact (ih d' (by omega) (t + 1) M2 (N + cf t * zmv dom t) (by omega) (by omega) (by rw [(E2 1 0 (by decide) (by simp)).1, (E1 1 0 (by decide) (by simp)).1]; exact h0) (fun t ht => by rw [(E2 56 t (by decide) (by simp)).1, (E1 56 t (by decide) (by simp)).1]; exact hc t ht) b1 b2 hz ((hE.trans E1).trans E2)).drop (by refine ⟨?_, ?_⟩ <;> simp [zget, zwf, nI_succ])
theorem m_whole_no (M : zMm) (w : Int32) (h : ¬ (w = 0 ∨ w = 1)) : yOk 55 0 [(0, .ref 0), (1, .int w)] [] M (some (.long zlost)) M := by
  refine yR.ok ?_
  refine yR.adv 3 (pc' := 3) (lv' := [(0, .ref 0), (1, .int w)]) (st' := [.int 1, .int 0, .int w]) (M' := M) rfl ?_
  refine yR.callK (M1 := M) _ rfl rfl rfl rfl rfl (m_fromV M w 0 1 0 1 rfl rfl 0 (Or.inr ⟨fun z => h ((zwh w).mp z), rfl⟩)) ?_
  show yR 55 6 [(0, .ref 0), (1, .int w)] [.int 0] M _
  refine yR.if1 .ne _ _ _ _ rfl (fun q1 => ?_) (fun q1 => ?_)
  · exact absurd q1 (by decide)
  · refine yR.adv 1 (pc' := 12) (lv' := [(0, .ref 0), (1, .int w)]) (st' := [.long (-9223372036854775808)]) (M' := M) rfl ?_
    refine yR.ret _ rfl rfl rfl ?_
    exact ⟨rfl, rfl⟩
def zwhV (Nz : Int) (w : Int32) : Int64 := if w = 0 then zfu (lI Nz) (lI 720) else zfd (lI Nz) (lI 720)
theorem m_whole (M : zMm) (dom : Nat) (hdom : dom < 3) (h0 : M.1 1 0 = nI dom) (cf : Nat → Int) (hcf : ∀ t, t < 15 → (cf t).natAbs ≤ 1000) (hc : ∀ t, t < 15 → M.1 56 t = iI (cf t)) (w : Int32) (hw : w = 0 ∨ w = 1) : yR 55 0 [(0, .ref 0), (1, .int w)] [] M (fun r N => r = some (.long (zwhV (zclsN (fun t => cf t * zmv dom t) 15 0 0) w)) ∧ zKp [52, 53] [] M N) := by
  refine yR.adv 3 (pc' := 3) (lv' := [(0, .ref 0), (1, .int w)]) (st' := [.int 1, .int 0, .int w]) (M' := M) rfl ?_
  refine yR.callK (M1 := M) _ rfl rfl rfl rfl rfl (m_fromV M w 0 1 0 1 rfl rfl 1 (Or.inl ⟨(zwh w).mpr hw, rfl⟩)) ?_
  show yR 55 6 [(0, .ref 0), (1, .int w)] [.int 1] M _
  refine yR.if1 .ne _ _ _ _ rfl (fun q1 => ?_) (fun q1 => ?_)
  · refine yR.adv 4 (pc' := 19) (lv' := [(0, .ref 0), (1, .int w)]) (st' := [.long 1, .long 0, .ref 52]) (M' := M) rfl ?_
    refine yR.callK (M1 := zupL (zupL M 52 0 (zfu 0 1)) 52 1 (zfd 0 1)) _ rfl rfl rfl rfl rfl (m_become_52 M 0 1 (by decide) (by decide)) ?_
    show yR 55 22 [(0, .ref 0), (1, .int w)] [] (zupL (zupL M 52 0 (zfu 0 1)) 52 1 (zfd 0 1)) _
    generalize g1 : zupL (zupL M 52 0 (zfu 0 1)) 52 1 (zfd 0 1) = M1
    have E1 : zKp [52, 53] [] M M1 := by rw [← g1]; exact ((zKp.refl _ _ M).upL (by simp)).upL (by simp)
    have f0 : zfu 0 1 = zfu (lI 0) (lI 720) := by decide +kernel
    have f1 : zfd 0 1 = zfd (lI 0) (lI 720) := by decide +kernel
    have a1 : M1.2 52 0 = zfu (lI 0) (lI 720) := by rw [← f0, ← g1]; simp [zupL_l]
    have a2 : M1.2 52 1 = zfd (lI 0) (lI 720) := by rw [← f1, ← g1]; simp [zupL_l]
    refine yR.adv 2 (pc' := 24) (lv' := [(2, .int 0), (0, .ref 0), (1, .int w)]) (st' := []) (M' := M1) rfl ?_
    refine yR.drop (lv := [(0, .ref 0), (1, .int w), (2, .int (nI 0))]) (by refine ⟨?_, ?_⟩ <;> simp [zget, zwf] <;> rfl) ?_
    refine m_whole_loop M dom hdom cf hcf w _ (fun M2 b1 b2 e2 => ?_) 15 0 M1 0 rfl (by simp) (by rw [(E1 1 0 (by decide) (by simp)).1]; exact h0) (fun t ht => by rw [(E1 56 t (by decide) (by simp)).1]; exact hc t ht) a1 a2 rfl E1
    refine yR.adv 3 (pc' := 83) (lv' := [(0, .ref 0), (1, .int w)]) (st' := [.int w, .ref 52]) (M' := M2) rfl ?_
    refine yR.callK (M1 := M2) _ rfl rfl rfl rfl rfl (m_showing_52 M2 w) ?_
    show yR 55 86 [(0, .ref 0), (1, .int w)] [.long (if w = 0 then M2.2 52 0 else M2.2 52 1)] M2 _
    rw [b1, b2]
    refine yR.ret _ rfl rfl rfl ?_
    exact ⟨rfl, e2⟩
  · exact absurd q1 (by decide)
-- the reference
theorem r_termOf (M : zMm) (a b : Nat) (ha : a < 5) (hb : b < 5) : yOk 149 0 [(0, .int (nI a)), (1, .int (nI b))] [] M (some (.int (nI ((a + b) * (a + b + 1) / 2 + b)))) M := by
  have hd : ∀ a, a < 5 → ∀ b, b < 5 → (nI a + nI b) * (nI a + nI b + 1) / 2 + nI b = nI ((a + b) * (a + b + 1) / 2 + b) := by decide
  refine yR.ok ?_
  refine yR.adv 10 (pc' := 10) (lv' := [(0, .int (nI a)), (1, .int (nI b))]) (st' := [.int 2, .int (((nI a) + (nI b)) * (((nI a) + (nI b)) + 1))]) (M' := M) rfl ?_
  refine yR.idiv _ _ _ rfl (by decide) ?_
  refine yR.adv 2 (pc' := 13) (lv' := [(0, .int (nI a)), (1, .int (nI b))]) (st' := [.int (((((nI a) + (nI b)) * (((nI a) + (nI b)) + 1)) / 2) + (nI b))]) (M' := M) rfl ?_
  rw [hd a ha b hb]
  refine yR.ret _ rfl rfl rfl ?_
  exact ⟨rfl, rfl⟩
theorem ztrm : ∀ a, a < 5 → ∀ b, b < 5 → a + b < 5 → (a + b) * (a + b + 1) / 2 + b < 15 ∧ zpxN ((a + b) * (a + b + 1) / 2 + b) = a ∧ zpyN ((a + b) * (a + b + 1) / 2 + b) = b := by decide
theorem zN_r {N c m e mt : Int} {A B : Int64} (hN : N.natAbs ≤ 72000000) (hc : c.natAbs ≤ 1000) (hmt : mt.natAbs ≤ 2880) (hA : A = zfu (lI N) (lI 720)) (hB : B = zfd (lI N) (lI 720)) (he : 0 < e ∧ e ≤ 720) (hm : m.natAbs ≤ 2880) (hx : m * 720 = mt * e) :
    (A * (lI e / zg B (lI e)) + lI (m * c) * (B / zg B (lI e))).toInt ≠ -2 ^ 63 ∧ 0 < (B / zg B (lI e) * lI e).toInt ∧ zfu (A * (lI e / zg B (lI e)) + lI (m * c) * (B / zg B (lI e))) (B / zg B (lI e) * lI e) = zfu (lI (N + c * mt)) (lI 720) ∧ zfd (A * (lI e / zg B (lI e)) + lI (m * c) * (B / zg B (lI e))) (B / zg B (lI e) * lI e) = zfd (lI (N + c * mt)) (lI 720) := by
  have hcm := zmulb hc hmt
  have hmc := zmulb hm hc
  have t1 := zN_t (N := N) (by omega)
  have t2 := zN_t (N := N + c * mt) (by omega)
  have te : (lI e).toInt = e := lI_toInt (by omega)
  have tmc : (lI (m * c)).toInt = m * c := lI_toInt (by omega)
  have t7 : (lI 720).toInt = 720 := rfl
  have l1 := zfu_le (u := lI N) z720
  have l2 := zfd_le (u := lI N) z720
  have cr := zf_cross (u := lI N) z720
  rw [t1, t7, ← hA, ← hB] at cr
  rw [t1, ← hA] at l1
  rw [t7, ← hB] at l2
  obtain ⟨g, b', e', hg, hb', he', eB, eE, q1, q2⟩ := zg_split l2.1 (show 0 < (lI e).toInt by omega)
  have hb1 : b' ≤ B.toInt := by
    have h : b' * 1 ≤ b' * g := Int.mul_le_mul_of_nonneg_left (by omega) (by omega)
    rw [Int.mul_comm b' g, ← eB] at h
    omega
  have he1 : e' ≤ (lI e).toInt := by
    have h : e' * 1 ≤ e' * g := Int.mul_le_mul_of_nonneg_left (by omega) (by omega)
    rw [Int.mul_comm e' g, ← eE] at h
    omega
  have m1 := zmul_ok (x := A) (y := lI e / zg B (lI e)) (A := 72000000) (B := 720) (by omega) (by rw [q2]; omega) (by decide)
  have m3 := zmul_ok (x := lI (m * c)) (y := B / zg B (lI e)) (A := 2880 * 1000) (B := 720) (by omega) (by rw [q1]; omega) (by decide)
  have s1 := zadd_ok (x := A * (lI e / zg B (lI e))) (y := lI (m * c) * (B / zg B (lI e))) (A := 72000000 * 720) (B := 2880 * 1000 * 720) (by rw [m1.1]; exact m1.2) (by rw [m3.1]; exact m3.2) (by decide)
  have m4 := zmul_ok (x := B / zg B (lI e)) (y := lI e) (A := 720) (B := 720) (by rw [q1]; omega) (by omega) (by decide)
  rw [m1.1, m3.1, q1, q2, tmc] at s1
  rw [q1, te] at m4
  have hp : 0 < b' * e := Int.mul_pos hb' he.1
  refine ⟨by rw [s1.1]; omega, by rw [m4.1]; exact hp, ?_⟩
  refine zf_same (by rw [m4.1]; exact hp) z720 ?_
  rw [s1.1, m4.1, t2, t7, Int.add_mul, Int.add_mul]
  rw [te] at eE
  congr 1
  · rw [Int.mul_right_comm, cr, eB, eE]
    ac_rfl
  · have : m * c * b' * 720 = m * 720 * (c * b') := by ac_rfl
    rw [this, hx]
    ac_rfl
theorem zN_same {N : Int} (hN : N.natAbs ≤ 72000000) : zfu (zfu (lI N) (lI 720)) (zfd (lI N) (lI 720)) = zfu (lI N) (lI 720) ∧ zfd (zfu (lI N) (lI 720)) (zfd (lI N) (lI 720)) = zfd (lI N) (lI 720) := by
  have l2 := zfd_le (u := lI N) z720
  have cr := zf_cross (u := lI N) z720
  exact zf_same l2.1 z720 cr
def zrowN (f : Nat → Int) (a : Nat) : Nat → Nat → Int → Int
  | 0, _, N => N
  | d + 1, b, N => zrowN f a d (b + 1) (N + f ((a + b) * (a + b + 1) / 2 + b))
def zallN (f : Nat → Int) : Nat → Nat → Int → Int
  | 0, _, N => N
  | d + 1, a, N => zallN f d (a + 1) (zrowN f a (5 - a) 0 N)
theorem zN_all (f : Nat → Int) : zallN f 5 0 0 = zclsN f 15 0 0 := by
  have h1 : zallN f 5 0 0 = 0 + f 0 + f 2 + f 5 + f 9 + f 14 + f 1 + f 4 + f 8 + f 13 + f 3 + f 7 + f 12 + f 6 + f 11 + f 10 := rfl
  have h2 : zclsN f 15 0 0 = 0 + f 0 + f 1 + f 2 + f 3 + f 4 + f 5 + f 6 + f 7 + f 8 + f 9 + f 10 + f 11 + f 12 + f 13 + f 14 := rfl
  rw [h1, h2]
  omega
theorem r_whole_in {Q : Option Value → zMm → Prop} (M0 : zMm) (dom : Nat) (hdom : dom < 3) (cf : Nat → Int) (hcf : ∀ t, t < 15 → (cf t).natAbs ≤ 1000) (w : Int32) (a : Nat) (ha : a < 5) (Nz : Int) (K : ∀ M', Nz.natAbs ≤ (5 * a + 5) * 2880000 → M'.1 93 4 = nI dom → (∀ t, t < 15 → M'.1 117 t = iI (cf t)) → zKp [] [(93, 2), (93, 3)] M0 M' → yR 150 103 [(0, .ref 93), (1, .int w), (2, .long (zfu (lI Nz) (lI 720))), (4, .long (zfd (lI Nz) (lI 720))), (6, .int (nI a))] [] M' Q) :
    ∀ (d b : Nat) (M : zMm) (N : Int), b + d = 5 - a → N.natAbs ≤ (5 * a + b) * 2880000 → M.1 93 4 = nI dom → (∀ t, t < 15 → M.1 117 t = iI (cf t)) → zrowN (fun t => cf t * zmv dom t) a d b N = Nz → zKp [] [(93, 2), (93, 3)] M0 M →
    yR 150 28 [(0, .ref 93), (1, .int w), (2, .long (zfu (lI N) (lI 720))), (4, .long (zfd (lI N) (lI 720))), (6, .int (nI a)), (7, .int (nI b))] [] M Q := by
  intro d
  induction d using Nat.strongRecOn with
  | ind d ih =>
    intro b M N h hN h0 hc hz hE
    refine yR.adv 4 (pc' := 34) (lv' := [(0, .ref 93), (1, .int w), (2, .long (zfu (lI N) (lI 720))), (4, .long (zfd (lI N) (lI 720))), (6, .int (nI a)), (7, .int (nI b))]) (st' := [.int 4, .int ((nI a) + (nI b))]) (M' := M) rfl ?_
    rw [nI_add]
    refine yR.if2 .gt _ _ _ _ rfl (fun q1 => ?_) (fun q1 => ?_)
    · have q1' : (4 : Int) < ((a + b : Nat) : Int) := zcT q1 (nI_toInt (by omega)) rfl
      have hd : d = 0 := by omega
      subst hd
      have hz' : Nz = N := hz.symm
      subst hz'
      exact (K M (Nat.le_trans hN (Nat.mul_le_mul_right _ (by omega))) h0 hc hE).drop (by refine ⟨?_, ?_⟩ <;> simp [zget, zwf])
    · have q1' : ¬ (4 : Int) < ((a + b : Nat) : Int) := zcF q1 (nI_toInt (by omega)) rfl
      obtain ⟨d', rfl⟩ : ∃ d', d = d' + 1 := ⟨d - 1, by omega⟩
      obtain ⟨o1, o2, o3⟩ := ztrm a ha b (by omega) (by omega)
      generalize htt : (a + b) * (a + b + 1) / 2 + b = t at o1 o2 o3
      obtain ⟨x1, x2, x3, x4, x5⟩ := zmv_ok dom hdom t o1
      rw [o2, o3] at x1 x3 x4 x5
      have hcb := hcf t o1
      have hcm := zmulb hcb x2
      have l2 := zfd_le (u := lI N) z720
      have l1 := zfu_le (u := lI N) z720
      refine yR.adv 3 (pc' := 42) (lv' := [(0, .ref 93), (1, .int w), (2, .long (zfu (lI N) (lI 720))), (4, .long (zfd (lI N) (lI 720))), (6, .int (nI a)), (7, .int (nI b))]) (st' := [.int (nI b), .int (nI a), .ref 93]) (M' := M) rfl ?_
      refine yR.callK (M1 := zupL (zupL M 93 2 (zfu (zmu dom a b) (zmd dom a b))) 93 3 (zfd (zmu dom a b) (zmd dom a b))) _ rfl rfl rfl rfl rfl (r_moment M dom a b h0 hdom (by omega) (by omega) (by omega)) ?_
      show yR 150 45 [(0, .ref 93), (1, .int w), (2, .long (zfu (lI N) (lI 720))), (4, .long (zfd (lI N) (lI 720))), (6, .int (nI a)), (7, .int (nI b))] [] (zupL (zupL M 93 2 (zfu (zmu dom a b) (zmd dom a b))) 93 3 (zfd (zmu dom a b) (zmd dom a b))) _
      generalize g1 : zupL (zupL M 93 2 (zfu (zmu dom a b) (zmd dom a b))) 93 3 (zfd (zmu dom a b) (zmd dom a b)) = M1
      have E1 : zKp [] [(93, 2), (93, 3)] M M1 := by rw [← g1]; exact ((zKp.refl _ _ M).upL (by simp)).upL (by simp)
      have a1 : M1.2 93 2 = lI (zfu (zmu dom a b) (zmd dom a b)).toInt := by rw [← g1, lI_of]; simp [zupL_l]
      have a2 : M1.2 93 3 = lI (zfd (zmu dom a b) (zmd dom a b)).toInt := by rw [← g1, lI_of]; simp [zupL_l]
      have a3 : M1.1 117 t = iI (cf t) := by rw [← g1]; exact hc t o1
      refine yR.adv 6 (pc' := 57) (lv' := [(0, .ref 93), (1, .int w), (2, .long (zfu (lI N) (lI 720))), (4, .long (zfd (lI N) (lI 720))), (6, .int (nI a)), (7, .int (nI b))]) (st' := [.int (nI b), .int (nI a), .ref 117, .long (M1.2 93 2)]) (M' := M1) rfl ?_
      refine yR.callK (M1 := M1) _ rfl rfl rfl rfl rfl (r_termOf M1 a b ha (by omega)) ?_
      show yR 150 60 [(0, .ref 93), (1, .int w), (2, .long (zfu (lI N) (lI 720))), (4, .long (zfd (lI N) (lI 720))), (6, .int (nI a)), (7, .int (nI b))] [.int (nI ((a + b) * (a + b + 1) / 2 + b)), .ref 117, .long (M1.2 93 2)] M1 _
      rw [htt]
      refine yR.iald t _ _ _ rfl rfl (by decide) (rfl) (by omega) ?_
      rw [a3]
      refine yR.adv 9 (pc' := 75) (lv' := [(10, .long (M1.2 93 3)), (8, .long ((M1.2 93 2) * ((iI (cf t)).toInt64))), (0, .ref 93), (1, .int w), (2, .long (zfu (lI N) (lI 720))), (4, .long (zfd (lI N) (lI 720))), (6, .int (nI a)), (7, .int (nI b))]) (st' := [.long (zfd (lI N) (lI 720)), .long (zfu (lI N) (lI 720)), .ref 93]) (M' := M1) rfl ?_
      rw [a1, a2, iI_l (by omega), lI_mul]
      show yR 150 75 [(10, .long (lI (zfd (zmu dom a b) (zmd dom a b)).toInt)), (8, .long (lI ((zfu (zmu dom a b) (zmd dom a b)).toInt * cf t))), (0, .ref 93), (1, .int w), (2, .long (zfu (lI N) (lI 720))), (4, .long (zfd (lI N) (lI 720))), (6, .int (nI a)), (7, .int (nI b))] [.long (zfd (lI N) (lI 720)), .long (zfu (lI N) (lI 720)), .ref 93] M1 _
      have hs := zN_same (N := N) (by omega)
      have t1 := zN_t (N := N) (by omega)
      refine yR.callK (M1 := zupL (zupL M1 93 2 (zfu (zfu (lI N) (lI 720)) (zfd (lI N) (lI 720)))) 93 3 (zfd (zfu (lI N) (lI 720)) (zfd (lI N) (lI 720)))) _ rfl rfl rfl rfl rfl (r_fraction M1 (zfu (lI N) (lI 720)) (zfd (lI N) (lI 720)) (by omega) l2.1) ?_
      show yR 150 78 [(10, .long (lI (zfd (zmu dom a b) (zmd dom a b)).toInt)), (8, .long (lI ((zfu (zmu dom a b) (zmd dom a b)).toInt * cf t))), (0, .ref 93), (1, .int w), (2, .long (zfu (lI N) (lI 720))), (4, .long (zfd (lI N) (lI 720))), (6, .int (nI a)), (7, .int (nI b))] [] (zupL (zupL M1 93 2 (zfu (zfu (lI N) (lI 720)) (zfd (lI N) (lI 720)))) 93 3 (zfd (zfu (lI N) (lI 720)) (zfd (lI N) (lI 720)))) _
      rw [hs.1, hs.2]
      generalize g2 : zupL (zupL M1 93 2 (zfu (lI N) (lI 720))) 93 3 (zfd (lI N) (lI 720)) = M2
      have E2 : zKp [] [(93, 2), (93, 3)] M1 M2 := by rw [← g2]; exact ((zKp.refl _ _ M1).upL (by simp)).upL (by simp)
      have b1 : M2.2 93 2 = zfu (lI N) (lI 720) := by rw [← g2]; simp [zupL_l]
      have b2 : M2.2 93 3 = zfd (lI N) (lI 720) := by rw [← g2]; simp [zupL_l]
      have hst := zN_r (N := N) (c := cf t) (m := (zfu (zmu dom a b) (zmd dom a b)).toInt) (e := (zfd (zmu dom a b) (zmd dom a b)).toInt) (by omega) hcb x2 b1 b2 ⟨x3, x4⟩ x5 x1
      obtain ⟨y1, y2, y3, y4⟩ := hst
      have te : (lI (zfd (zmu dom a b) (zmd dom a b)).toInt).toInt = (zfd (zmu dom a b) (zmd dom a b)).toInt := lI_toInt (by omega)
      refine yR.adv 3 (pc' := 83) (lv' := [(10, .long (lI (zfd (zmu dom a b) (zmd dom a b)).toInt)), (8, .long (lI ((zfu (zmu dom a b) (zmd dom a b)).toInt * cf t))), (0, .ref 93), (1, .int w), (2, .long (zfu (lI N) (lI 720))), (4, .long (zfd (lI N) (lI 720))), (6, .int (nI a)), (7, .int (nI b))]) (st' := [.long (lI (zfd (zmu dom a b) (zmd dom a b)).toInt), .long (lI ((zfu (zmu dom a b) (zmd dom a b)).toInt * cf t)), .ref 93]) (M' := M2) rfl ?_
      refine yR.callK (M1 := zansR M2 (M2.2 93 2 * (lI (zfd (zmu dom a b) (zmd dom a b)).toInt / zg (M2.2 93 3) (lI (zfd (zmu dom a b) (zmd dom a b)).toInt)) + lI ((zfu (zmu dom a b) (zmd dom a b)).toInt * cf t) * (M2.2 93 3 / zg (M2.2 93 3) (lI (zfd (zmu dom a b) (zmd dom a b)).toInt))) (M2.2 93 3 / zg (M2.2 93 3) (lI (zfd (zmu dom a b) (zmd dom a b)).toInt) * lI (zfd (zmu dom a b) (zmd dom a b)).toInt)) _ rfl rfl rfl rfl rfl (r_add M2 (lI ((zfu (zmu dom a b) (zmd dom a b)).toInt * cf t)) (lI (zfd (zmu dom a b) (zmd dom a b)).toInt) (by rw [b2]; exact zpos_mx l2.1) (by omega) y1 y2) ?_
      show yR 150 86 [(10, .long (lI (zfd (zmu dom a b) (zmd dom a b)).toInt)), (8, .long (lI ((zfu (zmu dom a b) (zmd dom a b)).toInt * cf t))), (0, .ref 93), (1, .int w), (2, .long (zfu (lI N) (lI 720))), (4, .long (zfd (lI N) (lI 720))), (6, .int (nI a)), (7, .int (nI b))] [] (zansR M2 (M2.2 93 2 * (lI (zfd (zmu dom a b) (zmd dom a b)).toInt / zg (M2.2 93 3) (lI (zfd (zmu dom a b) (zmd dom a b)).toInt)) + lI ((zfu (zmu dom a b) (zmd dom a b)).toInt * cf t) * (M2.2 93 3 / zg (M2.2 93 3) (lI (zfd (zmu dom a b) (zmd dom a b)).toInt))) (M2.2 93 3 / zg (M2.2 93 3) (lI (zfd (zmu dom a b) (zmd dom a b)).toInt) * lI (zfd (zmu dom a b) (zmd dom a b)).toInt)) _
      generalize g3 : zansR M2 (M2.2 93 2 * (lI (zfd (zmu dom a b) (zmd dom a b)).toInt / zg (M2.2 93 3) (lI (zfd (zmu dom a b) (zmd dom a b)).toInt)) + lI ((zfu (zmu dom a b) (zmd dom a b)).toInt * cf t) * (M2.2 93 3 / zg (M2.2 93 3) (lI (zfd (zmu dom a b) (zmd dom a b)).toInt))) (M2.2 93 3 / zg (M2.2 93 3) (lI (zfd (zmu dom a b) (zmd dom a b)).toInt) * lI (zfd (zmu dom a b) (zmd dom a b)).toInt) = M3
      have E3 : zKp [] [(93, 2), (93, 3)] M2 M3 := by rw [← g3]; exact ((zKp.refl _ _ M2).upL (by simp)).upL (by simp)
      have c1 : M3.2 93 2 = zfu (lI (N + cf t * zmv dom t)) (lI 720) := by rw [← y3, ← g3]; simp [zupL_l]
      have c2 : M3.2 93 3 = zfd (lI (N + cf t * zmv dom t)) (lI 720) := by rw [← y4, ← g3]; simp [zupL_l]
      refine yR.adv 8 (pc' := 28) (lv' := [(7, .int (nI b + 1)), (4, .long (M3.2 93 3)), (2, .long (M3.2 93 2)), (10, .long (lI (zfd (zmu dom a b) (zmd dom a b)).toInt)), (8, .long (lI ((zfu (zmu dom a b) (zmd dom a b)).toInt * cf t))), (0, .ref 93), (1, .int w), (6, .int (nI a))]) (st' := []) (M' := M3) rfl ?_
      rw [c1, c2]
      have K2 := ih d' (by omega) (b + 1) M3 (N + cf t * zmv dom t) (by omega) (by omega) (by rw [(E3 93 4 (by simp) (by decide)).1, (E2 93 4 (by simp) (by decide)).1, (E1 93 4 (by simp) (by decide)).1]; exact h0) (fun t ht => by rw [(E3 117 t (by simp) (by simp)).1, (E2 117 t (by simp) (by simp)).1, (E1 117 t (by simp) (by simp)).1]; exact hc t ht) (by rw [← hz, ← htt]; rfl) (((hE.trans E1).trans E2).trans E3)
      exact (K2).drop (by refine ⟨?_, ?_⟩ <;> simp [zget, zwf, nI_succ])
theorem r_whole_out {Q : Option Value → zMm → Prop} (M0 : zMm) (dom : Nat) (hdom : dom < 3) (cf : Nat → Int) (hcf : ∀ t, t < 15 → (cf t).natAbs ≤ 1000) (w : Int32) (Nz : Int) (K : ∀ M', Nz.natAbs ≤ 72000000 → zKp [] [(93, 2), (93, 3)] M0 M' → yR 150 109 [(0, .ref 93), (1, .int w), (2, .long (zfu (lI Nz) (lI 720))), (4, .long (zfd (lI Nz) (lI 720)))] [] M' Q) :
    ∀ (d a : Nat) (M : zMm) (N : Int), a + d = 5 → N.natAbs ≤ 5 * a * 2880000 → M.1 93 4 = nI dom → (∀ t, t < 15 → M.1 117 t = iI (cf t)) → zallN (fun t => cf t * zmv dom t) d a N = Nz → zKp [] [(93, 2), (93, 3)] M0 M →
    yR 150 19 [(0, .ref 93), (1, .int w), (2, .long (zfu (lI N) (lI 720))), (4, .long (zfd (lI N) (lI 720))), (6, .int (nI a))] [] M Q := by
  intro d
  induction d using Nat.strongRecOn with
  | ind d ih =>
    intro a M N h hN h0 hc hz hE
    refine yR.adv 2 (pc' := 22) (lv' := [(0, .ref 93), (1, .int w), (2, .long (zfu (lI N) (lI 720))), (4, .long (zfd (lI N) (lI 720))), (6, .int (nI a))]) (st' := [.int 4, .int (nI a)]) (M' := M) rfl ?_
    refine yR.if2 .gt _ _ _ _ rfl (fun q1 => ?_) (fun q1 => ?_)
    · have q1' : (4 : Int) < a := zcT q1 (nI_toInt (by omega)) rfl
      have hd : d = 0 := by omega
      subst hd
      have hz' : Nz = N := hz.symm
      subst hz'
      exact (K M (by omega) hE).drop (by refine ⟨?_, ?_⟩ <;> simp [zget, zwf])
    · have q1' : ¬ (4 : Int) < a := zcF q1 (nI_toInt (by omega)) rfl
      obtain ⟨d', rfl⟩ : ∃ d', d = d' + 1 := ⟨d - 1, by omega⟩
      refine yR.adv 2 (pc' := 28) (lv' := [(7, .int 0), (0, .ref 93), (1, .int w), (2, .long (zfu (lI N) (lI 720))), (4, .long (zfd (lI N) (lI 720))), (6, .int (nI a))]) (st' := []) (M' := M) rfl ?_
      refine yR.drop (lv := [(0, .ref 93), (1, .int w), (2, .long (zfu (lI N) (lI 720))), (4, .long (zfd (lI N) (lI 720))), (6, .int (nI a)), (7, .int (nI 0))]) (by refine ⟨?_, ?_⟩ <;> simp [zget, zwf] <;> rfl) ?_
      refine r_whole_in M0 dom hdom cf hcf w a (by omega) _ (fun M' hN' h0' hc' hE' => ?_) (5 - a) 0 M N (by omega) (by omega) h0 hc rfl hE
      refine yR.adv 2 (pc' := 19) (lv' := [(6, .int (nI a + 1)), (0, .ref 93), (1, .int w), (2, .long (zfu (lI (zrowN (fun t => cf t * zmv dom t) a (5 - a) 0 N)) (lI 720))), (4, .long (zfd (lI (zrowN (fun t => cf t * zmv dom t) a (5 - a) 0 N)) (lI 720)))]) (st' := []) (M' := M') rfl ?_
      exact (ih d' (by omega) (a + 1) M' _ (by omega) (by omega) h0' hc' hz hE').drop (by refine ⟨?_, ?_⟩ <;> simp [zget, zwf, nI_succ])
theorem r_whole_no (M : zMm) (w : Int32) (h : ¬ (w = 0 ∨ w = 1)) : yOk 150 0 [(0, .ref 93), (1, .int w)] [] M (some (.long zlost)) M := by
  refine yR.ok ?_
  refine yR.adv 1 (pc' := 1) (lv' := [(0, .ref 93), (1, .int w)]) (st' := [.int w]) (M' := M) rfl ?_
  refine yR.callK (M1 := M) _ rfl rfl rfl rfl rfl (r_isWhich M w 0 (Or.inr ⟨h, rfl⟩)) ?_
  show yR 150 4 [(0, .ref 93), (1, .int w)] [.int 0] M _
  refine yR.if1 .ne _ _ _ _ rfl (fun q1 => ?_) (fun q1 => ?_)
  · exact absurd q1 (by decide)
  · refine yR.adv 1 (pc' := 10) (lv' := [(0, .ref 93), (1, .int w)]) (st' := [.long (-9223372036854775808)]) (M' := M) rfl ?_
    refine yR.ret _ rfl rfl rfl ?_
    exact ⟨rfl, rfl⟩
theorem r_whole (M : zMm) (dom : Nat) (hdom : dom < 3) (h0 : M.1 93 4 = nI dom) (cf : Nat → Int) (hcf : ∀ t, t < 15 → (cf t).natAbs ≤ 1000) (hc : ∀ t, t < 15 → M.1 117 t = iI (cf t)) (w : Int32) (hw : w = 0 ∨ w = 1) : yR 150 0 [(0, .ref 93), (1, .int w)] [] M (fun r N => r = some (.long (zwhV (zclsN (fun t => cf t * zmv dom t) 15 0 0) w)) ∧ zKp [] [(93, 2), (93, 3)] M N) := by
  rw [← zN_all]
  refine yR.adv 1 (pc' := 1) (lv' := [(0, .ref 93), (1, .int w)]) (st' := [.int w]) (M' := M) rfl ?_
  refine yR.callK (M1 := M) _ rfl rfl rfl rfl rfl (r_isWhich M w 1 (Or.inl ⟨hw, rfl⟩)) ?_
  show yR 150 4 [(0, .ref 93), (1, .int w)] [.int 1] M _
  refine yR.if1 .ne _ _ _ _ rfl (fun q1 => ?_) (fun q1 => ?_)
  · refine yR.adv 6 (pc' := 19) (lv' := [(6, .int 0), (4, .long 1), (2, .long 0), (0, .ref 93), (1, .int w)]) (st' := []) (M' := M) rfl ?_
    have f0 : zfu (lI 0) (lI 720) = 0 := by decide +kernel
    have f1 : zfd (lI 0) (lI 720) = 1 := by decide +kernel
    refine yR.drop (lv := [(0, .ref 93), (1, .int w), (2, .long (zfu (lI 0) (lI 720))), (4, .long (zfd (lI 0) (lI 720))), (6, .int (nI 0))]) (by refine ⟨?_, ?_⟩ <;> simp [zget, zwf, f0, f1] <;> rfl) ?_
    refine r_whole_out M dom hdom cf hcf w (zallN (fun t => cf t * zmv dom t) 5 0 0) (fun M2 hN e2 => ?_) 5 0 M 0 rfl (by simp) h0 hc rfl (zKp.refl _ _ _)
    generalize zallN (fun t => cf t * zmv dom t) 5 0 0 = Nz at *
    have l2 := zfd_le (u := lI Nz) z720
    have l1 := zfu_le (u := lI Nz) z720
    have t1 := zN_t (N := Nz) (by omega)
    have hs := zN_same hN
    refine yR.adv 3 (pc' := 113) (lv' := [(0, .ref 93), (1, .int w), (2, .long (zfu (lI Nz) (lI 720))), (4, .long (zfd (lI Nz) (lI 720)))]) (st' := [.long (zfd (lI Nz) (lI 720)), .long (zfu (lI Nz) (lI 720)), .ref 93]) (M' := M2) rfl ?_
    refine yR.callK (M1 := zupL (zupL M2 93 2 (zfu (zfu (lI Nz) (lI 720)) (zfd (lI Nz) (lI 720)))) 93 3 (zfd (zfu (lI Nz) (lI 720)) (zfd (lI Nz) (lI 720)))) _ rfl rfl rfl rfl rfl (r_fraction M2 (zfu (lI Nz) (lI 720)) (zfd (lI Nz) (lI 720)) (by omega) l2.1) ?_
    show yR 150 116 [(0, .ref 93), (1, .int w), (2, .long (zfu (lI Nz) (lI 720))), (4, .long (zfd (lI Nz) (lI 720)))] [] (zupL (zupL M2 93 2 (zfu (zfu (lI Nz) (lI 720)) (zfd (lI Nz) (lI 720)))) 93 3 (zfd (zfu (lI Nz) (lI 720)) (zfd (lI Nz) (lI 720)))) _
    rw [hs.1, hs.2]
    refine yR.adv 2 (pc' := 118) (lv' := [(0, .ref 93), (1, .int w), (2, .long (zfu (lI Nz) (lI 720))), (4, .long (zfd (lI Nz) (lI 720)))]) (st' := [.int w, .ref 93]) (M' := zupL (zupL M2 93 2 (zfu (lI Nz) (lI 720))) 93 3 (zfd (lI Nz) (lI 720))) rfl ?_
    refine yR.callK (M1 := zupL (zupL M2 93 2 (zfu (lI Nz) (lI 720))) 93 3 (zfd (lI Nz) (lI 720))) _ rfl rfl rfl rfl rfl (r_part (zupL (zupL M2 93 2 (zfu (lI Nz) (lI 720))) 93 3 (zfd (lI Nz) (lI 720))) w) ?_
    show yR 150 121 [(0, .ref 93), (1, .int w), (2, .long (zfu (lI Nz) (lI 720))), (4, .long (zfd (lI Nz) (lI 720)))] [.long (if w = 0 then zfu (lI Nz) (lI 720) else zfd (lI Nz) (lI 720))] (zupL (zupL M2 93 2 (zfu (lI Nz) (lI 720))) 93 3 (zfd (lI Nz) (lI 720))) _
    refine yR.ret _ rfl rfl rfl ?_
    exact ⟨rfl, (e2.upL (by simp)).upL (by simp)⟩
  · exact absurd q1 (by decide)
