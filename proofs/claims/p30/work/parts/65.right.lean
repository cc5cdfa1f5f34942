/-! ===== sums over a list of places; errors that are none; isRight ===== -/
def lsI (a b : Nat) : zPl → Int
  | [] => 0
  | e :: r => e.2.toInt * e.1.1.toInt ^ a * e.1.2.toInt ^ b + lsI a b r
theorem lsI_app (a b : Nat) : ∀ L L' : zPl, lsI a b (L ++ L') = lsI a b L + lsI a b L'
  | [], L' => by simp [lsI]
  | e :: r, L' => by
    show _ + lsI a b (r ++ L') = (_ + lsI a b r) + lsI a b L'
    rw [lsI_app a b r L']
    omega
theorem zsumI_L {c f ax ay aw : Nat} {M : zMm} {L : zPl} (h : zRu c f ax ay aw M L) (a b : Nat) : ∀ n, n ≤ L.length → zsumI (M.1 aw) (M.1 ax) (M.1 ay) a b n = lsI a b (L.take n)
  | 0, _ => rfl
  | n + 1, hn => by
    have hg := List.getElem?_eq_getElem (show n < L.length by omega)
    obtain ⟨g1, g2, g3⟩ := h.2.2 n _ hg
    rw [List.take_add_one, hg, lsI_app, ← zsumI_L h a b n (by omega)]
    show zsumI (M.1 aw) (M.1 ax) (M.1 ay) a b n + (M.1 aw n).toInt * (M.1 ax n).toInt ^ a * (M.1 ay n).toInt ^ b = _
    rw [g1, g2, g3]
    simp [lsI]
theorem zsm_L {c f ax ay aw : Nat} {M : zMm} {L : zPl} (h : zRu c f ax ay aw M L) (hk : zLok L) (a b : Nat) (hab : a + b ≤ 6) : (zsm (M.1 aw) (M.1 ax) (M.1 ay) a b L.length).toInt = lsI a b L ∧ (lsI a b L).natAbs ≤ 45864714240000 := by
  have hb : ∀ p, p < L.length → (M.1 aw p).toInt.natAbs ≤ 10000 ∧ (M.1 ax p).toInt.natAbs ≤ 24 ∧ (M.1 ay p).toInt.natAbs ≤ 24 := fun p hp => by
    have hg := List.getElem?_eq_getElem hp
    obtain ⟨g1, g2, g3⟩ := h.2.2 p _ hg
    obtain ⟨k1, k2, k3⟩ := hk _ (List.mem_of_getElem? hg)
    rw [g1, g2, g3]
    unfold zgr at k1 k2
    unfold zwr at k3
    omega
  obtain ⟨z1, z2⟩ := zsm_ok (M.1 aw) (M.1 ax) (M.1 ay) a b hab L.length (fun p hp => (hb p hp).1) (fun p hp => (hb p hp).2.1) (fun p hp => (hb p hp).2.2) h.2.1 L.length (Nat.le_refl _)
  rw [zsumI_L h a b L.length (Nat.le_refl _), List.take_length] at z1 z2
  refine ⟨z1, Nat.le_trans z2 ?_⟩
  have := Nat.mul_le_mul_right (10000 * 24 ^ 6) h.2.1
  omega
theorem zD_ok {W q : Int} (hW : 1 ≤ W ∧ W ≤ 10000) (hq : 1 ≤ q ∧ q ≤ 12) (n : Nat) (hn : n ≤ 6) : ((iI W).toInt64 * zpw (iI q).toInt64 n).toInt = W * q ^ n ∧ 0 < W * q ^ n ∧ W * q ^ n ≤ 2 ^ 35 := by
  rw [iI_l (by omega), iI_l (by omega)]
  have tq : (lI q).toInt = q := lI_toInt (by omega)
  have tW : (lI W).toInt = W := lI_toInt (by omega)
  have h12 : 12 ^ n ≤ 12 ^ 6 := Nat.pow_le_pow_right (by omega) hn
  obtain ⟨p1, p2⟩ := zpw_ok (v := lI q) (B := 12) (by omega) (by omega) n (by omega)
  rw [tq] at p1 p2
  have hp : 0 < q ^ n := Int.pow_pos (by omega)
  have m1 := zmul_ok (x := lI W) (y := zpw (lI q) n) (A := 10000) (B := 12 ^ 6) (by omega) (by rw [p1]; omega) (by decide)
  rw [tW, p1] at m1
  refine ⟨m1.1, Int.mul_pos (by omega) hp, ?_⟩
  have := m1.2
  omega
theorem zero_iff {A B m e S D mu md : Int} (hB : 0 < B) (he : 0 < e) (hD : 0 < D) (hmd : 0 < md) (h1 : A * D = S * B) (h2 : m * md = mu * e) : A * e = m * B ↔ S * md = mu * D := by
  have x1 : A * e * (D * md) = S * md * (B * e) := by
    have : A * e * (D * md) = A * D * (e * md) := by simp [Int.mul_comm, Int.mul_left_comm]
    rw [this, h1]
    simp [Int.mul_comm, Int.mul_left_comm]
  have x2 : m * B * (D * md) = mu * D * (B * e) := by
    have : m * B * (D * md) = m * md * (B * D) := by simp [Int.mul_comm, Int.mul_left_comm]
    rw [this, h2]
    simp [Int.mul_comm, Int.mul_left_comm]
  have n1 : D * md ≠ 0 := Int.ne_of_gt (Int.mul_pos hD hmd)
  have n2 : B * e ≠ 0 := Int.ne_of_gt (Int.mul_pos hB he)
  refine ⟨fun h => Int.eq_of_mul_eq_mul_right n2 ?_, fun h => Int.eq_of_mul_eq_mul_right n1 ?_⟩
  · rw [← x1, ← x2, h]
  · rw [x1, x2, h]
theorem zfu_0 {u d : Int64} (hd : 0 < d.toInt) : zfu u d = 0 ↔ u.toInt = 0 := by
  have hc := zf_cross (u := u) hd
  have hp := (zfd_le (u := u) hd).1
  refine ⟨fun h => ?_, fun h => Int64.toInt_inj.mp ?_⟩
  · rw [h] at hc
    have h0 : (0 : Int64).toInt = 0 := rfl
    rw [h0, Int.zero_mul] at hc
    rcases Int.mul_eq_zero.mp hc.symm with z | z
    · exact z
    · omega
  · rw [h, Int.zero_mul] at hc
    have h0 : (0 : Int64).toInt = 0 := rfl
    rw [h0]
    rcases Int.mul_eq_zero.mp hc with z | z
    · exact z
    · omega
/-- no error of x^a y^b -/
def zE0 (dom : Nat) (q W : Int) (L : zPl) (a b : Nat) : Prop := lsI a b L * (zmd dom a b).toInt = (zmu dom a b).toInt * (W * q ^ (a + b))
def zRr (dom : Nat) (q W : Int) (M : zMm) (L : zPl) : Prop := zRu 93 7 94 95 96 M L ∧ zLok L ∧ M.1 93 4 = nI dom ∧ M.1 93 5 = iI q ∧ M.1 93 6 = iI W ∧ dom < 3 ∧ (1 ≤ q ∧ q ≤ 12) ∧ (1 ≤ W ∧ W ≤ 10000)
def zRm (dom : Nat) (q W : Int) (M : zMm) (L : zPl) : Prop := zRu 1 3 2 3 4 M L ∧ zLok L ∧ M.1 1 0 = nI dom ∧ M.1 1 1 = iI q ∧ M.1 1 2 = iI W ∧ dom < 3 ∧ (1 ≤ q ∧ q ≤ 12) ∧ (1 ≤ W ∧ W ≤ 10000)
theorem zRr.keep {dom : Nat} {q W : Int} {M N : zMm} {L : zPl} (h : zRr dom q W M L) (e1 : ∀ i, 4 ≤ i → i ≤ 7 → N.1 93 i = M.1 93 i) (e2 : ∀ a i, 94 ≤ a → a ≤ 96 → N.1 a i = M.1 a i) : zRr dom q W N L :=
  ⟨h.1.keep (e1 7 (by omega) (by omega)) (fun i => e2 94 i (by omega) (by omega)) (fun i => e2 95 i (by omega) (by omega)) (fun i => e2 96 i (by omega) (by omega)), h.2.1, by rw [e1 4 (by omega) (by omega)]; exact h.2.2.1, by rw [e1 5 (by omega) (by omega)]; exact h.2.2.2.1, by rw [e1 6 (by omega) (by omega)]; exact h.2.2.2.2.1, h.2.2.2.2.2⟩
theorem zRm.keep {dom : Nat} {q W : Int} {M N : zMm} {L : zPl} (h : zRm dom q W M L) (e1 : ∀ a i, 1 ≤ a → a ≤ 4 → N.1 a i = M.1 a i) : zRm dom q W N L :=
  ⟨h.1.keep (e1 1 3 (by omega) (by omega)) (fun i => e1 2 i (by omega) (by omega)) (fun i => e1 3 i (by omega) (by omega)) (fun i => e1 4 i (by omega) (by omega)), h.2.1, by rw [e1 1 0 (by omega) (by omega)]; exact h.2.2.1, by rw [e1 1 1 (by omega) (by omega)]; exact h.2.2.2.1, by rw [e1 1 2 (by omega) (by omega)]; exact h.2.2.2.2.1, h.2.2.2.2.2⟩
theorem r_errE (M : zMm) (dom : Nat) (q W : Int) (L : zPl) (h : zRr dom q W M L) (a b : Nat) (hab : a + b < 7) : yR 113 0 [(0, .ref 93), (1, .int (nI a)), (2, .int (nI b))] [] M (fun r N => r = none ∧ (N.2 93 2 = 0 ↔ zE0 dom q W L a b) ∧ zKp [] [(93, 2), (93, 3)] M N) := by
  obtain ⟨hR, hk, hm, hq, hW, hdom, bq, bW⟩ := h
  obtain ⟨s1, s2⟩ := zsm_L hR hk a b (by omega)
  obtain ⟨d1, d2, d3⟩ := zD_ok bW bq (a + b) (by omega)
  have hmp := zmd_pos (dom := dom) a (by omega) b (by omega) hab
  have hmb := zmd_b (dom := dom) a (by omega) b (by omega) hab
  have hub := zmu_b (dom := dom) a (by omega) b (by omega) hab
  generalize hS : zsm (M.1 96) (M.1 94) (M.1 95) a b L.length = S at s1
  have hD : (M.1 93 6).toInt64 * zpw (M.1 93 5).toInt64 (a + b) = (iI W).toInt64 * zpw (iI q).toInt64 (a + b) := by rw [hq, hW]
  generalize hDD : (iI W).toInt64 * zpw (iI q).toInt64 (a + b) = D at d1 hD
  have pD : 0 < D.toInt := by omega
  have l1 := zfu_le (u := S) pD
  have l2 := zfd_le (u := S) pD
  have l3 := zfu_le (u := zmu dom a b) hmp
  have l4 := zfd_le (u := zmu dom a b) hmp
  have c1 := zf_cross (u := S) pD
  have c2 := zf_cross (u := zmu dom a b) hmp
  obtain ⟨g, b', e', hg, hb', he', eB, eE, k1, k2, k3⟩ := zerr_r (A := zfu S D) (B := zfd S D) (m := zfu (zmu dom a b) (zmd dom a b)) (e := zfd (zmu dom a b) (zmd dom a b)) (by omega) ⟨l2.1, by omega⟩ (by omega) ⟨l4.1, by omega⟩
  refine yR.of (r_errorOf M L.length dom a b hR.1 hR.2.1 hm hdom (by omega) (by omega) hab S D hS hD (by omega) ⟨pD, by omega⟩) ⟨rfl, ?_, ?_⟩
  · rw [show ∀ (M' : zMm) (U V : Int64), (zansR M' U V).2 93 2 = zfu U V from fun M' U V => by simp [zupL_l]]
    rw [zfu_0 (by rw [k2]; exact Int.mul_pos hb' l4.1), k1]
    unfold zE0
    rw [← zero_iff (A := (zfu S D).toInt) (B := (zfd S D).toInt) (m := (zfu (zmu dom a b) (zmd dom a b)).toInt) (e := (zfd (zmu dom a b) (zmd dom a b)).toInt) l2.1 l4.1 d2 hmp (by rw [← d1, ← s1]; exact c1) c2, eB, eE]
    refine ⟨fun z => ?_, fun z => ?_⟩
    · have z' : (zfu S D).toInt * e' = (zfu (zmu dom a b) (zmd dom a b)).toInt * b' := by omega
      rw [Int.mul_left_comm, z', Int.mul_left_comm]
    · have z' : g * ((zfu S D).toInt * e') = g * ((zfu (zmu dom a b) (zmd dom a b)).toInt * b') := by rw [Int.mul_left_comm, z, Int.mul_left_comm]
      have := Int.eq_of_mul_eq_mul_left (by omega) z'
      omega
  · exact ((((((zKp.refl _ _ M).upL (by simp)).upL (by simp)).upL (by simp)).upL (by simp)).upL (by simp)).upL (by simp)
theorem r_isRight_loop (M0 : zMm) (dom : Nat) (q W : Int) (L : zPl) (k : Nat) (hk : k < 7) (v : Int32) (hv : ((∀ a, a ≤ k → zE0 dom q W L a (k - a)) ∧ v = 1) ∨ (¬ (∀ a, a ≤ k → zE0 dom q W L a (k - a)) ∧ v = 0)) : ∀ (d : Nat) (M : zMm), d ≤ k + 1 → (∀ a, d ≤ a → a ≤ k → zE0 dom q W L a (k - a)) → zRr dom q W M L → zKp [] [(93, 2), (93, 3)] M0 M →
    yR 133 2 [(0, .ref 93), (1, .int (nI k)), (2, .int (iI ((d : Int) - 1)))] [] M (fun r N => r = some (.int v) ∧ zKp [] [(93, 2), (93, 3)] M0 N) := by
  intro d
  induction d using Nat.strongRecOn with
  | ind d ih =>
    intro M hd hp hR hE
    refine yR.adv 1 (pc' := 3) (lv' := [(0, .ref 93), (1, .int (nI k)), (2, .int (iI ((d : Int) - 1)))]) (st' := [.int (iI ((d : Int) - 1))]) (M' := M) rfl ?_
    refine yR.if1 .lt _ _ _ _ rfl (fun q1 => ?_) (fun q1 => ?_)
    · have q1' : (d : Int) - 1 < 0 := zcT q1 (iI_toInt (by omega)) rfl
      have hv0 : v = 1 := hv.elim (fun p => p.2) (fun p => absurd (fun a ha => hp a (by omega) ha) p.1)
      refine yR.adv 1 (pc' := 32) (lv' := [(0, .ref 93), (1, .int (nI k)), (2, .int (iI ((d : Int) - 1)))]) (st' := [.int 1]) (M' := M) rfl ?_
      refine yR.ret _ rfl rfl rfl ?_
      exact ⟨by rw [hv0], hE⟩
    · have q1' : ¬ (d : Int) - 1 < 0 := zcF q1 (iI_toInt (by omega)) rfl
      obtain ⟨d', rfl⟩ : ∃ d', d = d' + 1 := ⟨d - 1, by omega⟩
      have hi : iI (((d' + 1 : Nat) : Int) - 1) = nI d' := by rw [nI_iI]; congr 1; omega
      rw [hi]
      refine yR.adv 5 (pc' := 11) (lv' := [(0, .ref 93), (1, .int (nI k)), (2, .int (nI d'))]) (st' := [.int ((nI k) - (nI d')), .int (nI d'), .ref 93]) (M' := M) rfl ?_
      have hs : nI k - nI d' = nI (k - d') := by rw [nI_iI, nI_iI, nI_iI, iI_sub]; congr 1; omega
      rw [hs]
      refine yR.call _ rfl rfl rfl rfl rfl (r_errE M dom q W L hR d' (k - d') (by omega)) (fun r1 M1 hq => ?_)
      obtain ⟨rfl, h1, e1⟩ := hq
      show yR 133 14 [(0, .ref 93), (1, .int (nI k)), (2, .int (nI d'))] [] M1 _
      have R1 : zRr dom q W M1 L := hR.keep (fun i h1 h2 => (e1 93 i (by simp) (by simp <;> omega)).1) (fun a i h1 h2 => (e1 a i (by simp) (by simp <;> omega)).1)
      refine yR.adv 4 (pc' := 20) (lv' := [(0, .ref 93), (1, .int (nI k)), (2, .int (nI d'))]) (st' := [.int (lg_cmp (M1.2 93 2) 0)]) (M' := M1) rfl ?_
      refine yR.if1 .eq _ _ _ _ rfl (fun q2 => ?_) (fun q2 => ?_)
      · have q2' : M1.2 93 2 = 0 := Int64.toInt_inj.mp (zlT q2 rfl rfl)
        refine yR.adv 2 (pc' := 2) (lv' := [(2, .int (nI d' + (-1))), (0, .ref 93), (1, .int (nI k))]) (st' := []) (M' := M1) rfl ?_
        have K := ih d' (by omega) M1 (by omega) (fun a ha1 ha2 => if e : a = d' then e ▸ h1.mp q2' else hp a (by omega) ha2) R1 (hE.trans e1)
        rw [nI_iI d', iI_m1]
        exact (K).drop (by refine ⟨?_, ?_⟩ <;> simp [zget, zwf, nI_succ])
      · have q2' : ¬ M1.2 93 2 = 0 := fun e => zlF q2 rfl rfl (by rw [e]; rfl)
        have hv0 : v = 0 := hv.elim (fun p => absurd (h1.mpr (p.1 d' (by omega))) q2') (fun p => p.2)
        refine yR.adv 1 (pc' := 24) (lv' := [(0, .ref 93), (1, .int (nI k)), (2, .int (nI d'))]) (st' := [.int 0]) (M' := M1) rfl ?_
        refine yR.ret _ rfl rfl rfl ?_
        exact ⟨by rw [hv0], hE.trans e1⟩
theorem r_isRight (M : zMm) (dom : Nat) (q W : Int) (L : zPl) (hR : zRr dom q W M L) (k : Nat) (hk : k < 7) (v : Int32) (hv : ((∀ a, a ≤ k → zE0 dom q W L a (k - a)) ∧ v = 1) ∨ (¬ (∀ a, a ≤ k → zE0 dom q W L a (k - a)) ∧ v = 0)) : yR 133 0 [(0, .ref 93), (1, .int (nI k))] [] M (fun r N => r = some (.int v) ∧ zKp [] [(93, 2), (93, 3)] M N) := by
  refine yR.adv 2 (pc' := 2) (lv' := [(2, .int (nI k)), (0, .ref 93), (1, .int (nI k))]) (st' := []) (M' := M) rfl ?_
  have K := r_isRight_loop M dom q W L k hk v hv (k + 1) M (by omega) (fun a h1 h2 => by omega) hR (zKp.refl _ _ _)
  have hi : iI (((k + 1 : Nat) : Int) - 1) = nI k := by rw [nI_iI]; congr 1; omega
  rw [hi] at K
  exact (K).drop (by refine ⟨?_, ?_⟩ <;> simp [zget, zwf, nI_succ])
