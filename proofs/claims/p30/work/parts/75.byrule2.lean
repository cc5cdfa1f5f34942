/-! ===== byRule, of both: the calls ===== -/
def zmov (k q : Int) (i : Nat) : Int := (2 * i + 1 - k) * q
def zSj (V : Int → Int → Int) (k q : Int) (L : zPl) (i : Nat) : Nat → Nat → Int → Int
  | 0, _, N => N
  | d + 1, j, N => zSj V k q L i d (j + 1) (zlN V (zmov k q i) (zmov k q j) L N)
def zSi (V : Int → Int → Int) (k : Nat) (q : Int) (L : zPl) : Nat → Nat → Int → Int
  | 0, _, N => N
  | d + 1, i, N => zSi V k q L d (i + 1) (zSj V k q L i k 0 N)
theorem zmov_b {k : Nat} {q : Int} (hk : k ≤ 3) (hq : 1 ≤ q ∧ q ≤ 12) {i : Nat} (hi : i < k) : (zmov k q i).natAbs ≤ 24 := by
  unfold zmov
  exact zmulb (A := 2) (B := 12) (by omega) (by omega)
theorem zlN_bb {cf : Nat → Int} (hcf : ∀ t, t < 15 → (cf t).natAbs ≤ 1000) {Q mx my : Int} (hQ : Q.natAbs ≤ 48) (bx : mx.natAbs ≤ 24) (by' : my.natAbs ≤ 24) {L : zPl} (hk : zLok L) (hl : L.length ≤ 24) (N : Int) : (zlN (zVv cf Q) mx my L N).natAbs ≤ N.natAbs + 24 * 796262400000000 := by
  have h := zlN_b (zVv cf Q) mx my 796262400000000 L N (fun e he => by
    obtain ⟨k1, k2, k3⟩ := hk e he
    unfold zgr at k1 k2
    unfold zwr at k3
    have hv := zVv_b hcf hQ (x := e.1.1.toInt + mx) (y := e.1.2.toInt + my) (by omega) (by omega)
    exact zmulb (A := 10000) (B := 79626240000) (by omega) hv)
  exact Nat.le_trans h (Nat.add_le_add_left (Nat.mul_le_mul_right 796262400000000 hl) _)
theorem zSj_b {cf : Nat → Int} (hcf : ∀ t, t < 15 → (cf t).natAbs ≤ 1000) {Q : Int} (hQ : Q.natAbs ≤ 48) {k : Nat} (hk3 : k ≤ 3) {q : Int} (hq : 1 ≤ q ∧ q ≤ 12) {L : zPl} (hk : zLok L) (hl : L.length ≤ 24) {i : Nat} (hi : i < k) : ∀ (d j : Nat) (N : Int), j + d ≤ k → (zSj (zVv cf Q) k q L i d j N).natAbs ≤ N.natAbs + d * (24 * 796262400000000)
  | 0, _, N, _ => by simp [zSj]
  | d + 1, j, N, h => by
    have h1 := zSj_b hcf hQ hk3 hq hk hl hi d (j + 1) (zlN (zVv cf Q) (zmov k q i) (zmov k q j) L N) (by omega)
    have h2 := zlN_bb hcf hQ (zmov_b hk3 hq hi) (zmov_b hk3 hq (show j < k by omega)) hk hl N
    show (zSj (zVv cf Q) k q L i d (j + 1) (zlN (zVv cf Q) (zmov k q i) (zmov k q j) L N)).natAbs ≤ _
    rw [Nat.succ_mul]
    omega
theorem zSi_b {cf : Nat → Int} (hcf : ∀ t, t < 15 → (cf t).natAbs ≤ 1000) {Q : Int} (hQ : Q.natAbs ≤ 48) {k : Nat} (hk3 : k ≤ 3) {q : Int} (hq : 1 ≤ q ∧ q ≤ 12) {L : zPl} (hk : zLok L) (hl : L.length ≤ 24) : ∀ (d i : Nat) (N : Int), i + d ≤ k → (zSi (zVv cf Q) k q L d i N).natAbs ≤ N.natAbs + d * (3 * (24 * 796262400000000))
  | 0, _, N, _ => by simp [zSi]
  | d + 1, i, N, h => by
    have h1 := zSi_b hcf hQ hk3 hq hk hl d (i + 1) (zSj (zVv cf Q) k q L i k 0 N) (by omega)
    have h2 := zSj_b hcf hQ hk3 hq hk hl (show i < k by omega) k 0 N (by omega)
    have h3 := Nat.mul_le_mul_right (24 * 796262400000000) hk3
    show (zSi (zVv cf Q) k q L d (i + 1) (zSj (zVv cf Q) k q L i k 0 N)).natAbs ≤ _
    rw [Nat.succ_mul]
    omega
theorem zS_b {cf : Nat → Int} (hcf : ∀ t, t < 15 → (cf t).natAbs ≤ 1000) {k : Nat} (hk3 : 1 ≤ k ∧ k ≤ 3) {q : Int} (hq : 1 ≤ q ∧ q ≤ 12) {L : zPl} (hk : zLok L) (hl : L.length ≤ 24) : (zSi (zVv cf (k * q)) k q L k 0 0).natAbs ≤ 2 ^ 60 := by
  have hQ : ((k : Int) * q).natAbs ≤ 48 := Nat.le_trans (zmulb (A := 3) (B := 12) (by omega) (by omega)) (by decide)
  have h := zSi_b hcf hQ hk3.2 hq hk hl k 0 0 (by omega)
  have := Nat.mul_le_mul_right (3 * (24 * 796262400000000)) hk3.2
  simp at h
  omega
theorem zDk {k : Nat} (hk3 : 1 ≤ k ∧ k ≤ 3) {q W : Int} (hq : 1 ≤ q ∧ q ≤ 12) (hW : 1 ≤ W ∧ W ≤ 10000) : 0 < W * k * k * ((k : Int) * q) ^ 4 ∧ (W * k * k * ((k : Int) * q) ^ 4).natAbs ≤ 2 ^ 50 := by
  have hQ : ((k : Int) * q).natAbs ≤ 36 := zmulb (A := 3) (B := 12) (by omega) (by omega)
  have hQ4 : (((k : Int) * q) ^ 4).natAbs ≤ 36 ^ 4 := by rw [Int.natAbs_pow]; exact Nat.pow_le_pow_left hQ _
  refine ⟨Int.mul_pos (Int.mul_pos (Int.mul_pos (by omega) (by omega)) (by omega)) (Int.pow_pos (Int.mul_pos (by omega) (by omega))), Nat.le_trans (zmulb (zmulb (zmulb (A := 10000) (B := 3) (by omega) (by omega)) (B := 3) (by omega)) hQ4) (by decide)⟩
theorem zmovI (k : Nat) (q : Int) (i : Nat) : (2 * nI i + 1 - nI k) * iI q = iI (zmov k q i) := by
  unfold zmov
  rw [show (2 : Int32) = iI 2 from rfl, show (1 : Int32) = iI 1 from rfl, nI_iI, nI_iI, iI_mul, iI_add, iI_sub, iI_mul]
theorem m_cut_in {Q' : Option Value → zMm → Prop} (M0 : zMm) (dom : Nat) (q W : Int) (L : zPl) (cf : Nat → Int) (hcf : ∀ t, t < 15 → (cf t).natAbs ≤ 1000) (k : Nat) (hk3 : 1 ≤ k ∧ k ≤ 3) (i : Nat) (hi : i < k) (Nz : Int) (K : ∀ M', zRm dom q W M' L → (∀ t, t < 15 → M'.1 56 t = iI (cf t)) → (∀ j, j < 5 → M'.2 59 j = lI (((k : Int) * q) ^ j)) → zKp [57, 58, 59] [] M0 M' → yR 85 83 [(0, .ref 0), (1, .int (nI k)), (2, .long (lI Nz)), (4, .int (nI i))] [] M' Q') :
    ∀ (d j : Nat) (M : zMm) (N : Int), j + d = k → zRm dom q W M L → (∀ t, t < 15 → M.1 56 t = iI (cf t)) → (∀ j, j < 5 → M.2 59 j = lI (((k : Int) * q) ^ j)) → zSj (zVv cf (k * q)) k q L i d j N = Nz → zKp [57, 58, 59] [] M0 M → yR 85 32 [(0, .ref 0), (1, .int (nI k)), (2, .long (lI N)), (4, .int (nI i)), (5, .int (nI j))] [] M Q' := by
  intro d
  induction d using Nat.strongRecOn with
  | ind d ih =>
    intro j M N h hR hc h3 hz hE
    have hq := hR.2.2.2.2.2.2.1
    refine yR.adv 2 (pc' := 35) (lv' := [(0, .ref 0), (1, .int (nI k)), (2, .long (lI N)), (4, .int (nI i)), (5, .int (nI j))]) (st' := [.int (nI k), .int (nI j)]) (M' := M) rfl ?_
    refine yR.if2 .ge _ _ _ _ rfl (fun q1 => ?_) (fun q1 => ?_)
    · have q1' : (k : Int) ≤ j := zcT q1 (nI_toInt (by omega)) (nI_toInt (by omega))
      have hd : d = 0 := by omega
      subst hd
      have hz' : Nz = N := hz.symm
      subst hz'
      exact (K M hR hc h3 hE).drop (by refine ⟨?_, ?_⟩ <;> simp [zget, zwf])
    · have q1' : ¬ (k : Int) ≤ j := zcF q1 (nI_toInt (by omega)) (nI_toInt (by omega))
      obtain ⟨d', rfl⟩ : ∃ d', d = d' + 1 := ⟨d - 1, by omega⟩
      have bi := zmov_b hk3.2 hq hi
      have bj := zmov_b hk3.2 hq (show j < k by omega)
      refine yR.adv 24 (pc' := 72) (lv' := [(0, .ref 0), (1, .int (nI k)), (2, .long (lI N)), (4, .int (nI i)), (5, .int (nI j))]) (st' := [.int ((((2 * (nI j)) + 1) - (nI k)) * (M.1 1 1)), .int ((((2 * (nI i)) + 1) - (nI k)) * (M.1 1 1)), .ref 0, .long (lI N)]) (M' := M) rfl ?_
      rw [hR.2.2.2.1, zmovI, zmovI]
      refine yR.call _ rfl rfl rfl rfl rfl (m_sumMoved M dom q W L hR cf hcf hc (k * q) (zmov k q i) (zmov k q j) (by omega) (by omega) h3) (fun r1 M1 hq => ?_)
      obtain ⟨rfl, e1⟩ := hq
      show yR 85 75 [(0, .ref 0), (1, .int (nI k)), (2, .long (lI N)), (4, .int (nI i)), (5, .int (nI j))] [.long (lI (zlN (zVv cf (k * q)) (zmov k q i) (zmov k q j) L 0)), .long (lI N)] M1 _
      refine yR.adv 4 (pc' := 32) (lv' := [(5, .int (nI j + 1)), (2, .long ((lI N) + (lI (zlN (zVv cf (k * q)) (zmov k q i) (zmov k q j) L 0)))), (0, .ref 0), (1, .int (nI k)), (4, .int (nI i))]) (st' := []) (M' := M1) rfl ?_
      rw [lI_add, ← zlN_acc]
      exact (ih d' (by omega) (j + 1) M1 _ (by omega) (hR.keep (fun a i z1 z2 => (e1 a i (by simp <;> omega) (by simp)).1)) (fun t ht => by rw [(e1 56 t (by decide) (by simp)).1]; exact hc t ht) (fun j hj => by rw [(e1 59 j (by decide) (by simp)).2]; exact h3 j hj) hz (hE.trans (e1.sub (by decide)))).drop (by refine ⟨?_, ?_⟩ <;> simp [zget, zwf, nI_succ])
theorem m_cut_out {Q' : Option Value → zMm → Prop} (M0 : zMm) (dom : Nat) (q W : Int) (L : zPl) (cf : Nat → Int) (hcf : ∀ t, t < 15 → (cf t).natAbs ≤ 1000) (k : Nat) (hk3 : 1 ≤ k ∧ k ≤ 3) (Nz : Int) (K : ∀ M', zRm dom q W M' L → (∀ j, j < 5 → M'.2 59 j = lI (((k : Int) * q) ^ j)) → zKp [57, 58, 59] [] M0 M' → yR 85 89 [(0, .ref 0), (1, .int (nI k)), (2, .long (lI Nz))] [] M' Q') :
    ∀ (d i : Nat) (M : zMm) (N : Int), i + d = k → zRm dom q W M L → (∀ t, t < 15 → M.1 56 t = iI (cf t)) → (∀ j, j < 5 → M.2 59 j = lI (((k : Int) * q) ^ j)) → zSi (zVv cf (k * q)) k q L d i N = Nz → zKp [57, 58, 59] [] M0 M → yR 85 23 [(0, .ref 0), (1, .int (nI k)), (2, .long (lI N)), (4, .int (nI i))] [] M Q' := by
  intro d
  induction d using Nat.strongRecOn with
  | ind d ih =>
    intro i M N h hR hc h3 hz hE
    refine yR.adv 2 (pc' := 26) (lv' := [(0, .ref 0), (1, .int (nI k)), (2, .long (lI N)), (4, .int (nI i))]) (st' := [.int (nI k), .int (nI i)]) (M' := M) rfl ?_
    refine yR.if2 .ge _ _ _ _ rfl (fun q1 => ?_) (fun q1 => ?_)
    · have q1' : (k : Int) ≤ i := zcT q1 (nI_toInt (by omega)) (nI_toInt (by omega))
      have hd : d = 0 := by omega
      subst hd
      have hz' : Nz = N := hz.symm
      subst hz'
      exact (K M hR h3 hE).drop (by refine ⟨?_, ?_⟩ <;> simp [zget, zwf])
    · have q1' : ¬ (k : Int) ≤ i := zcF q1 (nI_toInt (by omega)) (nI_toInt (by omega))
      obtain ⟨d', rfl⟩ : ∃ d', d = d' + 1 := ⟨d - 1, by omega⟩
      refine yR.adv 2 (pc' := 32) (lv' := [(5, .int 0), (0, .ref 0), (1, .int (nI k)), (2, .long (lI N)), (4, .int (nI i))]) (st' := []) (M' := M) rfl ?_
      refine yR.drop (lv := [(0, .ref 0), (1, .int (nI k)), (2, .long (lI N)), (4, .int (nI i)), (5, .int (nI 0))]) (by refine ⟨?_, ?_⟩ <;> simp [zget, zwf] <;> rfl) ?_
      refine m_cut_in M0 dom q W L cf hcf k hk3 i (by omega) _ (fun M' hR' hc' h3' hE' => ?_) k 0 M N (Nat.zero_add _) hR hc h3 rfl hE
      refine yR.adv 2 (pc' := 23) (lv' := [(4, .int (nI i + 1)), (0, .ref 0), (1, .int (nI k)), (2, .long (lI (zSj (zVv cf (k * q)) k q L i k 0 N)))]) (st' := []) (M' := M') rfl ?_
      exact (ih d' (by omega) (i + 1) M' _ (by omega) hR' hc' h3' hz hE').drop (by refine ⟨?_, ?_⟩ <;> simp [zget, zwf, nI_succ])
/-- the answer: the sum, its lower number -/
def zbyS (cf : Nat → Int) (k : Nat) (q : Int) (L : zPl) : Int64 := lI (zSi (zVv cf (k * q)) k q L k 0 0)
def zbyD (k : Nat) (q W : Int) : Int64 := lI (W * k * k * ((k : Int) * q) ^ 4)
theorem m_cut (M : zMm) (dom : Nat) (q W : Int) (L : zPl) (hR : zRm dom q W M L) (cf : Nat → Int) (hcf : ∀ t, t < 15 → (cf t).natAbs ≤ 1000) (hc : ∀ t, t < 15 → M.1 56 t = iI (cf t)) (k : Nat) (hk3 : 1 ≤ k ∧ k ≤ 3) :
    yR 85 0 [(0, .ref 0), (1, .int (nI k))] [] M (fun r N => r = none ∧ N.2 52 0 = zfu (zbyS cf k q L) (zbyD k q W) ∧ N.2 52 1 = zfd (zbyS cf k q L) (zbyD k q W) ∧ zKp [52, 57, 58, 59] [] M N) := by
  obtain ⟨_, hk, _, hq, hW, hdom, bq, bW⟩ := id hR
  have hQ : ((k : Int) * q).natAbs ≤ 36 := zmulb (A := 3) (B := 12) (by omega) (by omega)
  refine yR.adv 9 (pc' := 15) (lv' := [(0, .ref 0), (1, .int (nI k))]) (st' := [.ref 59, .long (((nI k).toInt64) * ((M.1 1 1).toInt64))]) (M' := M) rfl ?_
  rw [hq, nI_iI k, iI_l (by omega), iI_l (by omega), lI_mul, ← nI_iI k]
  refine yR.call _ rfl rfl rfl rfl rfl (m_fillP_59 M (lI (k * q))) (fun r1 M1 hq => ?_)
  obtain ⟨rfl, f1, e1⟩ := hq
  show yR 85 18 [(0, .ref 0), (1, .int (nI k))] [] M1 _
  have E1 : zKp [57, 58, 59] [] M M1 := e1.sub (by decide)
  refine yR.adv 4 (pc' := 23) (lv' := [(4, .int 0), (2, .long 0), (0, .ref 0), (1, .int (nI k))]) (st' := []) (M' := M1) rfl ?_
  refine yR.drop (lv := [(0, .ref 0), (1, .int (nI k)), (2, .long (lI 0)), (4, .int (nI 0))]) (by refine ⟨?_, ?_⟩ <;> simp [zget, zwf] <;> exact ⟨rfl, rfl⟩) ?_
  refine m_cut_out M dom q W L cf hcf k hk3 (zSi (zVv cf (k * q)) k q L k 0 0) (fun M2 R2 h2 e2 => ?_) k 0 M1 0 (Nat.zero_add _) (hR.keep (fun a i z1 z2 => (e1 a i (by simp <;> omega) (by simp)).1)) (fun t ht => by rw [(e1 56 t (by decide) (by simp)).1]; exact hc t ht) (fun j hj => by rw [f1 j hj, zpw_lI]) rfl E1
  have sb := zS_b hcf hk3 bq hk hR.1.2.1
  have db := zDk hk3 bq bW
  have tS : (zbyS cf k q L).toInt = zSi (zVv cf (k * q)) k q L k 0 0 := lI_toInt (by omega)
  have tD : (zbyD k q W).toInt = W * k * k * ((k : Int) * q) ^ 4 := lI_toInt (by omega)
  refine yR.adv 18 (pc' := 115) (lv' := [(0, .ref 0), (1, .int (nI k)), (2, .long (lI (zSi (zVv cf (k * q)) k q L k 0 0)))]) (st' := [.long (((((M2.1 1 2).toInt64) * ((nI k).toInt64)) * ((nI k).toInt64)) * (M2.2 59 4)), .long (lI (zSi (zVv cf (k * q)) k q L k 0 0)), .ref 52]) (M' := M2) rfl ?_
  rw [R2.2.2.2.2.1, h2 4 (by omega), nI_iI k, iI_l (by omega), iI_l (by omega), lI_mul, lI_mul, lI_mul, ← nI_iI k]
  show yR 85 115 [(0, .ref 0), (1, .int (nI k)), (2, .long (lI (zSi (zVv cf (k * q)) k q L k 0 0)))] [.long (zbyD k q W), .long (zbyS cf k q L), .ref 52] M2 _
  refine yR.callK (M1 := zupL (zupL M2 52 0 (zfu (zbyS cf k q L) (zbyD k q W))) 52 1 (zfd (zbyS cf k q L) (zbyD k q W))) _ rfl rfl rfl rfl rfl (m_become_52 M2 (zbyS cf k q L) (zbyD k q W) (by rw [tS]; omega) (by rw [tD]; exact db.1)) ?_
  show yR 85 118 [(0, .ref 0), (1, .int (nI k)), (2, .long (lI (zSi (zVv cf (k * q)) k q L k 0 0)))] [] (zupL (zupL M2 52 0 (zfu (zbyS cf k q L) (zbyD k q W))) 52 1 (zfd (zbyS cf k q L) (zbyD k q W))) _
  refine yR.ret _ rfl rfl rfl ?_
  refine ⟨rfl, by simp [zupL_l], by simp [zupL_l], ((e2.sub (by decide)).upL (by simp)).upL (by simp)⟩
def zbyok (dom : Nat) (k w : Int32) : Prop := (1 ≤ k.toInt ∧ k.toInt ≤ 3) ∧ (w = 0 ∨ w = 1) ∧ (k.toInt ≤ 1 ∨ dom = 0)
theorem m_byRule_no (M : zMm) (dom : Nat) (hdom : dom < 3) (hd : M.1 1 0 = nI dom) (k w : Int32) (h : ¬ zbyok dom k w) : yOk 56 0 [(0, .ref 0), (1, .int k), (2, .int w)] [] M (some (.long zlost)) M := by
  refine yR.ok ?_
  obtain ⟨v1, h1⟩ := zem (1 ≤ k.toInt ∧ k.toInt ≤ 3)
  obtain ⟨v2, h2⟩ := zem (0 ≤ w.toInt ∧ w.toInt ≤ 1)
  refine yR.adv 3 (pc' := 3) (lv' := [(0, .ref 0), (1, .int k), (2, .int w)]) (st' := [.int 3, .int 1, .int k]) (M' := M) rfl ?_
  refine yR.callK (M1 := M) _ rfl rfl rfl rfl rfl (m_fromV M k 1 3 1 3 rfl rfl v1 h1) ?_
  show yR 56 6 [(0, .ref 0), (1, .int k), (2, .int w)] [.int v1] M _
  refine yR.if1 .eq _ _ _ _ rfl (fun q1 => ?_) (fun q1 => ?_)
  · refine yR.adv 1 (pc' := 21) (lv' := [(0, .ref 0), (1, .int k), (2, .int w)]) (st' := [.long (-9223372036854775808)]) (M' := M) rfl ?_
    refine yR.ret _ rfl rfl rfl ?_
    exact ⟨rfl, rfl⟩
  · refine yR.adv 3 (pc' := 12) (lv' := [(0, .ref 0), (1, .int k), (2, .int w)]) (st' := [.int 1, .int 0, .int w]) (M' := M) rfl ?_
    refine yR.callK (M1 := M) _ rfl rfl rfl rfl rfl (m_fromV M w 0 1 0 1 rfl rfl v2 h2) ?_
    show yR 56 15 [(0, .ref 0), (1, .int k), (2, .int w)] [.int v2] M _
    refine yR.if1 .ne _ _ _ _ rfl (fun q2 => ?_) (fun q2 => ?_)
    · refine yR.adv 2 (pc' := 24) (lv' := [(0, .ref 0), (1, .int k), (2, .int w)]) (st' := [.int 1, .int k]) (M' := M) rfl ?_
      refine yR.if2 .le _ _ _ _ rfl (fun q3 => ?_) (fun q3 => ?_)
      · exact absurd ⟨zeq1 h1 q1, (zwh w).mp (zne0 h2 q2), Or.inl (zcT q3 rfl rfl)⟩ h
      · refine yR.adv 3 (pc' := 34) (lv' := [(0, .ref 0), (1, .int k), (2, .int w)]) (st' := [.int (M.1 1 0)]) (M' := M) rfl ?_
        rw [hd]
        refine yR.if1 .eq _ _ _ _ rfl (fun q4 => ?_) (fun q4 => ?_)
        · have q4' : (dom : Int) = 0 := zcT q4 (nI_toInt (by omega)) rfl
          exact absurd ⟨zeq1 h1 q1, (zwh w).mp (zne0 h2 q2), Or.inr (by omega)⟩ h
        · refine yR.adv 1 (pc' := 40) (lv' := [(0, .ref 0), (1, .int k), (2, .int w)]) (st' := [.long (-9223372036854775808)]) (M' := M) rfl ?_
          refine yR.ret _ rfl rfl rfl ?_
          exact ⟨rfl, rfl⟩
    · refine yR.adv 1 (pc' := 21) (lv' := [(0, .ref 0), (1, .int k), (2, .int w)]) (st' := [.long (-9223372036854775808)]) (M' := M) rfl ?_
      refine yR.ret _ rfl rfl rfl ?_
      exact ⟨rfl, rfl⟩
def zbyV (cf : Nat → Int) (k : Nat) (q W : Int) (L : zPl) (w : Int32) : Int64 := if w = 0 then zfu (zbyS cf k q L) (zbyD k q W) else zfd (zbyS cf k q L) (zbyD k q W)
theorem m_byRule (M : zMm) (dom : Nat) (q W : Int) (L : zPl) (hR : zRm dom q W M L) (cf : Nat → Int) (hcf : ∀ t, t < 15 → (cf t).natAbs ≤ 1000) (hc : ∀ t, t < 15 → M.1 56 t = iI (cf t)) (k : Nat) (w : Int32) (hok : zbyok dom (nI k) w) (hk3 : 1 ≤ k ∧ k ≤ 3) :
    yR 56 0 [(0, .ref 0), (1, .int (nI k)), (2, .int w)] [] M (fun r N => r = some (.long (zbyV cf k q W L w)) ∧ zKp [52, 57, 58, 59] [] M N) := by
  have go : yR 56 41 [(0, .ref 0), (1, .int (nI k)), (2, .int w)] [] M (fun r N => r = some (.long (zbyV cf k q W L w)) ∧ zKp [52, 57, 58, 59] [] M N) := by
    refine yR.adv 2 (pc' := 43) (lv' := [(0, .ref 0), (1, .int (nI k)), (2, .int w)]) (st' := [.int (nI k), .ref 0]) (M' := M) rfl ?_
    refine yR.call _ rfl rfl rfl rfl rfl (m_cut M dom q W L hR cf hcf hc k hk3) (fun r1 M1 hq => ?_)
    obtain ⟨rfl, a1, a2, e1⟩ := hq
    show yR 56 46 [(0, .ref 0), (1, .int (nI k)), (2, .int w)] [] M1 _
    refine yR.adv 3 (pc' := 51) (lv' := [(0, .ref 0), (1, .int (nI k)), (2, .int w)]) (st' := [.int w, .ref 52]) (M' := M1) rfl ?_
    refine yR.callK (M1 := M1) _ rfl rfl rfl rfl rfl (m_showing_52 M1 w) ?_
    show yR 56 54 [(0, .ref 0), (1, .int (nI k)), (2, .int w)] [.long (if w = 0 then M1.2 52 0 else M1.2 52 1)] M1 _
    rw [a1, a2]
    refine yR.ret _ rfl rfl rfl ?_
    exact ⟨rfl, e1⟩
  refine yR.adv 3 (pc' := 3) (lv' := [(0, .ref 0), (1, .int (nI k)), (2, .int w)]) (st' := [.int 3, .int 1, .int (nI k)]) (M' := M) rfl ?_
  refine yR.callK (M1 := M) _ rfl rfl rfl rfl rfl (m_fromV M (nI k) 1 3 1 3 rfl rfl 1 (Or.inl ⟨hok.1, rfl⟩)) ?_
  show yR 56 6 [(0, .ref 0), (1, .int (nI k)), (2, .int w)] [.int 1] M _
  refine yR.if1 .eq _ _ _ _ rfl (fun q1 => ?_) (fun q1 => ?_)
  · exact absurd q1 (by decide)
  · refine yR.adv 3 (pc' := 12) (lv' := [(0, .ref 0), (1, .int (nI k)), (2, .int w)]) (st' := [.int 1, .int 0, .int w]) (M' := M) rfl ?_
    refine yR.callK (M1 := M) _ rfl rfl rfl rfl rfl (m_fromV M w 0 1 0 1 rfl rfl 1 (Or.inl ⟨(zwh w).mpr hok.2.1, rfl⟩)) ?_
    show yR 56 15 [(0, .ref 0), (1, .int (nI k)), (2, .int w)] [.int 1] M _
    refine yR.if1 .ne _ _ _ _ rfl (fun q2 => ?_) (fun q2 => ?_)
    · refine yR.adv 2 (pc' := 24) (lv' := [(0, .ref 0), (1, .int (nI k)), (2, .int w)]) (st' := [.int 1, .int (nI k)]) (M' := M) rfl ?_
      refine yR.if2 .le _ _ _ _ rfl (fun q3 => ?_) (fun q3 => ?_)
      · exact go
      · have q3' : ¬ (nI k).toInt ≤ 1 := zcF q3 rfl rfl
        refine yR.adv 3 (pc' := 34) (lv' := [(0, .ref 0), (1, .int (nI k)), (2, .int w)]) (st' := [.int (M.1 1 0)]) (M' := M) rfl ?_
        rw [hR.2.2.1, hok.2.2.resolve_left q3']
        refine yR.if1 .eq _ _ _ _ rfl (fun q4 => ?_) (fun q4 => ?_)
        · exact go
        · exact absurd q4 (by decide)
    · exact absurd q2 (by decide)
-- the reference
theorem r_by_p {Q' : Option Value → zMm → Prop} (M : zMm) (dom : Nat) (q W : Int) (L : zPl) (hR : zRr dom q W M L) (cf : Nat → Int) (hcf : ∀ t, t < 15 → (cf t).natAbs ≤ 1000) (hc : ∀ t, t < 15 → M.1 117 t = iI (cf t)) (k : Nat) (hk3 : 1 ≤ k ∧ k ≤ 3) (w : Int32) (i j : Nat) (hi : i < k) (hj : j < k) (Nz : Int) (K : yR 152 148 [(0, .ref 93), (1, .int (nI k)), (2, .int w), (3, .long (lI Nz)), (5, .int (nI i)), (6, .int (nI j))] [] M Q') :
    ∀ (d p : Nat) (N : Int), p + d = L.length → zlN (zVv cf (k * q)) (zmov k q i) (zmov k q j) (L.drop p) N = Nz → yR 152 58 [(0, .ref 93), (1, .int (nI k)), (2, .int w), (3, .long (lI N)), (5, .int (nI i)), (6, .int (nI j)), (7, .int (nI p))] [] M Q' := by
  obtain ⟨hU, hk, hd, hq, hW, hdom, bq, bW⟩ := id hR
  have hL24 := hU.2.1
  have bi := zmov_b hk3.2 bq hi
  have bj := zmov_b hk3.2 bq hj
  have hQ : ((k : Int) * q).natAbs ≤ 36 := zmulb (A := 3) (B := 12) (by omega) (by omega)
  intro d
  induction d using Nat.strongRecOn with
  | ind d ih =>
    intro p N h hz
    refine yR.adv 3 (pc' := 64) (lv' := [(0, .ref 93), (1, .int (nI k)), (2, .int w), (3, .long (lI N)), (5, .int (nI i)), (6, .int (nI j)), (7, .int (nI p))]) (st' := [.int (M.1 93 7), .int (nI p)]) (M' := M) rfl ?_
    rw [hU.1]
    refine yR.if2 .ge _ _ _ _ rfl (fun q1 => ?_) (fun q1 => ?_)
    · have q1' : (L.length : Int) ≤ p := zcT q1 (nI_toInt (by omega)) (nI_toInt (by omega))
      rw [List.drop_eq_nil_of_le (by omega)] at hz
      have hz' : Nz = N := hz.symm
      subst hz'
      exact K.drop (by refine ⟨?_, ?_⟩ <;> simp [zget, zwf])
    · have q1' : ¬ (L.length : Int) ≤ p := zcF q1 (nI_toInt (by omega)) (nI_toInt (by omega))
      have hg := List.getElem?_eq_getElem (show p < L.length by omega)
      generalize hee : L[p] = e at hg
      obtain ⟨g1, g2, g3⟩ := hU.2.2 p e hg
      obtain ⟨k1, k2, k3⟩ := hk e (List.mem_of_getElem? hg)
      unfold zgr at k1 k2
      rw [zldrop hg] at hz
      have hz2 : zlN (zVv cf (k * q)) (zmov k q i) (zmov k q j) (L.drop (p + 1)) (N + e.2.toInt * zVv cf (k * q) (e.1.1.toInt + zmov k q i) (e.1.2.toInt + zmov k q j)) = Nz := hz
      refine yR.adv 3 (pc' := 73) (lv' := [(0, .ref 93), (1, .int (nI k)), (2, .int w), (3, .long (lI N)), (5, .int (nI i)), (6, .int (nI j)), (7, .int (nI p))]) (st' := [.int (nI p), .ref 94]) (M' := M) rfl ?_
      refine yR.iald p _ _ _ rfl rfl (by decide) (rfl) (by omega) ?_
      rw [g1]
      refine yR.adv 16 (pc' := 97) (lv' := [(8, .long ((e.1.1 + ((M.1 93 5) * (((2 * (nI i)) + 1) - (nI k)))).toInt64)), (0, .ref 93), (1, .int (nI k)), (2, .int w), (3, .long (lI N)), (5, .int (nI i)), (6, .int (nI j)), (7, .int (nI p))]) (st' := [.int (nI p), .ref 95]) (M' := M) rfl ?_
      rw [hq]
      have x1 : (e.1.1 + iI q * (2 * nI i + 1 - nI k)).toInt64 = lI (e.1.1.toInt + zmov k q i) := by rw [Int32.mul_comm (iI q), zmovI, ← iI_of e.1.1, iI_add, iI_of, iI_l (by omega)]
      rw [x1]
      show yR 152 97 [(8, .long (lI (e.1.1.toInt + zmov k q i))), (0, .ref 93), (1, .int (nI k)), (2, .int w), (3, .long (lI N)), (5, .int (nI i)), (6, .int (nI j)), (7, .int (nI p))] [.int (nI p), .ref 95] M _
      refine yR.iald p _ _ _ rfl rfl (by decide) (rfl) (by omega) ?_
      rw [g2]
      refine yR.adv 17 (pc' := 122) (lv' := [(10, .long ((e.1.2 + ((M.1 93 5) * (((2 * (nI j)) + 1) - (nI k)))).toInt64)), (8, .long (lI (e.1.1.toInt + zmov k q i))), (0, .ref 93), (1, .int (nI k)), (2, .int w), (3, .long (lI N)), (5, .int (nI i)), (6, .int (nI j)), (7, .int (nI p))]) (st' := [.int (nI p), .ref 96, .long (lI N)]) (M' := M) rfl ?_
      rw [hq]
      have x2 : (e.1.2 + iI q * (2 * nI j + 1 - nI k)).toInt64 = lI (e.1.2.toInt + zmov k q j) := by rw [Int32.mul_comm (iI q), zmovI, ← iI_of e.1.2, iI_add, iI_of, iI_l (by omega)]
      rw [x2]
      show yR 152 122 [(10, .long (lI (e.1.2.toInt + zmov k q j))), (8, .long (lI (e.1.1.toInt + zmov k q i))), (0, .ref 93), (1, .int (nI k)), (2, .int w), (3, .long (lI N)), (5, .int (nI i)), (6, .int (nI j)), (7, .int (nI p))] [.int (nI p), .ref 96, .long (lI N)] M _
      refine yR.iald p _ _ _ rfl rfl (by decide) (rfl) (by omega) ?_
      rw [g3]
      refine yR.adv 9 (pc' := 136) (lv' := [(10, .long (lI (e.1.2.toInt + zmov k q j))), (8, .long (lI (e.1.1.toInt + zmov k q i))), (0, .ref 93), (1, .int (nI k)), (2, .int w), (3, .long (lI N)), (5, .int (nI i)), (6, .int (nI j)), (7, .int (nI p))]) (st' := [.long (((M.1 93 5) * (nI k)).toInt64), .long (lI (e.1.2.toInt + zmov k q j)), .long (lI (e.1.1.toInt + zmov k q i)), .ref 93, .long e.2.toInt64, .long (lI N)]) (M' := M) rfl ?_
      rw [hq]
      have x3 : (iI q * nI k).toInt64 = lI (k * q) := by rw [nI_iI, iI_mul, Int.mul_comm, iI_l (by omega)]
      rw [x3]
      refine yR.callK (M1 := M) _ rfl rfl rfl rfl rfl (r_valueAt M cf hcf hc (k * q) (e.1.1.toInt + zmov k q i) (e.1.2.toInt + zmov k q j)) ?_
      show yR 152 139 [(10, .long (lI (e.1.2.toInt + zmov k q j))), (8, .long (lI (e.1.1.toInt + zmov k q i))), (0, .ref 93), (1, .int (nI k)), (2, .int w), (3, .long (lI N)), (5, .int (nI i)), (6, .int (nI j)), (7, .int (nI p))] [.long (lI (zVv cf (k * q) (e.1.1.toInt + zmov k q i) (e.1.2.toInt + zmov k q j))), .long e.2.toInt64, .long (lI N)] M _
      refine yR.adv 5 (pc' := 58) (lv' := [(7, .int (nI p + 1)), (3, .long ((lI N) + (e.2.toInt64 * (lI (zVv cf (k * q) (e.1.1.toInt + zmov k q i) (e.1.2.toInt + zmov k q j)))))), (10, .long (lI (e.1.2.toInt + zmov k q j))), (8, .long (lI (e.1.1.toInt + zmov k q i))), (0, .ref 93), (1, .int (nI k)), (2, .int w), (5, .int (nI i)), (6, .int (nI j))]) (st' := []) (M' := M) rfl ?_
      rw [show e.2.toInt64 = lI e.2.toInt from by rw [← iI_of e.2, iI_l (by unfold zwr at k3; omega), iI_of], lI_mul, lI_add]
      exact (ih (d - 1) (by omega) (p + 1) _ (by omega) hz2).drop (by refine ⟨?_, ?_⟩ <;> simp [zget, zwf, nI_succ])
theorem r_by_in {Q' : Option Value → zMm → Prop} (M : zMm) (dom : Nat) (q W : Int) (L : zPl) (hR : zRr dom q W M L) (cf : Nat → Int) (hcf : ∀ t, t < 15 → (cf t).natAbs ≤ 1000) (hc : ∀ t, t < 15 → M.1 117 t = iI (cf t)) (k : Nat) (hk3 : 1 ≤ k ∧ k ≤ 3) (w : Int32) (i : Nat) (hi : i < k) (Nz : Int) (K : yR 152 154 [(0, .ref 93), (1, .int (nI k)), (2, .int w), (3, .long (lI Nz)), (5, .int (nI i))] [] M Q') :
    ∀ (d j : Nat) (N : Int), j + d = k → zSj (zVv cf (k * q)) k q L i d j N = Nz → yR 152 49 [(0, .ref 93), (1, .int (nI k)), (2, .int w), (3, .long (lI N)), (5, .int (nI i)), (6, .int (nI j))] [] M Q' := by
  intro d
  induction d using Nat.strongRecOn with
  | ind d ih =>
    intro j N h hz
    refine yR.adv 2 (pc' := 52) (lv' := [(0, .ref 93), (1, .int (nI k)), (2, .int w), (3, .long (lI N)), (5, .int (nI i)), (6, .int (nI j))]) (st' := [.int (nI k), .int (nI j)]) (M' := M) rfl ?_
    refine yR.if2 .ge _ _ _ _ rfl (fun q1 => ?_) (fun q1 => ?_)
    · have q1' : (k : Int) ≤ j := zcT q1 (nI_toInt (by omega)) (nI_toInt (by omega))
      have hd : d = 0 := by omega
      subst hd
      have hz' : Nz = N := hz.symm
      subst hz'
      exact K.drop (by refine ⟨?_, ?_⟩ <;> simp [zget, zwf])
    · have q1' : ¬ (k : Int) ≤ j := zcF q1 (nI_toInt (by omega)) (nI_toInt (by omega))
      obtain ⟨d', rfl⟩ : ∃ d', d = d' + 1 := ⟨d - 1, by omega⟩
      refine yR.adv 2 (pc' := 58) (lv' := [(7, .int 0), (0, .ref 93), (1, .int (nI k)), (2, .int w), (3, .long (lI N)), (5, .int (nI i)), (6, .int (nI j))]) (st' := []) (M' := M) rfl ?_
      refine yR.drop (lv := [(0, .ref 93), (1, .int (nI k)), (2, .int w), (3, .long (lI N)), (5, .int (nI i)), (6, .int (nI j)), (7, .int (nI 0))]) (by refine ⟨?_, ?_⟩ <;> simp [zget, zwf] <;> rfl) ?_
      refine r_by_p M dom q W L hR cf hcf hc k hk3 w i j hi (by omega) _ ?_ L.length 0 N (Nat.zero_add _) rfl
      rw [List.drop_zero]
      refine yR.adv 2 (pc' := 49) (lv' := [(6, .int (nI j + 1)), (0, .ref 93), (1, .int (nI k)), (2, .int w), (3, .long (lI (zlN (zVv cf (k * q)) (zmov k q i) (zmov k q j) L N))), (5, .int (nI i))]) (st' := []) (M' := M) rfl ?_
      exact (ih d' (by omega) (j + 1) _ (by omega) hz).drop (by refine ⟨?_, ?_⟩ <;> simp [zget, zwf, nI_succ])
theorem r_by_out {Q' : Option Value → zMm → Prop} (M : zMm) (dom : Nat) (q W : Int) (L : zPl) (hR : zRr dom q W M L) (cf : Nat → Int) (hcf : ∀ t, t < 15 → (cf t).natAbs ≤ 1000) (hc : ∀ t, t < 15 → M.1 117 t = iI (cf t)) (k : Nat) (hk3 : 1 ≤ k ∧ k ≤ 3) (w : Int32) (Nz : Int) (K : yR 152 160 [(0, .ref 93), (1, .int (nI k)), (2, .int w), (3, .long (lI Nz))] [] M Q') :
    ∀ (d i : Nat) (N : Int), i + d = k → zSi (zVv cf (k * q)) k q L d i N = Nz → yR 152 40 [(0, .ref 93), (1, .int (nI k)), (2, .int w), (3, .long (lI N)), (5, .int (nI i))] [] M Q' := by
  intro d
  induction d using Nat.strongRecOn with
  | ind d ih =>
    intro i N h hz
    refine yR.adv 2 (pc' := 43) (lv' := [(0, .ref 93), (1, .int (nI k)), (2, .int w), (3, .long (lI N)), (5, .int (nI i))]) (st' := [.int (nI k), .int (nI i)]) (M' := M) rfl ?_
    refine yR.if2 .ge _ _ _ _ rfl (fun q1 => ?_) (fun q1 => ?_)
    · have q1' : (k : Int) ≤ i := zcT q1 (nI_toInt (by omega)) (nI_toInt (by omega))
      have hd : d = 0 := by omega
      subst hd
      have hz' : Nz = N := hz.symm
      subst hz'
      exact K.drop (by refine ⟨?_, ?_⟩ <;> simp [zget, zwf])
    · have q1' : ¬ (k : Int) ≤ i := zcF q1 (nI_toInt (by omega)) (nI_toInt (by omega))
      obtain ⟨d', rfl⟩ : ∃ d', d = d' + 1 := ⟨d - 1, by omega⟩
      refine yR.adv 2 (pc' := 49) (lv' := [(6, .int 0), (0, .ref 93), (1, .int (nI k)), (2, .int w), (3, .long (lI N)), (5, .int (nI i))]) (st' := []) (M' := M) rfl ?_
      refine yR.drop (lv := [(0, .ref 93), (1, .int (nI k)), (2, .int w), (3, .long (lI N)), (5, .int (nI i)), (6, .int (nI 0))]) (by refine ⟨?_, ?_⟩ <;> simp [zget, zwf] <;> rfl) ?_
      refine r_by_in M dom q W L hR cf hcf hc k hk3 w i (by omega) _ ?_ k 0 N (Nat.zero_add _) rfl
      refine yR.adv 2 (pc' := 40) (lv' := [(5, .int (nI i + 1)), (0, .ref 93), (1, .int (nI k)), (2, .int w), (3, .long (lI (zSj (zVv cf (k * q)) k q L i k 0 N)))]) (st' := []) (M' := M) rfl ?_
      exact (ih d' (by omega) (i + 1) _ (by omega) hz).drop (by refine ⟨?_, ?_⟩ <;> simp [zget, zwf, nI_succ])
theorem r_byRule_no (M : zMm) (dom : Nat) (hdom : dom < 3) (hd : M.1 93 4 = nI dom) (k w : Int32) (h : ¬ zbyok dom k w) : yOk 152 0 [(0, .ref 93), (1, .int k), (2, .int w)] [] M (some (.long zlost)) M := by
  refine yR.ok ?_
  have tk : k.toInt64.toInt = k.toInt := Int32.toInt_toInt64 k
  obtain ⟨v1, h1⟩ := zem (1 ≤ k.toInt64.toInt ∧ k.toInt64.toInt ≤ 3)
  obtain ⟨v2, h2⟩ := zem (w = 0 ∨ w = 1)
  refine yR.adv 4 (pc' := 6) (lv' := [(0, .ref 93), (1, .int k), (2, .int w)]) (st' := [.long 3, .long 1, .long k.toInt64]) (M' := M) rfl ?_
  refine yR.callK (M1 := M) _ rfl rfl rfl rfl rfl (r_withinV M k.toInt64 1 3 1 3 rfl rfl v1 h1) ?_
  show yR 152 9 [(0, .ref 93), (1, .int k), (2, .int w)] [.int v1] M _
  refine yR.if1 .eq _ _ _ _ rfl (fun q1 => ?_) (fun q1 => ?_)
  · refine yR.adv 1 (pc' := 34) (lv' := [(0, .ref 93), (1, .int k), (2, .int w)]) (st' := [.long (-9223372036854775808)]) (M' := M) rfl ?_
    refine yR.ret _ rfl rfl rfl ?_
    exact ⟨rfl, rfl⟩
  · have z1 := zeq1 h1 q1
    rw [tk] at z1
    refine yR.adv 1 (pc' := 13) (lv' := [(0, .ref 93), (1, .int k), (2, .int w)]) (st' := [.int w]) (M' := M) rfl ?_
    refine yR.callK (M1 := M) _ rfl rfl rfl rfl rfl (r_isWhich M w v2 h2) ?_
    show yR 152 16 [(0, .ref 93), (1, .int k), (2, .int w)] [.int v2] M _
    refine yR.if1 .eq _ _ _ _ rfl (fun q2 => ?_) (fun q2 => ?_)
    · refine yR.adv 1 (pc' := 34) (lv' := [(0, .ref 93), (1, .int k), (2, .int w)]) (st' := [.long (-9223372036854775808)]) (M' := M) rfl ?_
      refine yR.ret _ rfl rfl rfl ?_
      exact ⟨rfl, rfl⟩
    · refine yR.adv 2 (pc' := 21) (lv' := [(0, .ref 93), (1, .int k), (2, .int w)]) (st' := [.int 1, .int k]) (M' := M) rfl ?_
      refine yR.if2 .le _ _ _ _ rfl (fun q3 => ?_) (fun q3 => ?_)
      · exact absurd ⟨z1, zeq1 h2 q2, Or.inl (zcT q3 rfl rfl)⟩ h
      · refine yR.adv 2 (pc' := 28) (lv' := [(0, .ref 93), (1, .int k), (2, .int w)]) (st' := [.int (M.1 93 4)]) (M' := M) rfl ?_
        rw [hd]
        refine yR.if1 .eq _ _ _ _ rfl (fun q4 => ?_) (fun q4 => ?_)
        · have q4' : (dom : Int) = 0 := zcT q4 (nI_toInt (by omega)) rfl
          exact absurd ⟨z1, zeq1 h2 q2, Or.inr (by omega)⟩ h
        · refine yR.adv 1 (pc' := 34) (lv' := [(0, .ref 93), (1, .int k), (2, .int w)]) (st' := [.long (-9223372036854775808)]) (M' := M) rfl ?_
          refine yR.ret _ rfl rfl rfl ?_
          exact ⟨rfl, rfl⟩
theorem r_byRule (M : zMm) (dom : Nat) (q W : Int) (L : zPl) (hR : zRr dom q W M L) (cf : Nat → Int) (hcf : ∀ t, t < 15 → (cf t).natAbs ≤ 1000) (hc : ∀ t, t < 15 → M.1 117 t = iI (cf t)) (k : Nat) (w : Int32) (hok : zbyok dom (nI k) w) (hk3 : 1 ≤ k ∧ k ≤ 3) :
    yR 152 0 [(0, .ref 93), (1, .int (nI k)), (2, .int w)] [] M (fun r N => r = some (.long (zbyV cf k q W L w)) ∧ zKp [] [(93, 2), (93, 3)] M N) := by
  obtain ⟨hU, hk, hd, hq, hW, hdom, bq, bW⟩ := id hR
  have sb := zS_b hcf hk3 bq hk hU.2.1
  have db := zDk hk3 bq bW
  have tS : (zbyS cf k q L).toInt = zSi (zVv cf (k * q)) k q L k 0 0 := lI_toInt (by omega)
  have tD : (zbyD k q W).toInt = W * k * k * ((k : Int) * q) ^ 4 := lI_toInt (by omega)
  have hQ : ((k : Int) * q).natAbs ≤ 36 := zmulb (A := 3) (B := 12) (by omega) (by omega)
  have go : yR 152 35 [(0, .ref 93), (1, .int (nI k)), (2, .int w)] [] M (fun r N => r = some (.long (zbyV cf k q W L w)) ∧ zKp [] [(93, 2), (93, 3)] M N) := by
    refine yR.adv 4 (pc' := 40) (lv' := [(5, .int 0), (3, .long 0), (0, .ref 93), (1, .int (nI k)), (2, .int w)]) (st' := []) (M' := M) rfl ?_
    refine yR.drop (lv := [(0, .ref 93), (1, .int (nI k)), (2, .int w), (3, .long (lI 0)), (5, .int (nI 0))]) (by refine ⟨?_, ?_⟩ <;> simp [zget, zwf] <;> exact ⟨rfl, rfl⟩) ?_
    refine r_by_out M dom q W L hR cf hcf hc k hk3 w (zSi (zVv cf (k * q)) k q L k 0 0) ?_ k 0 0 (Nat.zero_add _) rfl
    refine yR.adv 16 (pc' := 180) (lv' := [(0, .ref 93), (1, .int (nI k)), (2, .int w), (3, .long (lI (zSi (zVv cf (k * q)) k q L k 0 0)))]) (st' := [.int 4, .long (((M.1 93 5) * (nI k)).toInt64), .long (((M.1 93 6).toInt64) * (((nI k) * (nI k)).toInt64)), .long (lI (zSi (zVv cf (k * q)) k q L k 0 0)), .ref 93]) (M' := M) rfl ?_
    rw [hq, hW]
    have x3 : (iI q * nI k).toInt64 = lI (k * q) := by rw [nI_iI, iI_mul, Int.mul_comm, iI_l (by omega)]
    have x4 : (nI k * nI k).toInt64 = lI (k * k) := by
      have hkk : ((k : Int) * k).natAbs ≤ 9 := zmulb (A := 3) (B := 3) (by omega) (by omega)
      rw [nI_iI, iI_mul, iI_l (by omega)]
    rw [x3, x4, iI_l (by omega), lI_mul]
    show yR 152 180 [(0, .ref 93), (1, .int (nI k)), (2, .int w), (3, .long (lI (zSi (zVv cf (k * q)) k q L k 0 0)))] [.int (nI 4), .long (lI (k * q)), .long (lI (W * (k * k))), .long (lI (zSi (zVv cf (k * q)) k q L k 0 0)), .ref 93] M _
    refine yR.callK (M1 := M) _ rfl rfl rfl rfl rfl (r_powerN M (lI (k * q)) 4 (by omega)) ?_
    show yR 152 183 [(0, .ref 93), (1, .int (nI k)), (2, .int w), (3, .long (lI (zSi (zVv cf (k * q)) k q L k 0 0)))] [.long (zpw (lI (k * q)) 4), .long (lI (W * (k * k))), .long (lI (zSi (zVv cf (k * q)) k q L k 0 0)), .ref 93] M _
    rw [zpw_lI]
    refine yR.adv 1 (pc' := 184) (lv' := [(0, .ref 93), (1, .int (nI k)), (2, .int w), (3, .long (lI (zSi (zVv cf (k * q)) k q L k 0 0)))]) (st' := [.long ((lI (W * (k * k))) * (lI (((k : Int) * q) ^ 4))), .long (lI (zSi (zVv cf (k * q)) k q L k 0 0)), .ref 93]) (M' := M) rfl ?_
    rw [lI_mul, ← Int.mul_assoc]
    show yR 152 184 [(0, .ref 93), (1, .int (nI k)), (2, .int w), (3, .long (lI (zSi (zVv cf (k * q)) k q L k 0 0)))] [.long (zbyD k q W), .long (zbyS cf k q L), .ref 93] M _
    refine yR.callK (M1 := zupL (zupL M 93 2 (zfu (zbyS cf k q L) (zbyD k q W))) 93 3 (zfd (zbyS cf k q L) (zbyD k q W))) _ rfl rfl rfl rfl rfl (r_fraction M (zbyS cf k q L) (zbyD k q W) (by rw [tS]; omega) (by rw [tD]; exact db.1)) ?_
    show yR 152 187 [(0, .ref 93), (1, .int (nI k)), (2, .int w), (3, .long (lI (zSi (zVv cf (k * q)) k q L k 0 0)))] [] (zupL (zupL M 93 2 (zfu (zbyS cf k q L) (zbyD k q W))) 93 3 (zfd (zbyS cf k q L) (zbyD k q W))) _
    refine yR.adv 2 (pc' := 189) (lv' := [(0, .ref 93), (1, .int (nI k)), (2, .int w), (3, .long (lI (zSi (zVv cf (k * q)) k q L k 0 0)))]) (st' := [.int w, .ref 93]) (M' := zupL (zupL M 93 2 (zfu (zbyS cf k q L) (zbyD k q W))) 93 3 (zfd (zbyS cf k q L) (zbyD k q W))) rfl ?_
    refine yR.callK (M1 := zupL (zupL M 93 2 (zfu (zbyS cf k q L) (zbyD k q W))) 93 3 (zfd (zbyS cf k q L) (zbyD k q W))) _ rfl rfl rfl rfl rfl (r_part (zupL (zupL M 93 2 (zfu (zbyS cf k q L) (zbyD k q W))) 93 3 (zfd (zbyS cf k q L) (zbyD k q W))) w) ?_
    show yR 152 192 [(0, .ref 93), (1, .int (nI k)), (2, .int w), (3, .long (lI (zSi (zVv cf (k * q)) k q L k 0 0)))] [.long (if w = 0 then zfu (zbyS cf k q L) (zbyD k q W) else zfd (zbyS cf k q L) (zbyD k q W))] (zupL (zupL M 93 2 (zfu (zbyS cf k q L) (zbyD k q W))) 93 3 (zfd (zbyS cf k q L) (zbyD k q W))) _
    refine yR.ret _ rfl rfl rfl ?_
    exact ⟨rfl, ((zKp.refl _ _ M).upL (by simp)).upL (by simp)⟩
  refine yR.adv 4 (pc' := 6) (lv' := [(0, .ref 93), (1, .int (nI k)), (2, .int w)]) (st' := [.long 3, .long 1, .long ((nI k).toInt64)]) (M' := M) rfl ?_
  refine yR.callK (M1 := M) _ rfl rfl rfl rfl rfl (r_withinV M (nI k).toInt64 1 3 1 3 rfl rfl 1 (Or.inl ⟨by rw [Int32.toInt_toInt64]; exact hok.1, rfl⟩)) ?_
  show yR 152 9 [(0, .ref 93), (1, .int (nI k)), (2, .int w)] [.int 1] M _
  refine yR.if1 .eq _ _ _ _ rfl (fun q1 => ?_) (fun q1 => ?_)
  · exact absurd q1 (by decide)
  · refine yR.adv 1 (pc' := 13) (lv' := [(0, .ref 93), (1, .int (nI k)), (2, .int w)]) (st' := [.int w]) (M' := M) rfl ?_
    refine yR.callK (M1 := M) _ rfl rfl rfl rfl rfl (r_isWhich M w 1 (Or.inl ⟨hok.2.1, rfl⟩)) ?_
    show yR 152 16 [(0, .ref 93), (1, .int (nI k)), (2, .int w)] [.int 1] M _
    refine yR.if1 .eq _ _ _ _ rfl (fun q2 => ?_) (fun q2 => ?_)
    · exact absurd q2 (by decide)
    · refine yR.adv 2 (pc' := 21) (lv' := [(0, .ref 93), (1, .int (nI k)), (2, .int w)]) (st' := [.int 1, .int (nI k)]) (M' := M) rfl ?_
      refine yR.if2 .le _ _ _ _ rfl (fun q3 => ?_) (fun q3 => ?_)
      · exact go
      · have q3' : ¬ (nI k).toInt ≤ 1 := zcF q3 rfl rfl
        refine yR.adv 2 (pc' := 28) (lv' := [(0, .ref 93), (1, .int (nI k)), (2, .int w)]) (st' := [.int (M.1 93 4)]) (M' := M) rfl ?_
        rw [hd, hok.2.2.resolve_left q3']
        refine yR.if1 .eq _ _ _ _ rfl (fun q4 => ?_) (fun q4 => ?_)
        · exact go
        · exact absurd q4 (by decide)
