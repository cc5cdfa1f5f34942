/-! ===== places, of both ===== -/
noncomputable def zpls (c : Nat → Int32) : Nat → Nat → zPl → Option Int32 × zPl
  | 0, _, L => (none, L)
  | d + 1, j, L => @ite _ (zbadL L (c j) (c (j + 1)) (c (j + 2))) (Classical.propDecidable _) (some (-2), L) (if lix L (c j, c (j + 1)) 0 = none ∧ L.length = 24 then (some (-4), L) else zpls c d (j + 3) (ladd L (c j, c (j + 1)) (c (j + 2))))
theorem zpls_bad {c : Nat → Int32} {d j : Nat} {L : zPl} (h : zbadL L (c j) (c (j + 1)) (c (j + 2))) : zpls c (d + 1) j L = (some (-2), L) := @if_pos _ (Classical.propDecidable _) h _ _ _
theorem zpls_full {c : Nat → Int32} {d j : Nat} {L : zPl} (h : ¬ zbadL L (c j) (c (j + 1)) (c (j + 2))) (h2 : lix L (c j, c (j + 1)) 0 = none ∧ L.length = 24) : zpls c (d + 1) j L = (some (-4), L) := by
  show @ite _ _ (Classical.propDecidable _) _ _ = _
  rw [@if_neg _ (Classical.propDecidable _) h, if_pos h2]
theorem zpls_go {c : Nat → Int32} {d j : Nat} {L : zPl} (h : ¬ zbadL L (c j) (c (j + 1)) (c (j + 2))) (h2 : ¬ (lix L (c j, c (j + 1)) 0 = none ∧ L.length = 24)) : zpls c (d + 1) j L = zpls c d (j + 3) (ladd L (c j, c (j + 1)) (c (j + 2))) := by
  show @ite _ _ (Classical.propDecidable _) _ _ = _
  rw [@if_neg _ (Classical.propDecidable _) h, if_neg h2]
theorem zroom {L : zPl} {p : zPt} (h24 : L.length ≤ 24) (h : ¬ (lix L p 0 = none ∧ L.length = 24)) : L.length < 24 ∨ ∃ k, lix L p 0 = some k := by
  cases hx : lix L p 0 with
  | none => exact Or.inl (by have : ¬ L.length = 24 := fun e => h ⟨hx, e⟩; omega)
  | some k => exact Or.inr ⟨k, rfl⟩
theorem m_copyA (M : zMm) (dom : Nat) (q W : Int) (L : zPl) (h : zRm dom q W M L) : yR 21 0 [(0, .ref 5), (1, .ref 1)] [] M (fun r N => r = none ∧ zRu 5 3 6 7 8 N L ∧ N.1 5 0 = nI dom ∧ N.1 5 1 = iI q ∧ N.1 5 2 = iI W ∧ zKp [5, 6, 7, 8] [] M N) := by
  obtain ⟨hU, hk, hd, hq, hW, hdom, bq, bW⟩ := id h
  refine yR.of (m_copy_5_1 M L.length hU.1 hU.2.1) ⟨rfl, ⟨?_, hU.2.1, fun p e hp => ?_⟩, ?_, ?_, ?_, fun a i ha _ => ⟨?_, rfl⟩⟩
  · simp [zcpm, zup]
  · have hpl := (List.getElem?_eq_some_iff.mp hp).1
    have := hU.2.2 p e hp
    simp [zcpm, zup, hpl]
    exact this
  · simp [zcpm, zup, hd]
  · simp [zcpm, zup, hq]
  · simp [zcpm, zup, hW]
  · simp only [List.mem_cons, List.not_mem_nil, or_false, not_or] at ha
    simp [zcpm, zup, ha.1, ha.2.1, ha.2.2.1, ha.2.2.2]
theorem m_copyB (M : zMm) (dom : Nat) (q W : Int) (L : zPl) (hU : zRu 5 3 6 7 8 M L) (hk : zLok L) (hd : M.1 5 0 = nI dom) (hq : M.1 5 1 = iI q) (hW : M.1 5 2 = iI W) (hb : dom < 3 ∧ (1 ≤ q ∧ q ≤ 12) ∧ (1 ≤ W ∧ W ≤ 10000)) : yR 21 0 [(0, .ref 1), (1, .ref 5)] [] M (fun r N => r = none ∧ zRm dom q W N L ∧ zKp [1, 2, 3, 4] [] M N) := by
  refine yR.of (m_copy_1_5 M L.length hU.1 hU.2.1) ⟨rfl, ⟨⟨?_, hU.2.1, fun p e hp => ?_⟩, hk, ?_, ?_, ?_, hb⟩, fun a i ha _ => ⟨?_, rfl⟩⟩
  · simp [zcpm, zup]
  · have hpl := (List.getElem?_eq_some_iff.mp hp).1
    have := hU.2.2 p e hp
    simp [zcpm, zup, hpl]
    exact this
  · simp [zcpm, zup, hd]
  · simp [zcpm, zup, hq]
  · simp [zcpm, zup, hW]
  · simp only [List.mem_cons, List.not_mem_nil, or_false, not_or] at ha
    simp [zcpm, zup, ha.1, ha.2.1, ha.2.2.1, ha.2.2.2]
theorem m_addFrom_loop_0 {Q : Option Value → zMm → Prop} (M0 : zMm) (cc : Nat → Int32) (ii : Int32) (i0 n : Nat) (hn : n < 2 ^ 31) (hi : n = 0 ∨ (ii = nI i0 ∧ i0 + 3 * n ≤ 72)) (hcc : ∀ j, j < 72 → M0.1 86 j = cc j) (Rz : Option Int32 × zPl) (K1 : ∀ v, Rz.1 = some v → ∀ M', zKp [5, 6, 7, 8] [] M0 M' → Q (some (.int v)) M') (K2 : Rz.1 = none → ∀ M', zRu 5 3 6 7 8 M' Rz.2 → zLok Rz.2 → zKp [6, 7, 8] [(5, 3)] M0 M' → yR 75 76 [(0, .ref 0)] [] M' Q) :
    ∀ (d m : Nat) (M : zMm) (L : zPl), m + d = n → zRu 5 3 6 7 8 M L → zLok L → zKp [6, 7, 8] [(5, 3)] M0 M → zpls cc d (i0 + 3 * m) L = Rz → yR 75 14 [(0, .ref 0), (1, .ref 85), (2, .int ii), (3, .int (nI n)), (4, .int (nI m))] [] M Q := by
  intro d
  induction d using Nat.strongRecOn with
  | ind d ih =>
    intro m M L h hR hk hE hz
    refine yR.adv 2 (pc' := 17) (lv' := [(0, .ref 0), (1, .ref 85), (2, .int ii), (3, .int (nI n)), (4, .int (nI m))]) (st' := [.int (nI n), .int (nI m)]) (M' := M) rfl ?_
    refine yR.if2 .ge _ _ _ _ rfl (fun q1 => ?_) (fun q1 => ?_)
    · have q1' : (n : Int) ≤ m := zcT q1 (nI_toInt (by omega)) (nI_toInt (by omega))
      have hd : d = 0 := by omega
      subst hd
      have hz' : Rz = (none, L) := hz.symm
      exact (K2 (by rw [hz']) M (by rw [hz']; exact hR) (by rw [hz']; exact hk) hE).drop (by refine ⟨?_, ?_⟩ <;> simp [zget, zwf])
    · have q1' : ¬ (n : Int) ≤ m := zcF q1 (nI_toInt (by omega)) (nI_toInt (by omega))
      obtain ⟨d', rfl⟩ : ∃ d', d = d' + 1 := ⟨d - 1, by omega⟩
      obtain ⟨hii, h72⟩ := hi.resolve_left (by omega)
      have hix : ii + 3 * nI m = nI (i0 + 3 * m) := by rw [hii, show (3 : Int32) = iI 3 from rfl, nI_iI, nI_iI, nI_iI, iI_mul, iI_add]; rfl
      have hcM : ∀ j, j < 72 → M.1 86 j = cc j := fun j hj => by rw [(hE 86 j (by decide) (by simp)).1]; exact hcc j hj
      refine yR.adv 11 (pc' := 38) (lv' := [(5, .int (ii + (3 * (nI m)))), (0, .ref 0), (1, .ref 85), (2, .int ii), (3, .int (nI n)), (4, .int (nI m))]) (st' := [.int (ii + (3 * (nI m))), .ref 86, .ref 5]) (M' := M) rfl ?_
      rw [hix]
      refine yR.iald (i0 + 3 * m) _ _ _ rfl rfl (by decide) (rfl) (by omega) ?_
      refine yR.adv 5 (pc' := 47) (lv' := [(5, .int (nI (i0 + 3 * m))), (0, .ref 0), (1, .ref 85), (2, .int ii), (3, .int (nI n)), (4, .int (nI m))]) (st' := [.int ((nI (i0 + 3 * m)) + 1), .ref 86, .int (M.1 86 (i0 + 3 * m)), .ref 5]) (M' := M) rfl ?_
      refine yR.iald (i0 + 3 * m + 1) _ _ _ rfl rfl (by decide) (nI_1 _) (by omega) ?_
      refine yR.adv 5 (pc' := 56) (lv' := [(5, .int (nI (i0 + 3 * m))), (0, .ref 0), (1, .ref 85), (2, .int ii), (3, .int (nI n)), (4, .int (nI m))]) (st' := [.int ((nI (i0 + 3 * m)) + 2), .ref 86, .int (M.1 86 (i0 + 3 * m + 1)), .int (M.1 86 (i0 + 3 * m)), .ref 5]) (M' := M) rfl ?_
      refine yR.iald (i0 + 3 * m + 2) _ _ _ rfl rfl (by decide) (nI_add _ 2) (by omega) ?_
      rw [hcM _ (by omega), hcM _ (by omega), hcM _ (by omega)]
      by_cases hb : zbadL L (cc (i0 + 3 * m)) (cc (i0 + 3 * m + 1)) (cc (i0 + 3 * m + 2))
      · rw [zpls_bad hb] at hz
        refine yR.callK (M1 := M) _ rfl rfl rfl rfl rfl (m_add_bad_5 M L.length hR.1 hR.2.1 (hR.W hk) _ _ _ ((hR.bad _ _ _).mpr hb)) ?_
        show yR 75 60 [(5, .int (nI (i0 + 3 * m))), (0, .ref 0), (1, .ref 85), (2, .int ii), (3, .int (nI n)), (4, .int (nI m))] [.int (-2)] M _
        refine yR.adv 2 (pc' := 64) (lv' := [(6, .int (-2)), (5, .int (nI (i0 + 3 * m))), (0, .ref 0), (1, .ref 85), (2, .int ii), (3, .int (nI n)), (4, .int (nI m))]) (st' := [.int (-2)]) (M' := M) rfl ?_
        refine yR.if1 .ge _ _ _ _ rfl (fun q2 => ?_) (fun q2 => ?_)
        · exact absurd q2 (by decide)
        · refine yR.adv 1 (pc' := 69) (lv' := [(6, .int (-2)), (5, .int (nI (i0 + 3 * m))), (0, .ref 0), (1, .ref 85), (2, .int ii), (3, .int (nI n)), (4, .int (nI m))]) (st' := [.int (-2)]) (M' := M) rfl ?_
          refine yR.ret _ rfl rfl rfl ?_
          exact K1 (-2) (by rw [← hz]) M (hE.sub (by decide))
      · by_cases hf : lix L (cc (i0 + 3 * m), cc (i0 + 3 * m + 1)) 0 = none ∧ L.length = 24
        · rw [zpls_full hb hf] at hz
          refine yR.callK (M1 := M) _ rfl rfl rfl rfl rfl (m_addF_5 M L hR hk _ _ _ hb hf.1 hf.2) ?_
          show yR 75 60 [(5, .int (nI (i0 + 3 * m))), (0, .ref 0), (1, .ref 85), (2, .int ii), (3, .int (nI n)), (4, .int (nI m))] [.int (-4)] M _
          refine yR.adv 2 (pc' := 64) (lv' := [(6, .int (-4)), (5, .int (nI (i0 + 3 * m))), (0, .ref 0), (1, .ref 85), (2, .int ii), (3, .int (nI n)), (4, .int (nI m))]) (st' := [.int (-4)]) (M' := M) rfl ?_
          refine yR.if1 .ge _ _ _ _ rfl (fun q2 => ?_) (fun q2 => ?_)
          · exact absurd q2 (by decide)
          · refine yR.adv 1 (pc' := 69) (lv' := [(6, .int (-4)), (5, .int (nI (i0 + 3 * m))), (0, .ref 0), (1, .ref 85), (2, .int ii), (3, .int (nI n)), (4, .int (nI m))]) (st' := [.int (-4)]) (M' := M) rfl ?_
            refine yR.ret _ rfl rfl rfl ?_
            exact K1 (-4) (by rw [← hz]) M (hE.sub (by decide))
        · rw [zpls_go hb hf] at hz
          have hroom := zroom hR.2.1 hf
          have hl := hR.lay (by decide) (by decide) (by decide) (by decide) (by decide) (by decide) (cc (i0 + 3 * m)) (cc (i0 + 3 * m + 1)) (cc (i0 + 3 * m + 2)) hroom
          refine yR.callK (M1 := zlayM 5 3 6 7 8 M L.length (cc (i0 + 3 * m)) (cc (i0 + 3 * m + 1)) (cc (i0 + 3 * m + 2))) _ rfl rfl rfl rfl rfl (m_add_5 M L.length hR.1 hR.2.1 (hR.W hk) (cc (i0 + 3 * m)) (cc (i0 + 3 * m + 1)) (cc (i0 + 3 * m + 2)) (fun z => hb ((hR.bad _ _ _).mp z)) (by rw [hR.fnd]; exact hroom)) ?_
          show yR 75 60 [(5, .int (nI (i0 + 3 * m))), (0, .ref 0), (1, .ref 85), (2, .int ii), (3, .int (nI n)), (4, .int (nI m))] [.int (zlayR 6 7 M L.length (cc (i0 + 3 * m)) (cc (i0 + 3 * m + 1)))] (zlayM 5 3 6 7 8 M L.length (cc (i0 + 3 * m)) (cc (i0 + 3 * m + 1)) (cc (i0 + 3 * m + 2))) _
          generalize g1 : zlayM 5 3 6 7 8 M L.length (cc (i0 + 3 * m)) (cc (i0 + 3 * m + 1)) (cc (i0 + 3 * m + 2)) = M1
          rw [g1] at hl
          rw [hR.layR]
          have hnum : lnum L (cc (i0 + 3 * m), cc (i0 + 3 * m + 1)) ≤ 24 := by
            unfold lnum
            cases hx : lix L (cc (i0 + 3 * m), cc (i0 + 3 * m + 1)) 0 with
            | none => exact hR.2.1
            | some k => have := lix_lt hx; have := hR.2.1; simp; omega
          refine yR.adv 2 (pc' := 64) (lv' := [(6, .int (nI (lnum L (cc (i0 + 3 * m), cc (i0 + 3 * m + 1))))), (5, .int (nI (i0 + 3 * m))), (0, .ref 0), (1, .ref 85), (2, .int ii), (3, .int (nI n)), (4, .int (nI m))]) (st' := [.int (nI (lnum L (cc (i0 + 3 * m), cc (i0 + 3 * m + 1))))]) (M' := M1) rfl ?_
          refine yR.if1 .ge _ _ _ _ rfl (fun q2 => ?_) (fun q2 => ?_)
          · refine yR.adv 2 (pc' := 14) (lv' := [(4, .int (nI m + 1)), (6, .int (nI (lnum L (cc (i0 + 3 * m), cc (i0 + 3 * m + 1))))), (5, .int (nI (i0 + 3 * m))), (0, .ref 0), (1, .ref 85), (2, .int ii), (3, .int (nI n))]) (st' := []) (M' := M1) rfl ?_
            exact (ih d' (by omega) (m + 1) M1 _ (by omega) hl.1 (hk.add hb) (hE.trans hl.2) (by rw [show i0 + 3 * (m + 1) = i0 + 3 * m + 3 by omega]; exact hz)).drop (by refine ⟨?_, ?_⟩ <;> simp [zget, zwf, nI_succ])
          · exact absurd (show (0 : Int) ≤ (lnum L (cc (i0 + 3 * m), cc (i0 + 3 * m + 1)) : Int) by omega) (zcF q2 (nI_toInt (by omega)) rfl)
theorem m_addFrom_0 (M : zMm) (dom : Nat) (q W : Int) (L : zPl) (h : zRm dom q W M L) (cc : Nat → Int32) (ii : Int32) (i0 n : Nat) (hn : n < 2 ^ 31) (hi : n = 0 ∨ (ii = nI i0 ∧ i0 + 3 * n ≤ 72)) (hcc : ∀ j, j < 72 → M.1 86 j = cc j) : yR 75 0 [(0, .ref 0), (1, .ref 85), (2, .int ii), (3, .int (nI n))] [] M (fun r N => (∃ v, (zpls cc n i0 L).1 = some v ∧ r = some (.int v) ∧ zRm dom q W N L ∧ zKp [5, 6, 7, 8] [] M N) ∨ ((zpls cc n i0 L).1 = none ∧ r = some (.int (nI (zpls cc n i0 L).2.length)) ∧ zRm dom q W N (zpls cc n i0 L).2 ∧ zKp [1, 2, 3, 4, 5, 6, 7, 8] [] M N)) := by
  obtain ⟨hU, hk, hd, hq, hW, hdom, bq, bW⟩ := id h
  refine yR.adv 4 (pc' := 8) (lv' := [(0, .ref 0), (1, .ref 85), (2, .int ii), (3, .int (nI n))]) (st' := [.ref 1, .ref 5]) (M' := M) rfl ?_
  refine yR.call _ rfl rfl rfl rfl rfl (m_copyA M dom q W L h) (fun r1 M1 hq => ?_)
  obtain ⟨rfl, R1, a0, a1, a2, e1⟩ := hq
  show yR 75 11 [(0, .ref 0), (1, .ref 85), (2, .int ii), (3, .int (nI n))] [] M1 _
  refine yR.adv 2 (pc' := 14) (lv' := [(4, .int 0), (0, .ref 0), (1, .ref 85), (2, .int ii), (3, .int (nI n))]) (st' := []) (M' := M1) rfl ?_
  refine yR.drop (lv := [(0, .ref 0), (1, .ref 85), (2, .int ii), (3, .int (nI n)), (4, .int (nI 0))]) (by refine ⟨?_, ?_⟩ <;> simp [zget, zwf] <;> rfl) ?_
  refine m_addFrom_loop_0 M1 cc ii i0 n hn hi (fun j hj => by rw [(e1 86 j (by decide) (by simp)).1]; exact hcc j hj) (zpls cc n i0 L) (fun v hv M2 e2 => Or.inl ⟨v, hv, rfl, h.keep (fun a i z1 z2 => by rw [(e2 a i (by simp <;> omega) (by simp)).1, (e1 a i (by simp <;> omega) (by simp)).1]), e1.trans e2⟩) (fun hv M2 R2 K2 e2 => ?_) n 0 M1 L (Nat.zero_add _) R1 hk (zKp.refl _ _ _) rfl
  refine yR.adv 4 (pc' := 84) (lv' := [(0, .ref 0)]) (st' := [.ref 5, .ref 1]) (M' := M2) rfl ?_
  refine yR.call _ rfl rfl rfl rfl rfl (m_copyB M2 dom q W (zpls cc n i0 L).2 R2 K2 (by rw [(e2 5 0 (by decide) (by decide)).1]; exact a0) (by rw [(e2 5 1 (by decide) (by decide)).1]; exact a1) (by rw [(e2 5 2 (by decide) (by decide)).1]; exact a2) ⟨hdom, bq, bW⟩) (fun r1 M3 hq => ?_)
  obtain ⟨rfl, R3, e3⟩ := hq
  show yR 75 87 [(0, .ref 0)] [] M3 _
  refine yR.adv 3 (pc' := 94) (lv' := [(0, .ref 0)]) (st' := [.int (M3.1 1 3)]) (M' := M3) rfl ?_
  rw [R3.1.1]
  refine yR.ret _ rfl rfl rfl ?_
  exact Or.inr ⟨hv, rfl, R3, ((e1.sub (by decide)).trans (e2.sub (by decide))).trans (e3.sub (by decide))⟩
/-- places by a sheet that has a row -/
theorem m_places_0 (M : zMm) (dom : Nat) (q W : Int) (L : zPl) (h : zRm dom q W M L) (lane len : Nat) (hl : lane < 3) (hn : len ≤ 72) (hL : M.1 85 0 = nI lane) (hN : M.1 85 1 = nI len) (l i n : Int32) (hl2 : 0 ≤ l.toInt ∧ l.toInt ≤ 2) : yR 42 0 [(0, .ref 0), (1, .int 0), (2, .int l), (3, .int i), (4, .int n)] [] M (fun r N =>
      (¬ l = nI lane ∧ r = some (.int (-12)) ∧ zKp [] [(0, 14)] M N) ∨ (l = nI lane ∧ n.toInt < 0 ∧ r = some (.int (-14)) ∧ zKp [] [(0, 14)] M N) ∨ (l = nI lane ∧ 0 < n.toInt ∧ ¬ (0 ≤ i.toInt ∧ i.toInt + 3 * n.toInt ≤ len) ∧ r = some (.int (-13)) ∧ zKp [] [(0, 14)] M N) ∨
      (l = nI lane ∧ n.toInt = 0 ∧ r = some (.int (nI L.length)) ∧ zRm dom q W N L ∧ zKp [1, 2, 3, 4, 5, 6, 7, 8] [(0, 14)] M N) ∨
      (l = nI lane ∧ 0 < n.toInt ∧ (0 ≤ i.toInt ∧ i.toInt + 3 * n.toInt ≤ len) ∧ ((∃ v, (zpls (M.1 86) n.toInt.toNat i.toInt.toNat L).1 = some v ∧ r = some (.int v) ∧ zRm dom q W N L) ∨ ((zpls (M.1 86) n.toInt.toNat i.toInt.toNat L).1 = none ∧ r = some (.int (nI (zpls (M.1 86) n.toInt.toNat i.toInt.toNat L).2.length)) ∧ zRm dom q W N (zpls (M.1 86) n.toInt.toNat i.toInt.toNat L).2)) ∧ zKp [1, 2, 3, 4, 5, 6, 7, 8] [(0, 14)] M N)) := by
  refine yR.adv 3 (pc' := 5) (lv' := [(0, .ref 0), (1, .int 0), (2, .int l), (3, .int i), (4, .int n)]) (st' := []) (M' := zup M 0 14 0) rfl ?_
  generalize g0 : zup M 0 14 0 = M0
  have E0 : zKp [] [(0, 14)] M M0 := by rw [← g0]; exact (zKp.refl _ _ M).up (by simp)
  have hL' : M0.1 85 0 = nI lane := by rw [(E0 85 0 (by simp) (by decide)).1]; exact hL
  have hN' : M0.1 85 1 = nI len := by rw [(E0 85 1 (by simp) (by decide)).1]; exact hN
  have hcc : ∀ j, M0.1 86 j = M.1 86 j := fun j => (E0 86 j (by simp) (by simp)).1
  have R0 : zRm dom q W M0 L := h.keep (fun a i z1 z2 => (E0 a i (by simp) (by simp <;> omega)).1)
  have hm1 : ¬ M0.1 85 0 = -1 := by rw [hL']; exact nI_nm1 lane (by omega)
  have tn : (M0.1 85 1).toInt = len := by rw [hN']; exact nI_toInt (by omega)
  obtain ⟨v1, h1⟩ := zem (¬ M0.1 85 0 = -1 ∧ ¬ M0.1 85 0 = l)
  refine yR.adv 3 (pc' := 8) (lv' := [(0, .ref 0), (1, .int 0), (2, .int l), (3, .int i), (4, .int n)]) (st' := [.int 3, .int 0, .int 0]) (M' := M0) rfl ?_
  refine yR.callK (M1 := M0) _ rfl rfl rfl rfl rfl (m_fromV M0 0 0 3 0 3 rfl rfl 1 (Or.inl ⟨by decide, rfl⟩)) ?_
  show yR 42 11 [(0, .ref 0), (1, .int 0), (2, .int l), (3, .int i), (4, .int n)] [.int 1] M0 _
  refine yR.if1 .ne _ _ _ _ rfl (fun q1 => ?_) (fun q1 => ?_)
  · refine yR.adv 3 (pc' := 19) (lv' := [(0, .ref 0), (1, .int 0), (2, .int l), (3, .int i), (4, .int n)]) (st' := [.int 2, .int 0, .int l]) (M' := M0) rfl ?_
    refine yR.callK (M1 := M0) _ rfl rfl rfl rfl rfl (m_fromV M0 l 0 2 0 2 rfl rfl 1 (Or.inl ⟨hl2, rfl⟩)) ?_
    show yR 42 22 [(0, .ref 0), (1, .int 0), (2, .int l), (3, .int i), (4, .int n)] [.int 1] M0 _
    refine yR.if1 .ne _ _ _ _ rfl (fun q2 => ?_) (fun q2 => ?_)
    · refine yR.adv 7 (pc' := 39) (lv' := [(5, .ref 85), (0, .ref 0), (1, .int 0), (2, .int l), (3, .int i), (4, .int n)]) (st' := [.int l, .ref 85]) (M' := M0) rfl ?_
      refine yR.callK (M1 := M0) _ rfl rfl rfl rfl rfl (m_otherLane_85 M0 l v1 h1) ?_
      show yR 42 42 [(5, .ref 85), (0, .ref 0), (1, .int 0), (2, .int l), (3, .int i), (4, .int n)] [.int v1] M0 _
      refine yR.if1 .eq _ _ _ _ rfl (fun q3 => ?_) (fun q3 => ?_)
      · have z1 : l = nI lane := Classical.byContradiction fun y => zeq0 h1 q3 ⟨hm1, fun z => y (by rw [← z, hL'])⟩
        refine yR.adv 1 (pc' := 53) (lv' := [(5, .ref 85), (0, .ref 0), (1, .int 0), (2, .int l), (3, .int i), (4, .int n)]) (st' := [.ref 85]) (M' := M0) rfl ?_
        refine yR.callK (M1 := M0) _ rfl rfl rfl rfl rfl (m_hasNothing_85 M0 0 (Or.inr ⟨hm1, rfl⟩)) ?_
        show yR 42 56 [(5, .ref 85), (0, .ref 0), (1, .int 0), (2, .int l), (3, .int i), (4, .int n)] [.int 0] M0 _
        refine yR.if1 .eq _ _ _ _ rfl (fun q4 => ?_) (fun q4 => ?_)
        · refine yR.adv 1 (pc' := 67) (lv' := [(5, .ref 85), (0, .ref 0), (1, .int 0), (2, .int l), (3, .int i), (4, .int n)]) (st' := [.int n]) (M' := M0) rfl ?_
          refine yR.if1 .ge _ _ _ _ rfl (fun q5 => ?_) (fun q5 => ?_)
          · have q5' : 0 ≤ n.toInt := zcT q5 rfl rfl
            have hnn := Int32.toInt_lt n
            have en : n = nI n.toInt.toNat := by rw [nI_iI, Int.toNat_of_nonneg q5', iI_of]
            have tm : ((3 : Int64) * n.toInt64).toInt = 3 * n.toInt := by
              have hz := zmul_ok (x := (3 : Int64)) (y := n.toInt64) (A := 3) (B := 2 ^ 31) (by decide) (by rw [Int32.toInt_toInt64]; omega) (by decide)
              rw [hz.1, Int32.toInt_toInt64]
              rfl
            obtain ⟨v2, h2⟩ := zem (((3 : Int64) * n.toInt64).toInt = 0 ∨ (0 ≤ i.toInt ∧ i.toInt + ((3 : Int64) * n.toInt64).toInt ≤ (M0.1 85 1).toInt))
            refine yR.adv 6 (pc' := 86) (lv' := [(5, .ref 85), (0, .ref 0), (1, .int 0), (2, .int l), (3, .int i), (4, .int n)]) (st' := [.long (3 * n.toInt64), .int i, .ref 85]) (M' := M0) rfl ?_
            refine yR.callK (M1 := M0) _ rfl rfl rfl rfl rfl (m_hasCells_85 M0 i ((3 : Int64) * n.toInt64) (by rw [tm]; omega) (by rw [tm]; omega) v2 h2) ?_
            show yR 42 89 [(5, .ref 85), (0, .ref 0), (1, .int 0), (2, .int l), (3, .int i), (4, .int n)] [.int v2] M0 _
            refine yR.if1 .ne _ _ _ _ rfl (fun q6 => ?_) (fun q6 => ?_)
            · have z6 := zne0 h2 q6
              rw [tm, tn] at z6
              have hi : n.toInt.toNat = 0 ∨ (i = nI i.toInt.toNat ∧ i.toInt.toNat + 3 * n.toInt.toNat ≤ 72) := z6.elim (fun z => Or.inl (by omega)) (fun z => Or.inr ⟨by rw [nI_iI, Int.toNat_of_nonneg z.1, iI_of], by omega⟩)
              have A := m_addFrom_0 M0 dom q W L R0 (M.1 86) i i.toInt.toNat n.toInt.toNat (by omega) hi (fun j _ => hcc j)
              rw [← en] at A
              refine yR.adv 4 (pc' := 104) (lv' := [(5, .ref 85), (0, .ref 0), (1, .int 0), (2, .int l), (3, .int i), (4, .int n)]) (st' := [.int n, .int i, .ref 85, .ref 0]) (M' := M0) rfl ?_
              refine yR.call _ rfl rfl rfl rfl rfl A (fun r1 M1 hQ => ?_)
              by_cases hn0 : n.toInt = 0
              · have hz0 : n.toInt.toNat = 0 := by omega
                rw [hz0] at hQ
                rcases hQ with ⟨v, x1, _⟩ | ⟨x1, rfl, x2, x3⟩
                · cases x1
                · refine yR.ret _ rfl rfl rfl ?_
                  exact Or.inr (Or.inr (Or.inr (Or.inl ⟨z1, hn0, rfl, x2, (E0.sub (by decide)).trans (x3.sub (by decide))⟩)))
              · have z7 : 0 ≤ i.toInt ∧ i.toInt + 3 * n.toInt ≤ len := z6.resolve_left (by omega)
                rcases hQ with ⟨v, x1, rfl, x2, x3⟩ | ⟨x1, rfl, x2, x3⟩
                · refine yR.ret _ rfl rfl rfl ?_
                  exact Or.inr (Or.inr (Or.inr (Or.inr ⟨z1, by omega, z7, Or.inl ⟨v, x1, rfl, x2⟩, (E0.sub (by decide)).trans (x3.sub (by decide))⟩)))
                · refine yR.ret _ rfl rfl rfl ?_
                  exact Or.inr (Or.inr (Or.inr (Or.inr ⟨z1, by omega, z7, Or.inr ⟨x1, rfl, x2⟩, (E0.sub (by decide)).trans (x3.sub (by decide))⟩)))
            · have z6 := zne1 h2 q6
              rw [tm, tn] at z6
              refine yR.adv 2 (pc' := 94) (lv' := [(5, .ref 85), (0, .ref 0), (1, .int 0), (2, .int l), (3, .int i), (4, .int n)]) (st' := [.int 3, .ref 0]) (M' := M0) rfl ?_
              refine yR.callK (M1 := zup M0 0 14 3) _ rfl rfl rfl rfl rfl (m_failed M0 3) ?_
              show yR 42 97 [(5, .ref 85), (0, .ref 0), (1, .int 0), (2, .int l), (3, .int i), (4, .int n)] [.int (-13)] (zup M0 0 14 3) _
              refine yR.ret _ rfl rfl rfl ?_
              exact Or.inr (Or.inr (Or.inl ⟨z1, by omega, fun z => z6 (Or.inr z), rfl, E0.up (by simp)⟩))
          · have q5' : ¬ 0 ≤ n.toInt := zcF q5 rfl rfl
            refine yR.adv 2 (pc' := 72) (lv' := [(5, .ref 85), (0, .ref 0), (1, .int 0), (2, .int l), (3, .int i), (4, .int n)]) (st' := [.int 4, .ref 0]) (M' := M0) rfl ?_
            refine yR.callK (M1 := zup M0 0 14 4) _ rfl rfl rfl rfl rfl (m_failed M0 4) ?_
            show yR 42 75 [(5, .ref 85), (0, .ref 0), (1, .int 0), (2, .int l), (3, .int i), (4, .int n)] [.int (-14)] (zup M0 0 14 4) _
            refine yR.ret _ rfl rfl rfl ?_
            exact Or.inr (Or.inl ⟨z1, by omega, rfl, E0.up (by simp)⟩)
        · exact absurd q4 (by decide)
      · have z1 := zeq1 h1 q3
        refine yR.adv 2 (pc' := 47) (lv' := [(5, .ref 85), (0, .ref 0), (1, .int 0), (2, .int l), (3, .int i), (4, .int n)]) (st' := [.int 2, .ref 0]) (M' := M0) rfl ?_
        refine yR.callK (M1 := zup M0 0 14 2) _ rfl rfl rfl rfl rfl (m_failed M0 2) ?_
        show yR 42 50 [(5, .ref 85), (0, .ref 0), (1, .int 0), (2, .int l), (3, .int i), (4, .int n)] [.int (-12)] (zup M0 0 14 2) _
        refine yR.ret _ rfl rfl rfl ?_
        exact Or.inl ⟨fun z => z1.2 (by rw [hL', z]), rfl, E0.up (by simp)⟩
    · exact absurd q2 (by decide)
  · exact absurd q1 (by decide)
theorem m_addFrom_loop_1 {Q : Option Value → zMm → Prop} (M0 : zMm) (cc : Nat → Int32) (ii : Int32) (i0 n : Nat) (hn : n < 2 ^ 31) (hi : n = 0 ∨ (ii = nI i0 ∧ i0 + 3 * n ≤ 72)) (hcc : ∀ j, j < 72 → M0.1 88 j = cc j) (Rz : Option Int32 × zPl) (K1 : ∀ v, Rz.1 = some v → ∀ M', zKp [5, 6, 7, 8] [] M0 M' → Q (some (.int v)) M') (K2 : Rz.1 = none → ∀ M', zRu 5 3 6 7 8 M' Rz.2 → zLok Rz.2 → zKp [6, 7, 8] [(5, 3)] M0 M' → yR 75 76 [(0, .ref 0)] [] M' Q) :
    ∀ (d m : Nat) (M : zMm) (L : zPl), m + d = n → zRu 5 3 6 7 8 M L → zLok L → zKp [6, 7, 8] [(5, 3)] M0 M → zpls cc d (i0 + 3 * m) L = Rz → yR 75 14 [(0, .ref 0), (1, .ref 87), (2, .int ii), (3, .int (nI n)), (4, .int (nI m))] [] M Q := by
  intro d
  induction d using Nat.strongRecOn with
  | ind d ih =>
    intro m M L h hR hk hE hz
    refine yR.adv 2 (pc' := 17) (lv' := [(0, .ref 0), (1, .ref 87), (2, .int ii), (3, .int (nI n)), (4, .int (nI m))]) (st' := [.int (nI n), .int (nI m)]) (M' := M) rfl ?_
    refine yR.if2 .ge _ _ _ _ rfl (fun q1 => ?_) (fun q1 => ?_)
    · have q1' : (n : Int) ≤ m := zcT q1 (nI_toInt (by omega)) (nI_toInt (by omega))
      have hd : d = 0 := by omega
      subst hd
      have hz' : Rz = (none, L) := hz.symm
      exact (K2 (by rw [hz']) M (by rw [hz']; exact hR) (by rw [hz']; exact hk) hE).drop (by refine ⟨?_, ?_⟩ <;> simp [zget, zwf])
    · have q1' : ¬ (n : Int) ≤ m := zcF q1 (nI_toInt (by omega)) (nI_toInt (by omega))
      obtain ⟨d', rfl⟩ : ∃ d', d = d' + 1 := ⟨d - 1, by omega⟩
      obtain ⟨hii, h72⟩ := hi.resolve_left (by omega)
      have hix : ii + 3 * nI m = nI (i0 + 3 * m) := by rw [hii, show (3 : Int32) = iI 3 from rfl, nI_iI, nI_iI, nI_iI, iI_mul, iI_add]; rfl
      have hcM : ∀ j, j < 72 → M.1 88 j = cc j := fun j hj => by rw [(hE 88 j (by decide) (by simp)).1]; exact hcc j hj
      refine yR.adv 11 (pc' := 38) (lv' := [(5, .int (ii + (3 * (nI m)))), (0, .ref 0), (1, .ref 87), (2, .int ii), (3, .int (nI n)), (4, .int (nI m))]) (st' := [.int (ii + (3 * (nI m))), .ref 88, .ref 5]) (M' := M) rfl ?_
      rw [hix]
      refine yR.iald (i0 + 3 * m) _ _ _ rfl rfl (by decide) (rfl) (by omega) ?_
      refine yR.adv 5 (pc' := 47) (lv' := [(5, .int (nI (i0 + 3 * m))), (0, .ref 0), (1, .ref 87), (2, .int ii), (3, .int (nI n)), (4, .int (nI m))]) (st' := [.int ((nI (i0 + 3 * m)) + 1), .ref 88, .int (M.1 88 (i0 + 3 * m)), .ref 5]) (M' := M) rfl ?_
      refine yR.iald (i0 + 3 * m + 1) _ _ _ rfl rfl (by decide) (nI_1 _) (by omega) ?_
      refine yR.adv 5 (pc' := 56) (lv' := [(5, .int (nI (i0 + 3 * m))), (0, .ref 0), (1, .ref 87), (2, .int ii), (3, .int (nI n)), (4, .int (nI m))]) (st' := [.int ((nI (i0 + 3 * m)) + 2), .ref 88, .int (M.1 88 (i0 + 3 * m + 1)), .int (M.1 88 (i0 + 3 * m)), .ref 5]) (M' := M) rfl ?_
      refine yR.iald (i0 + 3 * m + 2) _ _ _ rfl rfl (by decide) (nI_add _ 2) (by omega) ?_
      rw [hcM _ (by omega), hcM _ (by omega), hcM _ (by omega)]
      by_cases hb : zbadL L (cc (i0 + 3 * m)) (cc (i0 + 3 * m + 1)) (cc (i0 + 3 * m + 2))
      · rw [zpls_bad hb] at hz
        refine yR.callK (M1 := M) _ rfl rfl rfl rfl rfl (m_add_bad_5 M L.length hR.1 hR.2.1 (hR.W hk) _ _ _ ((hR.bad _ _ _).mpr hb)) ?_
        show yR 75 60 [(5, .int (nI (i0 + 3 * m))), (0, .ref 0), (1, .ref 87), (2, .int ii), (3, .int (nI n)), (4, .int (nI m))] [.int (-2)] M _
        refine yR.adv 2 (pc' := 64) (lv' := [(6, .int (-2)), (5, .int (nI (i0 + 3 * m))), (0, .ref 0), (1, .ref 87), (2, .int ii), (3, .int (nI n)), (4, .int (nI m))]) (st' := [.int (-2)]) (M' := M) rfl ?_
        refine yR.if1 .ge _ _ _ _ rfl (fun q2 => ?_) (fun q2 => ?_)
        · exact absurd q2 (by decide)
        · refine yR.adv 1 (pc' := 69) (lv' := [(6, .int (-2)), (5, .int (nI (i0 + 3 * m))), (0, .ref 0), (1, .ref 87), (2, .int ii), (3, .int (nI n)), (4, .int (nI m))]) (st' := [.int (-2)]) (M' := M) rfl ?_
          refine yR.ret _ rfl rfl rfl ?_
          exact K1 (-2) (by rw [← hz]) M (hE.sub (by decide))
      · by_cases hf : lix L (cc (i0 + 3 * m), cc (i0 + 3 * m + 1)) 0 = none ∧ L.length = 24
        · rw [zpls_full hb hf] at hz
          refine yR.callK (M1 := M) _ rfl rfl rfl rfl rfl (m_addF_5 M L hR hk _ _ _ hb hf.1 hf.2) ?_
          show yR 75 60 [(5, .int (nI (i0 + 3 * m))), (0, .ref 0), (1, .ref 87), (2, .int ii), (3, .int (nI n)), (4, .int (nI m))] [.int (-4)] M _
          refine yR.adv 2 (pc' := 64) (lv' := [(6, .int (-4)), (5, .int (nI (i0 + 3 * m))), (0, .ref 0), (1, .ref 87), (2, .int ii), (3, .int (nI n)), (4, .int (nI m))]) (st' := [.int (-4)]) (M' := M) rfl ?_
          refine yR.if1 .ge _ _ _ _ rfl (fun q2 => ?_) (fun q2 => ?_)
          · exact absurd q2 (by decide)
          · refine yR.adv 1 (pc' := 69) (lv' := [(6, .int (-4)), (5, .int (nI (i0 + 3 * m))), (0, .ref 0), (1, .ref 87), (2, .int ii), (3, .int (nI n)), (4, .int (nI m))]) (st' := [.int (-4)]) (M' := M) rfl ?_
            refine yR.ret _ rfl rfl rfl ?_
            exact K1 (-4) (by rw [← hz]) M (hE.sub (by decide))
        · rw [zpls_go hb hf] at hz
          have hroom := zroom hR.2.1 hf
          have hl := hR.lay (by decide) (by decide) (by decide) (by decide) (by decide) (by decide) (cc (i0 + 3 * m)) (cc (i0 + 3 * m + 1)) (cc (i0 + 3 * m + 2)) hroom
          refine yR.callK (M1 := zlayM 5 3 6 7 8 M L.length (cc (i0 + 3 * m)) (cc (i0 + 3 * m + 1)) (cc (i0 + 3 * m + 2))) _ rfl rfl rfl rfl rfl (m_add_5 M L.length hR.1 hR.2.1 (hR.W hk) (cc (i0 + 3 * m)) (cc (i0 + 3 * m + 1)) (cc (i0 + 3 * m + 2)) (fun z => hb ((hR.bad _ _ _).mp z)) (by rw [hR.fnd]; exact hroom)) ?_
          show yR 75 60 [(5, .int (nI (i0 + 3 * m))), (0, .ref 0), (1, .ref 87), (2, .int ii), (3, .int (nI n)), (4, .int (nI m))] [.int (zlayR 6 7 M L.length (cc (i0 + 3 * m)) (cc (i0 + 3 * m + 1)))] (zlayM 5 3 6 7 8 M L.length (cc (i0 + 3 * m)) (cc (i0 + 3 * m + 1)) (cc (i0 + 3 * m + 2))) _
          generalize g1 : zlayM 5 3 6 7 8 M L.length (cc (i0 + 3 * m)) (cc (i0 + 3 * m + 1)) (cc (i0 + 3 * m + 2)) = M1
          rw [g1] at hl
          rw [hR.layR]
          have hnum : lnum L (cc (i0 + 3 * m), cc (i0 + 3 * m + 1)) ≤ 24 := by
            unfold lnum
            cases hx : lix L (cc (i0 + 3 * m), cc (i0 + 3 * m + 1)) 0 with
            | none => exact hR.2.1
            | some k => have := lix_lt hx; have := hR.2.1; simp; omega
          refine yR.adv 2 (pc' := 64) (lv' := [(6, .int (nI (lnum L (cc (i0 + 3 * m), cc (i0 + 3 * m + 1))))), (5, .int (nI (i0 + 3 * m))), (0, .ref 0), (1, .ref 87), (2, .int ii), (3, .int (nI n)), (4, .int (nI m))]) (st' := [.int (nI (lnum L (cc (i0 + 3 * m), cc (i0 + 3 * m + 1))))]) (M' := M1) rfl ?_
          refine yR.if1 .ge _ _ _ _ rfl (fun q2 => ?_) (fun q2 => ?_)
          · refine yR.adv 2 (pc' := 14) (lv' := [(4, .int (nI m + 1)), (6, .int (nI (lnum L (cc (i0 + 3 * m), cc (i0 + 3 * m + 1))))), (5, .int (nI (i0 + 3 * m))), (0, .ref 0), (1, .ref 87), (2, .int ii), (3, .int (nI n))]) (st' := []) (M' := M1) rfl ?_
            exact (ih d' (by omega) (m + 1) M1 _ (by omega) hl.1 (hk.add hb) (hE.trans hl.2) (by rw [show i0 + 3 * (m + 1) = i0 + 3 * m + 3 by omega]; exact hz)).drop (by refine ⟨?_, ?_⟩ <;> simp [zget, zwf, nI_succ])
          · exact absurd (show (0 : Int) ≤ (lnum L (cc (i0 + 3 * m), cc (i0 + 3 * m + 1)) : Int) by omega) (zcF q2 (nI_toInt (by omega)) rfl)
theorem m_addFrom_1 (M : zMm) (dom : Nat) (q W : Int) (L : zPl) (h : zRm dom q W M L) (cc : Nat → Int32) (ii : Int32) (i0 n : Nat) (hn : n < 2 ^ 31) (hi : n = 0 ∨ (ii = nI i0 ∧ i0 + 3 * n ≤ 72)) (hcc : ∀ j, j < 72 → M.1 88 j = cc j) : yR 75 0 [(0, .ref 0), (1, .ref 87), (2, .int ii), (3, .int (nI n))] [] M (fun r N => (∃ v, (zpls cc n i0 L).1 = some v ∧ r = some (.int v) ∧ zRm dom q W N L ∧ zKp [5, 6, 7, 8] [] M N) ∨ ((zpls cc n i0 L).1 = none ∧ r = some (.int (nI (zpls cc n i0 L).2.length)) ∧ zRm dom q W N (zpls cc n i0 L).2 ∧ zKp [1, 2, 3, 4, 5, 6, 7, 8] [] M N)) := by
  obtain ⟨hU, hk, hd, hq, hW, hdom, bq, bW⟩ := id h
  refine yR.adv 4 (pc' := 8) (lv' := [(0, .ref 0), (1, .ref 87), (2, .int ii), (3, .int (nI n))]) (st' := [.ref 1, .ref 5]) (M' := M) rfl ?_
  refine yR.call _ rfl rfl rfl rfl rfl (m_copyA M dom q W L h) (fun r1 M1 hq => ?_)
  obtain ⟨rfl, R1, a0, a1, a2, e1⟩ := hq
  show yR 75 11 [(0, .ref 0), (1, .ref 87), (2, .int ii), (3, .int (nI n))] [] M1 _
  refine yR.adv 2 (pc' := 14) (lv' := [(4, .int 0), (0, .ref 0), (1, .ref 87), (2, .int ii), (3, .int (nI n))]) (st' := []) (M' := M1) rfl ?_
  refine yR.drop (lv := [(0, .ref 0), (1, .ref 87), (2, .int ii), (3, .int (nI n)), (4, .int (nI 0))]) (by refine ⟨?_, ?_⟩ <;> simp [zget, zwf] <;> rfl) ?_
  refine m_addFrom_loop_1 M1 cc ii i0 n hn hi (fun j hj => by rw [(e1 88 j (by decide) (by simp)).1]; exact hcc j hj) (zpls cc n i0 L) (fun v hv M2 e2 => Or.inl ⟨v, hv, rfl, h.keep (fun a i z1 z2 => by rw [(e2 a i (by simp <;> omega) (by simp)).1, (e1 a i (by simp <;> omega) (by simp)).1]), e1.trans e2⟩) (fun hv M2 R2 K2 e2 => ?_) n 0 M1 L (Nat.zero_add _) R1 hk (zKp.refl _ _ _) rfl
  refine yR.adv 4 (pc' := 84) (lv' := [(0, .ref 0)]) (st' := [.ref 5, .ref 1]) (M' := M2) rfl ?_
  refine yR.call _ rfl rfl rfl rfl rfl (m_copyB M2 dom q W (zpls cc n i0 L).2 R2 K2 (by rw [(e2 5 0 (by decide) (by decide)).1]; exact a0) (by rw [(e2 5 1 (by decide) (by decide)).1]; exact a1) (by rw [(e2 5 2 (by decide) (by decide)).1]; exact a2) ⟨hdom, bq, bW⟩) (fun r1 M3 hq => ?_)
  obtain ⟨rfl, R3, e3⟩ := hq
  show yR 75 87 [(0, .ref 0)] [] M3 _
  refine yR.adv 3 (pc' := 94) (lv' := [(0, .ref 0)]) (st' := [.int (M3.1 1 3)]) (M' := M3) rfl ?_
  rw [R3.1.1]
  refine yR.ret _ rfl rfl rfl ?_
  exact Or.inr ⟨hv, rfl, R3, ((e1.sub (by decide)).trans (e2.sub (by decide))).trans (e3.sub (by decide))⟩
/-- places by a sheet that has a row -/
theorem m_places_1 (M : zMm) (dom : Nat) (q W : Int) (L : zPl) (h : zRm dom q W M L) (lane len : Nat) (hl : lane < 3) (hn : len ≤ 72) (hL : M.1 87 0 = nI lane) (hN : M.1 87 1 = nI len) (l i n : Int32) (hl2 : 0 ≤ l.toInt ∧ l.toInt ≤ 2) : yR 42 0 [(0, .ref 0), (1, .int 1), (2, .int l), (3, .int i), (4, .int n)] [] M (fun r N =>
      (¬ l = nI lane ∧ r = some (.int (-12)) ∧ zKp [] [(0, 14)] M N) ∨ (l = nI lane ∧ n.toInt < 0 ∧ r = some (.int (-14)) ∧ zKp [] [(0, 14)] M N) ∨ (l = nI lane ∧ 0 < n.toInt ∧ ¬ (0 ≤ i.toInt ∧ i.toInt + 3 * n.toInt ≤ len) ∧ r = some (.int (-13)) ∧ zKp [] [(0, 14)] M N) ∨
      (l = nI lane ∧ n.toInt = 0 ∧ r = some (.int (nI L.length)) ∧ zRm dom q W N L ∧ zKp [1, 2, 3, 4, 5, 6, 7, 8] [(0, 14)] M N) ∨
      (l = nI lane ∧ 0 < n.toInt ∧ (0 ≤ i.toInt ∧ i.toInt + 3 * n.toInt ≤ len) ∧ ((∃ v, (zpls (M.1 88) n.toInt.toNat i.toInt.toNat L).1 = some v ∧ r = some (.int v) ∧ zRm dom q W N L) ∨ ((zpls (M.1 88) n.toInt.toNat i.toInt.toNat L).1 = none ∧ r = some (.int (nI (zpls (M.1 88) n.toInt.toNat i.toInt.toNat L).2.length)) ∧ zRm dom q W N (zpls (M.1 88) n.toInt.toNat i.toInt.toNat L).2)) ∧ zKp [1, 2, 3, 4, 5, 6, 7, 8] [(0, 14)] M N)) := by
  refine yR.adv 3 (pc' := 5) (lv' := [(0, .ref 0), (1, .int 1), (2, .int l), (3, .int i), (4, .int n)]) (st' := []) (M' := zup M 0 14 0) rfl ?_
  generalize g0 : zup M 0 14 0 = M0
  have E0 : zKp [] [(0, 14)] M M0 := by rw [← g0]; exact (zKp.refl _ _ M).up (by simp)
  have hL' : M0.1 87 0 = nI lane := by rw [(E0 87 0 (by simp) (by decide)).1]; exact hL
  have hN' : M0.1 87 1 = nI len := by rw [(E0 87 1 (by simp) (by decide)).1]; exact hN
  have hcc : ∀ j, M0.1 88 j = M.1 88 j := fun j => (E0 88 j (by simp) (by simp)).1
  have R0 : zRm dom q W M0 L := h.keep (fun a i z1 z2 => (E0 a i (by simp) (by simp <;> omega)).1)
  have hm1 : ¬ M0.1 87 0 = -1 := by rw [hL']; exact nI_nm1 lane (by omega)
  have tn : (M0.1 87 1).toInt = len := by rw [hN']; exact nI_toInt (by omega)
  obtain ⟨v1, h1⟩ := zem (¬ M0.1 87 0 = -1 ∧ ¬ M0.1 87 0 = l)
  refine yR.adv 3 (pc' := 8) (lv' := [(0, .ref 0), (1, .int 1), (2, .int l), (3, .int i), (4, .int n)]) (st' := [.int 3, .int 0, .int 1]) (M' := M0) rfl ?_
  refine yR.callK (M1 := M0) _ rfl rfl rfl rfl rfl (m_fromV M0 1 0 3 0 3 rfl rfl 1 (Or.inl ⟨by decide, rfl⟩)) ?_
  show yR 42 11 [(0, .ref 0), (1, .int 1), (2, .int l), (3, .int i), (4, .int n)] [.int 1] M0 _
  refine yR.if1 .ne _ _ _ _ rfl (fun q1 => ?_) (fun q1 => ?_)
  · refine yR.adv 3 (pc' := 19) (lv' := [(0, .ref 0), (1, .int 1), (2, .int l), (3, .int i), (4, .int n)]) (st' := [.int 2, .int 0, .int l]) (M' := M0) rfl ?_
    refine yR.callK (M1 := M0) _ rfl rfl rfl rfl rfl (m_fromV M0 l 0 2 0 2 rfl rfl 1 (Or.inl ⟨hl2, rfl⟩)) ?_
    show yR 42 22 [(0, .ref 0), (1, .int 1), (2, .int l), (3, .int i), (4, .int n)] [.int 1] M0 _
    refine yR.if1 .ne _ _ _ _ rfl (fun q2 => ?_) (fun q2 => ?_)
    · refine yR.adv 7 (pc' := 39) (lv' := [(5, .ref 87), (0, .ref 0), (1, .int 1), (2, .int l), (3, .int i), (4, .int n)]) (st' := [.int l, .ref 87]) (M' := M0) rfl ?_
      refine yR.callK (M1 := M0) _ rfl rfl rfl rfl rfl (m_otherLane_87 M0 l v1 h1) ?_
      show yR 42 42 [(5, .ref 87), (0, .ref 0), (1, .int 1), (2, .int l), (3, .int i), (4, .int n)] [.int v1] M0 _
      refine yR.if1 .eq _ _ _ _ rfl (fun q3 => ?_) (fun q3 => ?_)
      · have z1 : l = nI lane := Classical.byContradiction fun y => zeq0 h1 q3 ⟨hm1, fun z => y (by rw [← z, hL'])⟩
        refine yR.adv 1 (pc' := 53) (lv' := [(5, .ref 87), (0, .ref 0), (1, .int 1), (2, .int l), (3, .int i), (4, .int n)]) (st' := [.ref 87]) (M' := M0) rfl ?_
        refine yR.callK (M1 := M0) _ rfl rfl rfl rfl rfl (m_hasNothing_87 M0 0 (Or.inr ⟨hm1, rfl⟩)) ?_
        show yR 42 56 [(5, .ref 87), (0, .ref 0), (1, .int 1), (2, .int l), (3, .int i), (4, .int n)] [.int 0] M0 _
        refine yR.if1 .eq _ _ _ _ rfl (fun q4 => ?_) (fun q4 => ?_)
        · refine yR.adv 1 (pc' := 67) (lv' := [(5, .ref 87), (0, .ref 0), (1, .int 1), (2, .int l), (3, .int i), (4, .int n)]) (st' := [.int n]) (M' := M0) rfl ?_
          refine yR.if1 .ge _ _ _ _ rfl (fun q5 => ?_) (fun q5 => ?_)
          · have q5' : 0 ≤ n.toInt := zcT q5 rfl rfl
            have hnn := Int32.toInt_lt n
            have en : n = nI n.toInt.toNat := by rw [nI_iI, Int.toNat_of_nonneg q5', iI_of]
            have tm : ((3 : Int64) * n.toInt64).toInt = 3 * n.toInt := by
              have hz := zmul_ok (x := (3 : Int64)) (y := n.toInt64) (A := 3) (B := 2 ^ 31) (by decide) (by rw [Int32.toInt_toInt64]; omega) (by decide)
              rw [hz.1, Int32.toInt_toInt64]
              rfl
            obtain ⟨v2, h2⟩ := zem (((3 : Int64) * n.toInt64).toInt = 0 ∨ (0 ≤ i.toInt ∧ i.toInt + ((3 : Int64) * n.toInt64).toInt ≤ (M0.1 87 1).toInt))
            refine yR.adv 6 (pc' := 86) (lv' := [(5, .ref 87), (0, .ref 0), (1, .int 1), (2, .int l), (3, .int i), (4, .int n)]) (st' := [.long (3 * n.toInt64), .int i, .ref 87]) (M' := M0) rfl ?_
            refine yR.callK (M1 := M0) _ rfl rfl rfl rfl rfl (m_hasCells_87 M0 i ((3 : Int64) * n.toInt64) (by rw [tm]; omega) (by rw [tm]; omega) v2 h2) ?_
            show yR 42 89 [(5, .ref 87), (0, .ref 0), (1, .int 1), (2, .int l), (3, .int i), (4, .int n)] [.int v2] M0 _
            refine yR.if1 .ne _ _ _ _ rfl (fun q6 => ?_) (fun q6 => ?_)
            · have z6 := zne0 h2 q6
              rw [tm, tn] at z6
              have hi : n.toInt.toNat = 0 ∨ (i = nI i.toInt.toNat ∧ i.toInt.toNat + 3 * n.toInt.toNat ≤ 72) := z6.elim (fun z => Or.inl (by omega)) (fun z => Or.inr ⟨by rw [nI_iI, Int.toNat_of_nonneg z.1, iI_of], by omega⟩)
              have A := m_addFrom_1 M0 dom q W L R0 (M.1 88) i i.toInt.toNat n.toInt.toNat (by omega) hi (fun j _ => hcc j)
              rw [← en] at A
              refine yR.adv 4 (pc' := 104) (lv' := [(5, .ref 87), (0, .ref 0), (1, .int 1), (2, .int l), (3, .int i), (4, .int n)]) (st' := [.int n, .int i, .ref 87, .ref 0]) (M' := M0) rfl ?_
              refine yR.call _ rfl rfl rfl rfl rfl A (fun r1 M1 hQ => ?_)
              by_cases hn0 : n.toInt = 0
              · have hz0 : n.toInt.toNat = 0 := by omega
                rw [hz0] at hQ
                rcases hQ with ⟨v, x1, _⟩ | ⟨x1, rfl, x2, x3⟩
                · cases x1
                · refine yR.ret _ rfl rfl rfl ?_
                  exact Or.inr (Or.inr (Or.inr (Or.inl ⟨z1, hn0, rfl, x2, (E0.sub (by decide)).trans (x3.sub (by decide))⟩)))
              · have z7 : 0 ≤ i.toInt ∧ i.toInt + 3 * n.toInt ≤ len := z6.resolve_left (by omega)
                rcases hQ with ⟨v, x1, rfl, x2, x3⟩ | ⟨x1, rfl, x2, x3⟩
                · refine yR.ret _ rfl rfl rfl ?_
                  exact Or.inr (Or.inr (Or.inr (Or.inr ⟨z1, by omega, z7, Or.inl ⟨v, x1, rfl, x2⟩, (E0.sub (by decide)).trans (x3.sub (by decide))⟩)))
                · refine yR.ret _ rfl rfl rfl ?_
                  exact Or.inr (Or.inr (Or.inr (Or.inr ⟨z1, by omega, z7, Or.inr ⟨x1, rfl, x2⟩, (E0.sub (by decide)).trans (x3.sub (by decide))⟩)))
            · have z6 := zne1 h2 q6
              rw [tm, tn] at z6
              refine yR.adv 2 (pc' := 94) (lv' := [(5, .ref 87), (0, .ref 0), (1, .int 1), (2, .int l), (3, .int i), (4, .int n)]) (st' := [.int 3, .ref 0]) (M' := M0) rfl ?_
              refine yR.callK (M1 := zup M0 0 14 3) _ rfl rfl rfl rfl rfl (m_failed M0 3) ?_
              show yR 42 97 [(5, .ref 87), (0, .ref 0), (1, .int 1), (2, .int l), (3, .int i), (4, .int n)] [.int (-13)] (zup M0 0 14 3) _
              refine yR.ret _ rfl rfl rfl ?_
              exact Or.inr (Or.inr (Or.inl ⟨z1, by omega, fun z => z6 (Or.inr z), rfl, E0.up (by simp)⟩))
          · have q5' : ¬ 0 ≤ n.toInt := zcF q5 rfl rfl
            refine yR.adv 2 (pc' := 72) (lv' := [(5, .ref 87), (0, .ref 0), (1, .int 1), (2, .int l), (3, .int i), (4, .int n)]) (st' := [.int 4, .ref 0]) (M' := M0) rfl ?_
            refine yR.callK (M1 := zup M0 0 14 4) _ rfl rfl rfl rfl rfl (m_failed M0 4) ?_
            show yR 42 75 [(5, .ref 87), (0, .ref 0), (1, .int 1), (2, .int l), (3, .int i), (4, .int n)] [.int (-14)] (zup M0 0 14 4) _
            refine yR.ret _ rfl rfl rfl ?_
            exact Or.inr (Or.inl ⟨z1, by omega, rfl, E0.up (by simp)⟩)
        · exact absurd q4 (by decide)
      · have z1 := zeq1 h1 q3
        refine yR.adv 2 (pc' := 47) (lv' := [(5, .ref 87), (0, .ref 0), (1, .int 1), (2, .int l), (3, .int i), (4, .int n)]) (st' := [.int 2, .ref 0]) (M' := M0) rfl ?_
        refine yR.callK (M1 := zup M0 0 14 2) _ rfl rfl rfl rfl rfl (m_failed M0 2) ?_
        show yR 42 50 [(5, .ref 87), (0, .ref 0), (1, .int 1), (2, .int l), (3, .int i), (4, .int n)] [.int (-12)] (zup M0 0 14 2) _
        refine yR.ret _ rfl rfl rfl ?_
        exact Or.inl ⟨fun z => z1.2 (by rw [hL', z]), rfl, E0.up (by simp)⟩
    · exact absurd q2 (by decide)
  · exact absurd q1 (by decide)
theorem m_addFrom_loop_2 {Q : Option Value → zMm → Prop} (M0 : zMm) (cc : Nat → Int32) (ii : Int32) (i0 n : Nat) (hn : n < 2 ^ 31) (hi : n = 0 ∨ (ii = nI i0 ∧ i0 + 3 * n ≤ 72)) (hcc : ∀ j, j < 72 → M0.1 90 j = cc j) (Rz : Option Int32 × zPl) (K1 : ∀ v, Rz.1 = some v → ∀ M', zKp [5, 6, 7, 8] [] M0 M' → Q (some (.int v)) M') (K2 : Rz.1 = none → ∀ M', zRu 5 3 6 7 8 M' Rz.2 → zLok Rz.2 → zKp [6, 7, 8] [(5, 3)] M0 M' → yR 75 76 [(0, .ref 0)] [] M' Q) :
    ∀ (d m : Nat) (M : zMm) (L : zPl), m + d = n → zRu 5 3 6 7 8 M L → zLok L → zKp [6, 7, 8] [(5, 3)] M0 M → zpls cc d (i0 + 3 * m) L = Rz → yR 75 14 [(0, .ref 0), (1, .ref 89), (2, .int ii), (3, .int (nI n)), (4, .int (nI m))] [] M Q := by
  intro d
  induction d using Nat.strongRecOn with
  | ind d ih =>
    intro m M L h hR hk hE hz
    refine yR.adv 2 (pc' := 17) (lv' := [(0, .ref 0), (1, .ref 89), (2, .int ii), (3, .int (nI n)), (4, .int (nI m))]) (st' := [.int (nI n), .int (nI m)]) (M' := M) rfl ?_
    refine yR.if2 .ge _ _ _ _ rfl (fun q1 => ?_) (fun q1 => ?_)
    · have q1' : (n : Int) ≤ m := zcT q1 (nI_toInt (by omega)) (nI_toInt (by omega))
      have hd : d = 0 := by omega
      subst hd
      have hz' : Rz = (none, L) := hz.symm
      exact (K2 (by rw [hz']) M (by rw [hz']; exact hR) (by rw [hz']; exact hk) hE).drop (by refine ⟨?_, ?_⟩ <;> simp [zget, zwf])
    · have q1' : ¬ (n : Int) ≤ m := zcF q1 (nI_toInt (by omega)) (nI_toInt (by omega))
      obtain ⟨d', rfl⟩ : ∃ d', d = d' + 1 := ⟨d - 1, by omega⟩
      obtain ⟨hii, h72⟩ := hi.resolve_left (by omega)
      have hix : ii + 3 * nI m = nI (i0 + 3 * m) := by rw [hii, show (3 : Int32) = iI 3 from rfl, nI_iI, nI_iI, nI_iI, iI_mul, iI_add]; rfl
      have hcM : ∀ j, j < 72 → M.1 90 j = cc j := fun j hj => by rw [(hE 90 j (by decide) (by simp)).1]; exact hcc j hj
      refine yR.adv 11 (pc' := 38) (lv' := [(5, .int (ii + (3 * (nI m)))), (0, .ref 0), (1, .ref 89), (2, .int ii), (3, .int (nI n)), (4, .int (nI m))]) (st' := [.int (ii + (3 * (nI m))), .ref 90, .ref 5]) (M' := M) rfl ?_
      rw [hix]
      refine yR.iald (i0 + 3 * m) _ _ _ rfl rfl (by decide) (rfl) (by omega) ?_
      refine yR.adv 5 (pc' := 47) (lv' := [(5, .int (nI (i0 + 3 * m))), (0, .ref 0), (1, .ref 89), (2, .int ii), (3, .int (nI n)), (4, .int (nI m))]) (st' := [.int ((nI (i0 + 3 * m)) + 1), .ref 90, .int (M.1 90 (i0 + 3 * m)), .ref 5]) (M' := M) rfl ?_
      refine yR.iald (i0 + 3 * m + 1) _ _ _ rfl rfl (by decide) (nI_1 _) (by omega) ?_
      refine yR.adv 5 (pc' := 56) (lv' := [(5, .int (nI (i0 + 3 * m))), (0, .ref 0), (1, .ref 89), (2, .int ii), (3, .int (nI n)), (4, .int (nI m))]) (st' := [.int ((nI (i0 + 3 * m)) + 2), .ref 90, .int (M.1 90 (i0 + 3 * m + 1)), .int (M.1 90 (i0 + 3 * m)), .ref 5]) (M' := M) rfl ?_
      refine yR.iald (i0 + 3 * m + 2) _ _ _ rfl rfl (by decide) (nI_add _ 2) (by omega) ?_
      rw [hcM _ (by omega), hcM _ (by omega), hcM _ (by omega)]
      by_cases hb : zbadL L (cc (i0 + 3 * m)) (cc (i0 + 3 * m + 1)) (cc (i0 + 3 * m + 2))
      · rw [zpls_bad hb] at hz
        refine yR.callK (M1 := M) _ rfl rfl rfl rfl rfl (m_add_bad_5 M L.length hR.1 hR.2.1 (hR.W hk) _ _ _ ((hR.bad _ _ _).mpr hb)) ?_
        show yR 75 60 [(5, .int (nI (i0 + 3 * m))), (0, .ref 0), (1, .ref 89), (2, .int ii), (3, .int (nI n)), (4, .int (nI m))] [.int (-2)] M _
        refine yR.adv 2 (pc' := 64) (lv' := [(6, .int (-2)), (5, .int (nI (i0 + 3 * m))), (0, .ref 0), (1, .ref 89), (2, .int ii), (3, .int (nI n)), (4, .int (nI m))]) (st' := [.int (-2)]) (M' := M) rfl ?_
        refine yR.if1 .ge _ _ _ _ rfl (fun q2 => ?_) (fun q2 => ?_)
        · exact absurd q2 (by decide)
        · refine yR.adv 1 (pc' := 69) (lv' := [(6, .int (-2)), (5, .int (nI (i0 + 3 * m))), (0, .ref 0), (1, .ref 89), (2, .int ii), (3, .int (nI n)), (4, .int (nI m))]) (st' := [.int (-2)]) (M' := M) rfl ?_
          refine yR.ret _ rfl rfl rfl ?_
          exact K1 (-2) (by rw [← hz]) M (hE.sub (by decide))
      · by_cases hf : lix L (cc (i0 + 3 * m), cc (i0 + 3 * m + 1)) 0 = none ∧ L.length = 24
        · rw [zpls_full hb hf] at hz
          refine yR.callK (M1 := M) _ rfl rfl rfl rfl rfl (m_addF_5 M L hR hk _ _ _ hb hf.1 hf.2) ?_
          show yR 75 60 [(5, .int (nI (i0 + 3 * m))), (0, .ref 0), (1, .ref 89), (2, .int ii), (3, .int (nI n)), (4, .int (nI m))] [.int (-4)] M _
          refine yR.adv 2 (pc' := 64) (lv' := [(6, .int (-4)), (5, .int (nI (i0 + 3 * m))), (0, .ref 0), (1, .ref 89), (2, .int ii), (3, .int (nI n)), (4, .int (nI m))]) (st' := [.int (-4)]) (M' := M) rfl ?_
          refine yR.if1 .ge _ _ _ _ rfl (fun q2 => ?_) (fun q2 => ?_)
          · exact absurd q2 (by decide)
          · refine yR.adv 1 (pc' := 69) (lv' := [(6, .int (-4)), (5, .int (nI (i0 + 3 * m))), (0, .ref 0), (1, .ref 89), (2, .int ii), (3, .int (nI n)), (4, .int (nI m))]) (st' := [.int (-4)]) (M' := M) rfl ?_
            refine yR.ret _ rfl rfl rfl ?_
            exact K1 (-4) (by rw [← hz]) M (hE.sub (by decide))
        · rw [zpls_go hb hf] at hz
          have hroom := zroom hR.2.1 hf
          have hl := hR.lay (by decide) (by decide) (by decide) (by decide) (by decide) (by decide) (cc (i0 + 3 * m)) (cc (i0 + 3 * m + 1)) (cc (i0 + 3 * m + 2)) hroom
          refine yR.callK (M1 := zlayM 5 3 6 7 8 M L.length (cc (i0 + 3 * m)) (cc (i0 + 3 * m + 1)) (cc (i0 + 3 * m + 2))) _ rfl rfl rfl rfl rfl (m_add_5 M L.length hR.1 hR.2.1 (hR.W hk) (cc (i0 + 3 * m)) (cc (i0 + 3 * m + 1)) (cc (i0 + 3 * m + 2)) (fun z => hb ((hR.bad _ _ _).mp z)) (by rw [hR.fnd]; exact hroom)) ?_
          show yR 75 60 [(5, .int (nI (i0 + 3 * m))), (0, .ref 0), (1, .ref 89), (2, .int ii), (3, .int (nI n)), (4, .int (nI m))] [.int (zlayR 6 7 M L.length (cc (i0 + 3 * m)) (cc (i0 + 3 * m + 1)))] (zlayM 5 3 6 7 8 M L.length (cc (i0 + 3 * m)) (cc (i0 + 3 * m + 1)) (cc (i0 + 3 * m + 2))) _
          generalize g1 : zlayM 5 3 6 7 8 M L.length (cc (i0 + 3 * m)) (cc (i0 + 3 * m + 1)) (cc (i0 + 3 * m + 2)) = M1
          rw [g1] at hl
          rw [hR.layR]
          have hnum : lnum L (cc (i0 + 3 * m), cc (i0 + 3 * m + 1)) ≤ 24 := by
            unfold lnum
            cases hx : lix L (cc (i0 + 3 * m), cc (i0 + 3 * m + 1)) 0 with
            | none => exact hR.2.1
            | some k => have := lix_lt hx; have := hR.2.1; simp; omega
          refine yR.adv 2 (pc' := 64) (lv' := [(6, .int (nI (lnum L (cc (i0 + 3 * m), cc (i0 + 3 * m + 1))))), (5, .int (nI (i0 + 3 * m))), (0, .ref 0), (1, .ref 89), (2, .int ii), (3, .int (nI n)), (4, .int (nI m))]) (st' := [.int (nI (lnum L (cc (i0 + 3 * m), cc (i0 + 3 * m + 1))))]) (M' := M1) rfl ?_
          refine yR.if1 .ge _ _ _ _ rfl (fun q2 => ?_) (fun q2 => ?_)
          · refine yR.adv 2 (pc' := 14) (lv' := [(4, .int (nI m + 1)), (6, .int (nI (lnum L (cc (i0 + 3 * m), cc (i0 + 3 * m + 1))))), (5, .int (nI (i0 + 3 * m))), (0, .ref 0), (1, .ref 89), (2, .int ii), (3, .int (nI n))]) (st' := []) (M' := M1) rfl ?_
            exact (ih d' (by omega) (m + 1) M1 _ (by omega) hl.1 (hk.add hb) (hE.trans hl.2) (by rw [show i0 + 3 * (m + 1) = i0 + 3 * m + 3 by omega]; exact hz)).drop (by refine ⟨?_, ?_⟩ <;> simp [zget, zwf, nI_succ])
          · exact absurd (show (0 : Int) ≤ (lnum L (cc (i0 + 3 * m), cc (i0 + 3 * m + 1)) : Int) by omega) (zcF q2 (nI_toInt (by omega)) rfl)
theorem m_addFrom_2 (M : zMm) (dom : Nat) (q W : Int) (L : zPl) (h : zRm dom q W M L) (cc : Nat → Int32) (ii : Int32) (i0 n : Nat) (hn : n < 2 ^ 31) (hi : n = 0 ∨ (ii = nI i0 ∧ i0 + 3 * n ≤ 72)) (hcc : ∀ j, j < 72 → M.1 90 j = cc j) : yR 75 0 [(0, .ref 0), (1, .ref 89), (2, .int ii), (3, .int (nI n))] [] M (fun r N => (∃ v, (zpls cc n i0 L).1 = some v ∧ r = some (.int v) ∧ zRm dom q W N L ∧ zKp [5, 6, 7, 8] [] M N) ∨ ((zpls cc n i0 L).1 = none ∧ r = some (.int (nI (zpls cc n i0 L).2.length)) ∧ zRm dom q W N (zpls cc n i0 L).2 ∧ zKp [1, 2, 3, 4, 5, 6, 7, 8] [] M N)) := by
  obtain ⟨hU, hk, hd, hq, hW, hdom, bq, bW⟩ := id h
  refine yR.adv 4 (pc' := 8) (lv' := [(0, .ref 0), (1, .ref 89), (2, .int ii), (3, .int (nI n))]) (st' := [.ref 1, .ref 5]) (M' := M) rfl ?_
  refine yR.call _ rfl rfl rfl rfl rfl (m_copyA M dom q W L h) (fun r1 M1 hq => ?_)
  obtain ⟨rfl, R1, a0, a1, a2, e1⟩ := hq
  show yR 75 11 [(0, .ref 0), (1, .ref 89), (2, .int ii), (3, .int (nI n))] [] M1 _
  refine yR.adv 2 (pc' := 14) (lv' := [(4, .int 0), (0, .ref 0), (1, .ref 89), (2, .int ii), (3, .int (nI n))]) (st' := []) (M' := M1) rfl ?_
  refine yR.drop (lv := [(0, .ref 0), (1, .ref 89), (2, .int ii), (3, .int (nI n)), (4, .int (nI 0))]) (by refine ⟨?_, ?_⟩ <;> simp [zget, zwf] <;> rfl) ?_
  refine m_addFrom_loop_2 M1 cc ii i0 n hn hi (fun j hj => by rw [(e1 90 j (by decide) (by simp)).1]; exact hcc j hj) (zpls cc n i0 L) (fun v hv M2 e2 => Or.inl ⟨v, hv, rfl, h.keep (fun a i z1 z2 => by rw [(e2 a i (by simp <;> omega) (by simp)).1, (e1 a i (by simp <;> omega) (by simp)).1]), e1.trans e2⟩) (fun hv M2 R2 K2 e2 => ?_) n 0 M1 L (Nat.zero_add _) R1 hk (zKp.refl _ _ _) rfl
  refine yR.adv 4 (pc' := 84) (lv' := [(0, .ref 0)]) (st' := [.ref 5, .ref 1]) (M' := M2) rfl ?_
  refine yR.call _ rfl rfl rfl rfl rfl (m_copyB M2 dom q W (zpls cc n i0 L).2 R2 K2 (by rw [(e2 5 0 (by decide) (by decide)).1]; exact a0) (by rw [(e2 5 1 (by decide) (by decide)).1]; exact a1) (by rw [(e2 5 2 (by decide) (by decide)).1]; exact a2) ⟨hdom, bq, bW⟩) (fun r1 M3 hq => ?_)
  obtain ⟨rfl, R3, e3⟩ := hq
  show yR 75 87 [(0, .ref 0)] [] M3 _
  refine yR.adv 3 (pc' := 94) (lv' := [(0, .ref 0)]) (st' := [.int (M3.1 1 3)]) (M' := M3) rfl ?_
  rw [R3.1.1]
  refine yR.ret _ rfl rfl rfl ?_
  exact Or.inr ⟨hv, rfl, R3, ((e1.sub (by decide)).trans (e2.sub (by decide))).trans (e3.sub (by decide))⟩
/-- places by a sheet that has a row -/
theorem m_places_2 (M : zMm) (dom : Nat) (q W : Int) (L : zPl) (h : zRm dom q W M L) (lane len : Nat) (hl : lane < 3) (hn : len ≤ 72) (hL : M.1 89 0 = nI lane) (hN : M.1 89 1 = nI len) (l i n : Int32) (hl2 : 0 ≤ l.toInt ∧ l.toInt ≤ 2) : yR 42 0 [(0, .ref 0), (1, .int 2), (2, .int l), (3, .int i), (4, .int n)] [] M (fun r N =>
      (¬ l = nI lane ∧ r = some (.int (-12)) ∧ zKp [] [(0, 14)] M N) ∨ (l = nI lane ∧ n.toInt < 0 ∧ r = some (.int (-14)) ∧ zKp [] [(0, 14)] M N) ∨ (l = nI lane ∧ 0 < n.toInt ∧ ¬ (0 ≤ i.toInt ∧ i.toInt + 3 * n.toInt ≤ len) ∧ r = some (.int (-13)) ∧ zKp [] [(0, 14)] M N) ∨
      (l = nI lane ∧ n.toInt = 0 ∧ r = some (.int (nI L.length)) ∧ zRm dom q W N L ∧ zKp [1, 2, 3, 4, 5, 6, 7, 8] [(0, 14)] M N) ∨
      (l = nI lane ∧ 0 < n.toInt ∧ (0 ≤ i.toInt ∧ i.toInt + 3 * n.toInt ≤ len) ∧ ((∃ v, (zpls (M.1 90) n.toInt.toNat i.toInt.toNat L).1 = some v ∧ r = some (.int v) ∧ zRm dom q W N L) ∨ ((zpls (M.1 90) n.toInt.toNat i.toInt.toNat L).1 = none ∧ r = some (.int (nI (zpls (M.1 90) n.toInt.toNat i.toInt.toNat L).2.length)) ∧ zRm dom q W N (zpls (M.1 90) n.toInt.toNat i.toInt.toNat L).2)) ∧ zKp [1, 2, 3, 4, 5, 6, 7, 8] [(0, 14)] M N)) := by
  refine yR.adv 3 (pc' := 5) (lv' := [(0, .ref 0), (1, .int 2), (2, .int l), (3, .int i), (4, .int n)]) (st' := []) (M' := zup M 0 14 0) rfl ?_
  generalize g0 : zup M 0 14 0 = M0
  have E0 : zKp [] [(0, 14)] M M0 := by rw [← g0]; exact (zKp.refl _ _ M).up (by simp)
  have hL' : M0.1 89 0 = nI lane := by rw [(E0 89 0 (by simp) (by decide)).1]; exact hL
  have hN' : M0.1 89 1 = nI len := by rw [(E0 89 1 (by simp) (by decide)).1]; exact hN
  have hcc : ∀ j, M0.1 90 j = M.1 90 j := fun j => (E0 90 j (by simp) (by simp)).1
  have R0 : zRm dom q W M0 L := h.keep (fun a i z1 z2 => (E0 a i (by simp) (by simp <;> omega)).1)
  have hm1 : ¬ M0.1 89 0 = -1 := by rw [hL']; exact nI_nm1 lane (by omega)
  have tn : (M0.1 89 1).toInt = len := by rw [hN']; exact nI_toInt (by omega)
  obtain ⟨v1, h1⟩ := zem (¬ M0.1 89 0 = -1 ∧ ¬ M0.1 89 0 = l)
  refine yR.adv 3 (pc' := 8) (lv' := [(0, .ref 0), (1, .int 2), (2, .int l), (3, .int i), (4, .int n)]) (st' := [.int 3, .int 0, .int 2]) (M' := M0) rfl ?_
  refine yR.callK (M1 := M0) _ rfl rfl rfl rfl rfl (m_fromV M0 2 0 3 0 3 rfl rfl 1 (Or.inl ⟨by decide, rfl⟩)) ?_
  show yR 42 11 [(0, .ref 0), (1, .int 2), (2, .int l), (3, .int i), (4, .int n)] [.int 1] M0 _
  refine yR.if1 .ne _ _ _ _ rfl (fun q1 => ?_) (fun q1 => ?_)
  · refine yR.adv 3 (pc' := 19) (lv' := [(0, .ref 0), (1, .int 2), (2, .int l), (3, .int i), (4, .int n)]) (st' := [.int 2, .int 0, .int l]) (M' := M0) rfl ?_
    refine yR.callK (M1 := M0) _ rfl rfl rfl rfl rfl (m_fromV M0 l 0 2 0 2 rfl rfl 1 (Or.inl ⟨hl2, rfl⟩)) ?_
    show yR 42 22 [(0, .ref 0), (1, .int 2), (2, .int l), (3, .int i), (4, .int n)] [.int 1] M0 _
    refine yR.if1 .ne _ _ _ _ rfl (fun q2 => ?_) (fun q2 => ?_)
    · refine yR.adv 7 (pc' := 39) (lv' := [(5, .ref 89), (0, .ref 0), (1, .int 2), (2, .int l), (3, .int i), (4, .int n)]) (st' := [.int l, .ref 89]) (M' := M0) rfl ?_
      refine yR.callK (M1 := M0) _ rfl rfl rfl rfl rfl (m_otherLane_89 M0 l v1 h1) ?_
      show yR 42 42 [(5, .ref 89), (0, .ref 0), (1, .int 2), (2, .int l), (3, .int i), (4, .int n)] [.int v1] M0 _
      refine yR.if1 .eq _ _ _ _ rfl (fun q3 => ?_) (fun q3 => ?_)
      · have z1 : l = nI lane := Classical.byContradiction fun y => zeq0 h1 q3 ⟨hm1, fun z => y (by rw [← z, hL'])⟩
        refine yR.adv 1 (pc' := 53) (lv' := [(5, .ref 89), (0, .ref 0), (1, .int 2), (2, .int l), (3, .int i), (4, .int n)]) (st' := [.ref 89]) (M' := M0) rfl ?_
        refine yR.callK (M1 := M0) _ rfl rfl rfl rfl rfl (m_hasNothing_89 M0 0 (Or.inr ⟨hm1, rfl⟩)) ?_
        show yR 42 56 [(5, .ref 89), (0, .ref 0), (1, .int 2), (2, .int l), (3, .int i), (4, .int n)] [.int 0] M0 _
        refine yR.if1 .eq _ _ _ _ rfl (fun q4 => ?_) (fun q4 => ?_)
        · refine yR.adv 1 (pc' := 67) (lv' := [(5, .ref 89), (0, .ref 0), (1, .int 2), (2, .int l), (3, .int i), (4, .int n)]) (st' := [.int n]) (M' := M0) rfl ?_
          refine yR.if1 .ge _ _ _ _ rfl (fun q5 => ?_) (fun q5 => ?_)
          · have q5' : 0 ≤ n.toInt := zcT q5 rfl rfl
            have hnn := Int32.toInt_lt n
            have en : n = nI n.toInt.toNat := by rw [nI_iI, Int.toNat_of_nonneg q5', iI_of]
            have tm : ((3 : Int64) * n.toInt64).toInt = 3 * n.toInt := by
              have hz := zmul_ok (x := (3 : Int64)) (y := n.toInt64) (A := 3) (B := 2 ^ 31) (by decide) (by rw [Int32.toInt_toInt64]; omega) (by decide)
              rw [hz.1, Int32.toInt_toInt64]
              rfl
            obtain ⟨v2, h2⟩ := zem (((3 : Int64) * n.toInt64).toInt = 0 ∨ (0 ≤ i.toInt ∧ i.toInt + ((3 : Int64) * n.toInt64).toInt ≤ (M0.1 89 1).toInt))
            refine yR.adv 6 (pc' := 86) (lv' := [(5, .ref 89), (0, .ref 0), (1, .int 2), (2, .int l), (3, .int i), (4, .int n)]) (st' := [.long (3 * n.toInt64), .int i, .ref 89]) (M' := M0) rfl ?_
            refine yR.callK (M1 := M0) _ rfl rfl rfl rfl rfl (m_hasCells_89 M0 i ((3 : Int64) * n.toInt64) (by rw [tm]; omega) (by rw [tm]; omega) v2 h2) ?_
            show yR 42 89 [(5, .ref 89), (0, .ref 0), (1, .int 2), (2, .int l), (3, .int i), (4, .int n)] [.int v2] M0 _
            refine yR.if1 .ne _ _ _ _ rfl (fun q6 => ?_) (fun q6 => ?_)
            · have z6 := zne0 h2 q6
              rw [tm, tn] at z6
              have hi : n.toInt.toNat = 0 ∨ (i = nI i.toInt.toNat ∧ i.toInt.toNat + 3 * n.toInt.toNat ≤ 72) := z6.elim (fun z => Or.inl (by omega)) (fun z => Or.inr ⟨by rw [nI_iI, Int.toNat_of_nonneg z.1, iI_of], by omega⟩)
              have A := m_addFrom_2 M0 dom q W L R0 (M.1 90) i i.toInt.toNat n.toInt.toNat (by omega) hi (fun j _ => hcc j)
              rw [← en] at A
              refine yR.adv 4 (pc' := 104) (lv' := [(5, .ref 89), (0, .ref 0), (1, .int 2), (2, .int l), (3, .int i), (4, .int n)]) (st' := [.int n, .int i, .ref 89, .ref 0]) (M' := M0) rfl ?_
              refine yR.call _ rfl rfl rfl rfl rfl A (fun r1 M1 hQ => ?_)
              by_cases hn0 : n.toInt = 0
              · have hz0 : n.toInt.toNat = 0 := by omega
                rw [hz0] at hQ
                rcases hQ with ⟨v, x1, _⟩ | ⟨x1, rfl, x2, x3⟩
                · cases x1
                · refine yR.ret _ rfl rfl rfl ?_
                  exact Or.inr (Or.inr (Or.inr (Or.inl ⟨z1, hn0, rfl, x2, (E0.sub (by decide)).trans (x3.sub (by decide))⟩)))
              · have z7 : 0 ≤ i.toInt ∧ i.toInt + 3 * n.toInt ≤ len := z6.resolve_left (by omega)
                rcases hQ with ⟨v, x1, rfl, x2, x3⟩ | ⟨x1, rfl, x2, x3⟩
                · refine yR.ret _ rfl rfl rfl ?_
                  exact Or.inr (Or.inr (Or.inr (Or.inr ⟨z1, by omega, z7, Or.inl ⟨v, x1, rfl, x2⟩, (E0.sub (by decide)).trans (x3.sub (by decide))⟩)))
                · refine yR.ret _ rfl rfl rfl ?_
                  exact Or.inr (Or.inr (Or.inr (Or.inr ⟨z1, by omega, z7, Or.inr ⟨x1, rfl, x2⟩, (E0.sub (by decide)).trans (x3.sub (by decide))⟩)))
            · have z6 := zne1 h2 q6
              rw [tm, tn] at z6
              refine yR.adv 2 (pc' := 94) (lv' := [(5, .ref 89), (0, .ref 0), (1, .int 2), (2, .int l), (3, .int i), (4, .int n)]) (st' := [.int 3, .ref 0]) (M' := M0) rfl ?_
              refine yR.callK (M1 := zup M0 0 14 3) _ rfl rfl rfl rfl rfl (m_failed M0 3) ?_
              show yR 42 97 [(5, .ref 89), (0, .ref 0), (1, .int 2), (2, .int l), (3, .int i), (4, .int n)] [.int (-13)] (zup M0 0 14 3) _
              refine yR.ret _ rfl rfl rfl ?_
              exact Or.inr (Or.inr (Or.inl ⟨z1, by omega, fun z => z6 (Or.inr z), rfl, E0.up (by simp)⟩))
          · have q5' : ¬ 0 ≤ n.toInt := zcF q5 rfl rfl
            refine yR.adv 2 (pc' := 72) (lv' := [(5, .ref 89), (0, .ref 0), (1, .int 2), (2, .int l), (3, .int i), (4, .int n)]) (st' := [.int 4, .ref 0]) (M' := M0) rfl ?_
            refine yR.callK (M1 := zup M0 0 14 4) _ rfl rfl rfl rfl rfl (m_failed M0 4) ?_
            show yR 42 75 [(5, .ref 89), (0, .ref 0), (1, .int 2), (2, .int l), (3, .int i), (4, .int n)] [.int (-14)] (zup M0 0 14 4) _
            refine yR.ret _ rfl rfl rfl ?_
            exact Or.inr (Or.inl ⟨z1, by omega, rfl, E0.up (by simp)⟩)
        · exact absurd q4 (by decide)
      · have z1 := zeq1 h1 q3
        refine yR.adv 2 (pc' := 47) (lv' := [(5, .ref 89), (0, .ref 0), (1, .int 2), (2, .int l), (3, .int i), (4, .int n)]) (st' := [.int 2, .ref 0]) (M' := M0) rfl ?_
        refine yR.callK (M1 := zup M0 0 14 2) _ rfl rfl rfl rfl rfl (m_failed M0 2) ?_
        show yR 42 50 [(5, .ref 89), (0, .ref 0), (1, .int 2), (2, .int l), (3, .int i), (4, .int n)] [.int (-12)] (zup M0 0 14 2) _
        refine yR.ret _ rfl rfl rfl ?_
        exact Or.inl ⟨fun z => z1.2 (by rw [hL', z]), rfl, E0.up (by simp)⟩
    · exact absurd q2 (by decide)
  · exact absurd q1 (by decide)
theorem m_addFrom_loop_3 {Q : Option Value → zMm → Prop} (M0 : zMm) (cc : Nat → Int32) (ii : Int32) (i0 n : Nat) (hn : n < 2 ^ 31) (hi : n = 0 ∨ (ii = nI i0 ∧ i0 + 3 * n ≤ 72)) (hcc : ∀ j, j < 72 → M0.1 92 j = cc j) (Rz : Option Int32 × zPl) (K1 : ∀ v, Rz.1 = some v → ∀ M', zKp [5, 6, 7, 8] [] M0 M' → Q (some (.int v)) M') (K2 : Rz.1 = none → ∀ M', zRu 5 3 6 7 8 M' Rz.2 → zLok Rz.2 → zKp [6, 7, 8] [(5, 3)] M0 M' → yR 75 76 [(0, .ref 0)] [] M' Q) :
    ∀ (d m : Nat) (M : zMm) (L : zPl), m + d = n → zRu 5 3 6 7 8 M L → zLok L → zKp [6, 7, 8] [(5, 3)] M0 M → zpls cc d (i0 + 3 * m) L = Rz → yR 75 14 [(0, .ref 0), (1, .ref 91), (2, .int ii), (3, .int (nI n)), (4, .int (nI m))] [] M Q := by
  intro d
  induction d using Nat.strongRecOn with
  | ind d ih =>
    intro m M L h hR hk hE hz
    refine yR.adv 2 (pc' := 17) (lv' := [(0, .ref 0), (1, .ref 91), (2, .int ii), (3, .int (nI n)), (4, .int (nI m))]) (st' := [.int (nI n), .int (nI m)]) (M' := M) rfl ?_
    refine yR.if2 .ge _ _ _ _ rfl (fun q1 => ?_) (fun q1 => ?_)
    · have q1' : (n : Int) ≤ m := zcT q1 (nI_toInt (by omega)) (nI_toInt (by omega))
      have hd : d = 0 := by omega
      subst hd
      have hz' : Rz = (none, L) := hz.symm
      exact (K2 (by rw [hz']) M (by rw [hz']; exact hR) (by rw [hz']; exact hk) hE).drop (by refine ⟨?_, ?_⟩ <;> simp [zget, zwf])
    · have q1' : ¬ (n : Int) ≤ m := zcF q1 (nI_toInt (by omega)) (nI_toInt (by omega))
      obtain ⟨d', rfl⟩ : ∃ d', d = d' + 1 := ⟨d - 1, by omega⟩
      obtain ⟨hii, h72⟩ := hi.resolve_left (by omega)
      have hix : ii + 3 * nI m = nI (i0 + 3 * m) := by rw [hii, show (3 : Int32) = iI 3 from rfl, nI_iI, nI_iI, nI_iI, iI_mul, iI_add]; rfl
      have hcM : ∀ j, j < 72 → M.1 92 j = cc j := fun j hj => by rw [(hE 92 j (by decide) (by simp)).1]; exact hcc j hj
      refine yR.adv 11 (pc' := 38) (lv' := [(5, .int (ii + (3 * (nI m)))), (0, .ref 0), (1, .ref 91), (2, .int ii), (3, .int (nI n)), (4, .int (nI m))]) (st' := [.int (ii + (3 * (nI m))), .ref 92, .ref 5]) (M' := M) rfl ?_
      rw [hix]
      refine yR.iald (i0 + 3 * m) _ _ _ rfl rfl (by decide) (rfl) (by omega) ?_
      refine yR.adv 5 (pc' := 47) (lv' := [(5, .int (nI (i0 + 3 * m))), (0, .ref 0), (1, .ref 91), (2, .int ii), (3, .int (nI n)), (4, .int (nI m))]) (st' := [.int ((nI (i0 + 3 * m)) + 1), .ref 92, .int (M.1 92 (i0 + 3 * m)), .ref 5]) (M' := M) rfl ?_
      refine yR.iald (i0 + 3 * m + 1) _ _ _ rfl rfl (by decide) (nI_1 _) (by omega) ?_
      refine yR.adv 5 (pc' := 56) (lv' := [(5, .int (nI (i0 + 3 * m))), (0, .ref 0), (1, .ref 91), (2, .int ii), (3, .int (nI n)), (4, .int (nI m))]) (st' := [.int ((nI (i0 + 3 * m)) + 2), .ref 92, .int (M.1 92 (i0 + 3 * m + 1)), .int (M.1 92 (i0 + 3 * m)), .ref 5]) (M' := M) rfl ?_
      refine yR.iald (i0 + 3 * m + 2) _ _ _ rfl rfl (by decide) (nI_add _ 2) (by omega) ?_
      rw [hcM _ (by omega), hcM _ (by omega), hcM _ (by omega)]
      by_cases hb : zbadL L (cc (i0 + 3 * m)) (cc (i0 + 3 * m + 1)) (cc (i0 + 3 * m + 2))
      · rw [zpls_bad hb] at hz
        refine yR.callK (M1 := M) _ rfl rfl rfl rfl rfl (m_add_bad_5 M L.length hR.1 hR.2.1 (hR.W hk) _ _ _ ((hR.bad _ _ _).mpr hb)) ?_
        show yR 75 60 [(5, .int (nI (i0 + 3 * m))), (0, .ref 0), (1, .ref 91), (2, .int ii), (3, .int (nI n)), (4, .int (nI m))] [.int (-2)] M _
        refine yR.adv 2 (pc' := 64) (lv' := [(6, .int (-2)), (5, .int (nI (i0 + 3 * m))), (0, .ref 0), (1, .ref 91), (2, .int ii), (3, .int (nI n)), (4, .int (nI m))]) (st' := [.int (-2)]) (M' := M) rfl ?_
        refine yR.if1 .ge _ _ _ _ rfl (fun q2 => ?_) (fun q2 => ?_)
        · exact absurd q2 (by decide)
        · refine yR.adv 1 (pc' := 69) (lv' := [(6, .int (-2)), (5, .int (nI (i0 + 3 * m))), (0, .ref 0), (1, .ref 91), (2, .int ii), (3, .int (nI n)), (4, .int (nI m))]) (st' := [.int (-2)]) (M' := M) rfl ?_
          refine yR.ret _ rfl rfl rfl ?_
          exact K1 (-2) (by rw [← hz]) M (hE.sub (by decide))
      · by_cases hf : lix L (cc (i0 + 3 * m), cc (i0 + 3 * m + 1)) 0 = none ∧ L.length = 24
        · rw [zpls_full hb hf] at hz
          refine yR.callK (M1 := M) _ rfl rfl rfl rfl rfl (m_addF_5 M L hR hk _ _ _ hb hf.1 hf.2) ?_
          show yR 75 60 [(5, .int (nI (i0 + 3 * m))), (0, .ref 0), (1, .ref 91), (2, .int ii), (3, .int (nI n)), (4, .int (nI m))] [.int (-4)] M _
          refine yR.adv 2 (pc' := 64) (lv' := [(6, .int (-4)), (5, .int (nI (i0 + 3 * m))), (0, .ref 0), (1, .ref 91), (2, .int ii), (3, .int (nI n)), (4, .int (nI m))]) (st' := [.int (-4)]) (M' := M) rfl ?_
          refine yR.if1 .ge _ _ _ _ rfl (fun q2 => ?_) (fun q2 => ?_)
          · exact absurd q2 (by decide)
          · refine yR.adv 1 (pc' := 69) (lv' := [(6, .int (-4)), (5, .int (nI (i0 + 3 * m))), (0, .ref 0), (1, .ref 91), (2, .int ii), (3, .int (nI n)), (4, .int (nI m))]) (st' := [.int (-4)]) (M' := M) rfl ?_
            refine yR.ret _ rfl rfl rfl ?_
            exact K1 (-4) (by rw [← hz]) M (hE.sub (by decide))
        · rw [zpls_go hb hf] at hz
          have hroom := zroom hR.2.1 hf
          have hl := hR.lay (by decide) (by decide) (by decide) (by decide) (by decide) (by decide) (cc (i0 + 3 * m)) (cc (i0 + 3 * m + 1)) (cc (i0 + 3 * m + 2)) hroom
          refine yR.callK (M1 := zlayM 5 3 6 7 8 M L.length (cc (i0 + 3 * m)) (cc (i0 + 3 * m + 1)) (cc (i0 + 3 * m + 2))) _ rfl rfl rfl rfl rfl (m_add_5 M L.length hR.1 hR.2.1 (hR.W hk) (cc (i0 + 3 * m)) (cc (i0 + 3 * m + 1)) (cc (i0 + 3 * m + 2)) (fun z => hb ((hR.bad _ _ _).mp z)) (by rw [hR.fnd]; exact hroom)) ?_
          show yR 75 60 [(5, .int (nI (i0 + 3 * m))), (0, .ref 0), (1, .ref 91), (2, .int ii), (3, .int (nI n)), (4, .int (nI m))] [.int (zlayR 6 7 M L.length (cc (i0 + 3 * m)) (cc (i0 + 3 * m + 1)))] (zlayM 5 3 6 7 8 M L.length (cc (i0 + 3 * m)) (cc (i0 + 3 * m + 1)) (cc (i0 + 3 * m + 2))) _
          generalize g1 : zlayM 5 3 6 7 8 M L.length (cc (i0 + 3 * m)) (cc (i0 + 3 * m + 1)) (cc (i0 + 3 * m + 2)) = M1
          rw [g1] at hl
          rw [hR.layR]
          have hnum : lnum L (cc (i0 + 3 * m), cc (i0 + 3 * m + 1)) ≤ 24 := by
            unfold lnum
            cases hx : lix L (cc (i0 + 3 * m), cc (i0 + 3 * m + 1)) 0 with
            | none => exact hR.2.1
            | some k => have := lix_lt hx; have := hR.2.1; simp; omega
          refine yR.adv 2 (pc' := 64) (lv' := [(6, .int (nI (lnum L (cc (i0 + 3 * m), cc (i0 + 3 * m + 1))))), (5, .int (nI (i0 + 3 * m))), (0, .ref 0), (1, .ref 91), (2, .int ii), (3, .int (nI n)), (4, .int (nI m))]) (st' := [.int (nI (lnum L (cc (i0 + 3 * m), cc (i0 + 3 * m + 1))))]) (M' := M1) rfl ?_
          refine yR.if1 .ge _ _ _ _ rfl (fun q2 => ?_) (fun q2 => ?_)
          · refine yR.adv 2 (pc' := 14) (lv' := [(4, .int (nI m + 1)), (6, .int (nI (lnum L (cc (i0 + 3 * m), cc (i0 + 3 * m + 1))))), (5, .int (nI (i0 + 3 * m))), (0, .ref 0), (1, .ref 91), (2, .int ii), (3, .int (nI n))]) (st' := []) (M' := M1) rfl ?_
            exact (ih d' (by omega) (m + 1) M1 _ (by omega) hl.1 (hk.add hb) (hE.trans hl.2) (by rw [show i0 + 3 * (m + 1) = i0 + 3 * m + 3 by omega]; exact hz)).drop (by refine ⟨?_, ?_⟩ <;> simp [zget, zwf, nI_succ])
          · exact absurd (show (0 : Int) ≤ (lnum L (cc (i0 + 3 * m), cc (i0 + 3 * m + 1)) : Int) by omega) (zcF q2 (nI_toInt (by omega)) rfl)
theorem m_addFrom_3 (M : zMm) (dom : Nat) (q W : Int) (L : zPl) (h : zRm dom q W M L) (cc : Nat → Int32) (ii : Int32) (i0 n : Nat) (hn : n < 2 ^ 31) (hi : n = 0 ∨ (ii = nI i0 ∧ i0 + 3 * n ≤ 72)) (hcc : ∀ j, j < 72 → M.1 92 j = cc j) : yR 75 0 [(0, .ref 0), (1, .ref 91), (2, .int ii), (3, .int (nI n))] [] M (fun r N => (∃ v, (zpls cc n i0 L).1 = some v ∧ r = some (.int v) ∧ zRm dom q W N L ∧ zKp [5, 6, 7, 8] [] M N) ∨ ((zpls cc n i0 L).1 = none ∧ r = some (.int (nI (zpls cc n i0 L).2.length)) ∧ zRm dom q W N (zpls cc n i0 L).2 ∧ zKp [1, 2, 3, 4, 5, 6, 7, 8] [] M N)) := by
  obtain ⟨hU, hk, hd, hq, hW, hdom, bq, bW⟩ := id h
  refine yR.adv 4 (pc' := 8) (lv' := [(0, .ref 0), (1, .ref 91), (2, .int ii), (3, .int (nI n))]) (st' := [.ref 1, .ref 5]) (M' := M) rfl ?_
  refine yR.call _ rfl rfl rfl rfl rfl (m_copyA M dom q W L h) (fun r1 M1 hq => ?_)
  obtain ⟨rfl, R1, a0, a1, a2, e1⟩ := hq
  show yR 75 11 [(0, .ref 0), (1, .ref 91), (2, .int ii), (3, .int (nI n))] [] M1 _
  refine yR.adv 2 (pc' := 14) (lv' := [(4, .int 0), (0, .ref 0), (1, .ref 91), (2, .int ii), (3, .int (nI n))]) (st' := []) (M' := M1) rfl ?_
  refine yR.drop (lv := [(0, .ref 0), (1, .ref 91), (2, .int ii), (3, .int (nI n)), (4, .int (nI 0))]) (by refine ⟨?_, ?_⟩ <;> simp [zget, zwf] <;> rfl) ?_
  refine m_addFrom_loop_3 M1 cc ii i0 n hn hi (fun j hj => by rw [(e1 92 j (by decide) (by simp)).1]; exact hcc j hj) (zpls cc n i0 L) (fun v hv M2 e2 => Or.inl ⟨v, hv, rfl, h.keep (fun a i z1 z2 => by rw [(e2 a i (by simp <;> omega) (by simp)).1, (e1 a i (by simp <;> omega) (by simp)).1]), e1.trans e2⟩) (fun hv M2 R2 K2 e2 => ?_) n 0 M1 L (Nat.zero_add _) R1 hk (zKp.refl _ _ _) rfl
  refine yR.adv 4 (pc' := 84) (lv' := [(0, .ref 0)]) (st' := [.ref 5, .ref 1]) (M' := M2) rfl ?_
  refine yR.call _ rfl rfl rfl rfl rfl (m_copyB M2 dom q W (zpls cc n i0 L).2 R2 K2 (by rw [(e2 5 0 (by decide) (by decide)).1]; exact a0) (by rw [(e2 5 1 (by decide) (by decide)).1]; exact a1) (by rw [(e2 5 2 (by decide) (by decide)).1]; exact a2) ⟨hdom, bq, bW⟩) (fun r1 M3 hq => ?_)
  obtain ⟨rfl, R3, e3⟩ := hq
  show yR 75 87 [(0, .ref 0)] [] M3 _
  refine yR.adv 3 (pc' := 94) (lv' := [(0, .ref 0)]) (st' := [.int (M3.1 1 3)]) (M' := M3) rfl ?_
  rw [R3.1.1]
  refine yR.ret _ rfl rfl rfl ?_
  exact Or.inr ⟨hv, rfl, R3, ((e1.sub (by decide)).trans (e2.sub (by decide))).trans (e3.sub (by decide))⟩
/-- places by a sheet that has a row -/
theorem m_places_3 (M : zMm) (dom : Nat) (q W : Int) (L : zPl) (h : zRm dom q W M L) (lane len : Nat) (hl : lane < 3) (hn : len ≤ 72) (hL : M.1 91 0 = nI lane) (hN : M.1 91 1 = nI len) (l i n : Int32) (hl2 : 0 ≤ l.toInt ∧ l.toInt ≤ 2) : yR 42 0 [(0, .ref 0), (1, .int 3), (2, .int l), (3, .int i), (4, .int n)] [] M (fun r N =>
      (¬ l = nI lane ∧ r = some (.int (-12)) ∧ zKp [] [(0, 14)] M N) ∨ (l = nI lane ∧ n.toInt < 0 ∧ r = some (.int (-14)) ∧ zKp [] [(0, 14)] M N) ∨ (l = nI lane ∧ 0 < n.toInt ∧ ¬ (0 ≤ i.toInt ∧ i.toInt + 3 * n.toInt ≤ len) ∧ r = some (.int (-13)) ∧ zKp [] [(0, 14)] M N) ∨
      (l = nI lane ∧ n.toInt = 0 ∧ r = some (.int (nI L.length)) ∧ zRm dom q W N L ∧ zKp [1, 2, 3, 4, 5, 6, 7, 8] [(0, 14)] M N) ∨
      (l = nI lane ∧ 0 < n.toInt ∧ (0 ≤ i.toInt ∧ i.toInt + 3 * n.toInt ≤ len) ∧ ((∃ v, (zpls (M.1 92) n.toInt.toNat i.toInt.toNat L).1 = some v ∧ r = some (.int v) ∧ zRm dom q W N L) ∨ ((zpls (M.1 92) n.toInt.toNat i.toInt.toNat L).1 = none ∧ r = some (.int (nI (zpls (M.1 92) n.toInt.toNat i.toInt.toNat L).2.length)) ∧ zRm dom q W N (zpls (M.1 92) n.toInt.toNat i.toInt.toNat L).2)) ∧ zKp [1, 2, 3, 4, 5, 6, 7, 8] [(0, 14)] M N)) := by
  refine yR.adv 3 (pc' := 5) (lv' := [(0, .ref 0), (1, .int 3), (2, .int l), (3, .int i), (4, .int n)]) (st' := []) (M' := zup M 0 14 0) rfl ?_
  generalize g0 : zup M 0 14 0 = M0
  have E0 : zKp [] [(0, 14)] M M0 := by rw [← g0]; exact (zKp.refl _ _ M).up (by simp)
  have hL' : M0.1 91 0 = nI lane := by rw [(E0 91 0 (by simp) (by decide)).1]; exact hL
  have hN' : M0.1 91 1 = nI len := by rw [(E0 91 1 (by simp) (by decide)).1]; exact hN
  have hcc : ∀ j, M0.1 92 j = M.1 92 j := fun j => (E0 92 j (by simp) (by simp)).1
  have R0 : zRm dom q W M0 L := h.keep (fun a i z1 z2 => (E0 a i (by simp) (by simp <;> omega)).1)
  have hm1 : ¬ M0.1 91 0 = -1 := by rw [hL']; exact nI_nm1 lane (by omega)
  have tn : (M0.1 91 1).toInt = len := by rw [hN']; exact nI_toInt (by omega)
  obtain ⟨v1, h1⟩ := zem (¬ M0.1 91 0 = -1 ∧ ¬ M0.1 91 0 = l)
  refine yR.adv 3 (pc' := 8) (lv' := [(0, .ref 0), (1, .int 3), (2, .int l), (3, .int i), (4, .int n)]) (st' := [.int 3, .int 0, .int 3]) (M' := M0) rfl ?_
  refine yR.callK (M1 := M0) _ rfl rfl rfl rfl rfl (m_fromV M0 3 0 3 0 3 rfl rfl 1 (Or.inl ⟨by decide, rfl⟩)) ?_
  show yR 42 11 [(0, .ref 0), (1, .int 3), (2, .int l), (3, .int i), (4, .int n)] [.int 1] M0 _
  refine yR.if1 .ne _ _ _ _ rfl (fun q1 => ?_) (fun q1 => ?_)
  · refine yR.adv 3 (pc' := 19) (lv' := [(0, .ref 0), (1, .int 3), (2, .int l), (3, .int i), (4, .int n)]) (st' := [.int 2, .int 0, .int l]) (M' := M0) rfl ?_
    refine yR.callK (M1 := M0) _ rfl rfl rfl rfl rfl (m_fromV M0 l 0 2 0 2 rfl rfl 1 (Or.inl ⟨hl2, rfl⟩)) ?_
    show yR 42 22 [(0, .ref 0), (1, .int 3), (2, .int l), (3, .int i), (4, .int n)] [.int 1] M0 _
    refine yR.if1 .ne _ _ _ _ rfl (fun q2 => ?_) (fun q2 => ?_)
    · refine yR.adv 7 (pc' := 39) (lv' := [(5, .ref 91), (0, .ref 0), (1, .int 3), (2, .int l), (3, .int i), (4, .int n)]) (st' := [.int l, .ref 91]) (M' := M0) rfl ?_
      refine yR.callK (M1 := M0) _ rfl rfl rfl rfl rfl (m_otherLane_91 M0 l v1 h1) ?_
      show yR 42 42 [(5, .ref 91), (0, .ref 0), (1, .int 3), (2, .int l), (3, .int i), (4, .int n)] [.int v1] M0 _
      refine yR.if1 .eq _ _ _ _ rfl (fun q3 => ?_) (fun q3 => ?_)
      · have z1 : l = nI lane := Classical.byContradiction fun y => zeq0 h1 q3 ⟨hm1, fun z => y (by rw [← z, hL'])⟩
        refine yR.adv 1 (pc' := 53) (lv' := [(5, .ref 91), (0, .ref 0), (1, .int 3), (2, .int l), (3, .int i), (4, .int n)]) (st' := [.ref 91]) (M' := M0) rfl ?_
        refine yR.callK (M1 := M0) _ rfl rfl rfl rfl rfl (m_hasNothing_91 M0 0 (Or.inr ⟨hm1, rfl⟩)) ?_
        show yR 42 56 [(5, .ref 91), (0, .ref 0), (1, .int 3), (2, .int l), (3, .int i), (4, .int n)] [.int 0] M0 _
        refine yR.if1 .eq _ _ _ _ rfl (fun q4 => ?_) (fun q4 => ?_)
        · refine yR.adv 1 (pc' := 67) (lv' := [(5, .ref 91), (0, .ref 0), (1, .int 3), (2, .int l), (3, .int i), (4, .int n)]) (st' := [.int n]) (M' := M0) rfl ?_
          refine yR.if1 .ge _ _ _ _ rfl (fun q5 => ?_) (fun q5 => ?_)
          · have q5' : 0 ≤ n.toInt := zcT q5 rfl rfl
            have hnn := Int32.toInt_lt n
            have en : n = nI n.toInt.toNat := by rw [nI_iI, Int.toNat_of_nonneg q5', iI_of]
            have tm : ((3 : Int64) * n.toInt64).toInt = 3 * n.toInt := by
              have hz := zmul_ok (x := (3 : Int64)) (y := n.toInt64) (A := 3) (B := 2 ^ 31) (by decide) (by rw [Int32.toInt_toInt64]; omega) (by decide)
              rw [hz.1, Int32.toInt_toInt64]
              rfl
            obtain ⟨v2, h2⟩ := zem (((3 : Int64) * n.toInt64).toInt = 0 ∨ (0 ≤ i.toInt ∧ i.toInt + ((3 : Int64) * n.toInt64).toInt ≤ (M0.1 91 1).toInt))
            refine yR.adv 6 (pc' := 86) (lv' := [(5, .ref 91), (0, .ref 0), (1, .int 3), (2, .int l), (3, .int i), (4, .int n)]) (st' := [.long (3 * n.toInt64), .int i, .ref 91]) (M' := M0) rfl ?_
            refine yR.callK (M1 := M0) _ rfl rfl rfl rfl rfl (m_hasCells_91 M0 i ((3 : Int64) * n.toInt64) (by rw [tm]; omega) (by rw [tm]; omega) v2 h2) ?_
            show yR 42 89 [(5, .ref 91), (0, .ref 0), (1, .int 3), (2, .int l), (3, .int i), (4, .int n)] [.int v2] M0 _
            refine yR.if1 .ne _ _ _ _ rfl (fun q6 => ?_) (fun q6 => ?_)
            · have z6 := zne0 h2 q6
              rw [tm, tn] at z6
              have hi : n.toInt.toNat = 0 ∨ (i = nI i.toInt.toNat ∧ i.toInt.toNat + 3 * n.toInt.toNat ≤ 72) := z6.elim (fun z => Or.inl (by omega)) (fun z => Or.inr ⟨by rw [nI_iI, Int.toNat_of_nonneg z.1, iI_of], by omega⟩)
              have A := m_addFrom_3 M0 dom q W L R0 (M.1 92) i i.toInt.toNat n.toInt.toNat (by omega) hi (fun j _ => hcc j)
              rw [← en] at A
              refine yR.adv 4 (pc' := 104) (lv' := [(5, .ref 91), (0, .ref 0), (1, .int 3), (2, .int l), (3, .int i), (4, .int n)]) (st' := [.int n, .int i, .ref 91, .ref 0]) (M' := M0) rfl ?_
              refine yR.call _ rfl rfl rfl rfl rfl A (fun r1 M1 hQ => ?_)
              by_cases hn0 : n.toInt = 0
              · have hz0 : n.toInt.toNat = 0 := by omega
                rw [hz0] at hQ
                rcases hQ with ⟨v, x1, _⟩ | ⟨x1, rfl, x2, x3⟩
                · cases x1
                · refine yR.ret _ rfl rfl rfl ?_
                  exact Or.inr (Or.inr (Or.inr (Or.inl ⟨z1, hn0, rfl, x2, (E0.sub (by decide)).trans (x3.sub (by decide))⟩)))
              · have z7 : 0 ≤ i.toInt ∧ i.toInt + 3 * n.toInt ≤ len := z6.resolve_left (by omega)
                rcases hQ with ⟨v, x1, rfl, x2, x3⟩ | ⟨x1, rfl, x2, x3⟩
                · refine yR.ret _ rfl rfl rfl ?_
                  exact Or.inr (Or.inr (Or.inr (Or.inr ⟨z1, by omega, z7, Or.inl ⟨v, x1, rfl, x2⟩, (E0.sub (by decide)).trans (x3.sub (by decide))⟩)))
                · refine yR.ret _ rfl rfl rfl ?_
                  exact Or.inr (Or.inr (Or.inr (Or.inr ⟨z1, by omega, z7, Or.inr ⟨x1, rfl, x2⟩, (E0.sub (by decide)).trans (x3.sub (by decide))⟩)))
            · have z6 := zne1 h2 q6
              rw [tm, tn] at z6
              refine yR.adv 2 (pc' := 94) (lv' := [(5, .ref 91), (0, .ref 0), (1, .int 3), (2, .int l), (3, .int i), (4, .int n)]) (st' := [.int 3, .ref 0]) (M' := M0) rfl ?_
              refine yR.callK (M1 := zup M0 0 14 3) _ rfl rfl rfl rfl rfl (m_failed M0 3) ?_
              show yR 42 97 [(5, .ref 91), (0, .ref 0), (1, .int 3), (2, .int l), (3, .int i), (4, .int n)] [.int (-13)] (zup M0 0 14 3) _
              refine yR.ret _ rfl rfl rfl ?_
              exact Or.inr (Or.inr (Or.inl ⟨z1, by omega, fun z => z6 (Or.inr z), rfl, E0.up (by simp)⟩))
          · have q5' : ¬ 0 ≤ n.toInt := zcF q5 rfl rfl
            refine yR.adv 2 (pc' := 72) (lv' := [(5, .ref 91), (0, .ref 0), (1, .int 3), (2, .int l), (3, .int i), (4, .int n)]) (st' := [.int 4, .ref 0]) (M' := M0) rfl ?_
            refine yR.callK (M1 := zup M0 0 14 4) _ rfl rfl rfl rfl rfl (m_failed M0 4) ?_
            show yR 42 75 [(5, .ref 91), (0, .ref 0), (1, .int 3), (2, .int l), (3, .int i), (4, .int n)] [.int (-14)] (zup M0 0 14 4) _
            refine yR.ret _ rfl rfl rfl ?_
            exact Or.inr (Or.inl ⟨z1, by omega, rfl, E0.up (by simp)⟩)
        · exact absurd q4 (by decide)
      · have z1 := zeq1 h1 q3
        refine yR.adv 2 (pc' := 47) (lv' := [(5, .ref 91), (0, .ref 0), (1, .int 3), (2, .int l), (3, .int i), (4, .int n)]) (st' := [.int 2, .ref 0]) (M' := M0) rfl ?_
        refine yR.callK (M1 := zup M0 0 14 2) _ rfl rfl rfl rfl rfl (m_failed M0 2) ?_
        show yR 42 50 [(5, .ref 91), (0, .ref 0), (1, .int 3), (2, .int l), (3, .int i), (4, .int n)] [.int (-12)] (zup M0 0 14 2) _
        refine yR.ret _ rfl rfl rfl ?_
        exact Or.inl ⟨fun z => z1.2 (by rw [hL', z]), rfl, E0.up (by simp)⟩
    · exact absurd q2 (by decide)
  · exact absurd q1 (by decide)
