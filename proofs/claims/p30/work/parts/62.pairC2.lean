/-! ===== pair, of the class: the call ===== -/
theorem m_pair_no (M : zMm) (d q : Int32) (h : ¬ ((1 ≤ d.toInt ∧ d.toInt ≤ 5) ∧ (1 ≤ q.toInt ∧ q.toInt ≤ 6))) : yOk 53 0 [(0, .ref 0), (1, .int d), (2, .int q)] [] M (some (.int (-2))) M := by
  refine yR.ok ?_
  obtain ⟨v1, h1⟩ := zem (1 ≤ d.toInt ∧ d.toInt ≤ 5)
  obtain ⟨v2, h2⟩ := zem (1 ≤ q.toInt ∧ q.toInt ≤ 6)
  refine yR.adv 3 (pc' := 3) (lv' := [(0, .ref 0), (1, .int d), (2, .int q)]) (st' := [.int 5, .int 1, .int d]) (M' := M) rfl ?_
  refine yR.callK (M1 := M) _ rfl rfl rfl rfl rfl (m_fromV M d 1 5 1 5 rfl rfl v1 h1) ?_
  show yR 53 6 [(0, .ref 0), (1, .int d), (2, .int q)] [.int v1] M _
  refine yR.if1 .eq _ _ _ _ rfl (fun q1 => ?_) (fun q1 => ?_)
  · refine yR.adv 1 (pc' := 21) (lv' := [(0, .ref 0), (1, .int d), (2, .int q)]) (st' := [.int (-2)]) (M' := M) rfl ?_
    refine yR.ret _ rfl rfl rfl ?_
    exact ⟨rfl, rfl⟩
  · refine yR.adv 3 (pc' := 13) (lv' := [(0, .ref 0), (1, .int d), (2, .int q)]) (st' := [.int 6, .int 1, .int q]) (M' := M) rfl ?_
    refine yR.callK (M1 := M) _ rfl rfl rfl rfl rfl (m_fromV M q 1 6 1 6 rfl rfl v2 h2) ?_
    show yR 53 16 [(0, .ref 0), (1, .int d), (2, .int q)] [.int v2] M _
    refine yR.if1 .ne _ _ _ _ rfl (fun q2 => ?_) (fun q2 => ?_)
    · exact absurd ⟨zeq1 h1 q1, zne0 h2 q2⟩ h
    · refine yR.adv 1 (pc' := 21) (lv' := [(0, .ref 0), (1, .int d), (2, .int q)]) (st' := [.int (-2)]) (M' := M) rfl ?_
      refine yR.ret _ rfl rfl rfl ?_
      exact ⟨rfl, rfl⟩
theorem m_pair (M : zMm) (dom : Nat) (hdom : dom < 3) (q : Nat) (hq : 1 ≤ q ∧ q ≤ 6) (dg : Nat) (hdg : 1 ≤ dg ∧ dg ≤ 5) (hd : M.1 1 0 = nI dom) (T : Nat × Nat × Nat) (hT : zoutP dom q dg (zreps dom q).length 0 (25, 0, 0) = T) :
    yR 53 0 [(0, .ref 0), (1, .int (nI dg)), (2, .int (iI q))] [] M (fun r N => (T.1 ≤ 24 ∧ r = some (.int (nI T.1)) ∧ N.1 1 0 = nI dom ∧ N.1 1 1 = iI q ∧ N.1 1 2 = (zpW dom q (zfr dom q T.2.1) (zcnt dom q T.2.1) (zfr dom q T.2.2) (zcnt dom q T.2.2)).toInt32 ∧ zRu 1 3 2 3 4 N (zpair dom q T.2.1 T.2.2) ∧ zLok (zpair dom q T.2.1 T.2.2) ∧ zKp (1 :: zAp) [] M N) ∨ (¬ T.1 ≤ 24 ∧ r = some (.int (-9)) ∧ zKp zA1 [] M N)) := by
  have tq : (iI (q : Int)).toInt = q := iI_toInt (by omega)
  have td : (nI dg).toInt = dg := nI_toInt (by omega)
  refine yR.adv 3 (pc' := 3) (lv' := [(0, .ref 0), (1, .int (nI dg)), (2, .int (iI q))]) (st' := [.int 5, .int 1, .int (nI dg)]) (M' := M) rfl ?_
  refine yR.callK (M1 := M) _ rfl rfl rfl rfl rfl (m_fromV M (nI dg) 1 5 1 5 rfl rfl 1 (Or.inl ⟨by rw [td]; omega, rfl⟩)) ?_
  show yR 53 6 [(0, .ref 0), (1, .int (nI dg)), (2, .int (iI q))] [.int 1] M _
  refine yR.if1 .eq _ _ _ _ rfl (fun q1 => ?_) (fun q1 => ?_)
  · exact absurd q1 (by decide)
  · refine yR.adv 3 (pc' := 13) (lv' := [(0, .ref 0), (1, .int (nI dg)), (2, .int (iI q))]) (st' := [.int 6, .int 1, .int (iI q)]) (M' := M) rfl ?_
    refine yR.callK (M1 := M) _ rfl rfl rfl rfl rfl (m_fromV M (iI q) 1 6 1 6 rfl rfl 1 (Or.inl ⟨by rw [tq]; omega, rfl⟩)) ?_
    show yR 53 16 [(0, .ref 0), (1, .int (nI dg)), (2, .int (iI q))] [.int 1] M _
    refine yR.if1 .ne _ _ _ _ rfl (fun q2 => ?_) (fun q2 => ?_)
    · refine yR.adv 8 (pc' := 38) (lv' := [(0, .ref 0), (1, .int (nI dg)), (2, .int (iI q))]) (st' := [.ref 9, .int (iI q), .int (M.1 1 0), .ref 12]) (M' := M) rfl ?_
      rw [hd]
      refine yR.call _ rfl rfl rfl rfl rfl (m_grid M dom hdom q hq) (fun r1 M1 hq => ?_)
      obtain ⟨rfl, G1, e1⟩ := hq
      show yR 53 41 [(0, .ref 0), (1, .int (nI dg)), (2, .int (iI q))] [] M1 _
      refine yR.adv 3 (pc' := 46) (lv' := [(0, .ref 0), (1, .int (nI dg)), (2, .int (iI q))]) (st' := [.int (nI dg), .ref 12]) (M' := M1) rfl ?_
      refine yR.call _ rfl rfl rfl rfl rfl (m_few M1 dom hdom q hq dg (by omega) G1 T hT) (fun r1 M2 hq => ?_)
      obtain ⟨rfl, F2⟩ := hq
      show yR 53 49 [(0, .ref 0), (1, .int (nI dg)), (2, .int (iI q))] [.int (if T.1 ≤ 24 then 1 else 0)] M2 _
      obtain ⟨G2, T25, hbest, e2⟩ := F2
      have hfound := zout_ok (ok := zokR dom q dg) (cnt := zcnt dom q) (n := (zreps dom q).length) (zreps dom q).length 0 (25, 0, 0) (Nat.zero_add _) ⟨Nat.le_refl _, fun h => absurd h (by decide)⟩
      rw [show zout (zokR dom q dg) (zcnt dom q) (zreps dom q).length (zreps dom q).length 0 (25, 0, 0) = T from hT] at hfound
      have hA : ∀ a, 9 ≤ a → a < 54 → a ∈ zA1 := fun a h1 h2 => zA1_mem.mpr ⟨h1, h2⟩
      have E2 : zKp zA1 [] M M2 := e1.trans (e2.mono (fun a ha => by simp at ha; exact hA a (by omega) (by omega)) (fun a i ha => by simp at ha; exact Or.inl (hA a (by omega) (by omega))))
      by_cases hc : T.1 ≤ 24
      · rw [if_pos hc]
        refine yR.if1 .ne _ _ _ _ rfl (fun q3 => ?_) (fun q3 => ?_)
        · obtain ⟨p1, p2, p3, p4⟩ := hfound.2 (by omega)
          obtain ⟨b1, b2⟩ := hbest (by omega)
          have hd2 : M2.1 1 0 = nI dom := by rw [(E2 1 0 (by decide) (by simp)).1]; exact hd
          refine yR.adv 7 (pc' := 70) (lv' := [(0, .ref 0), (1, .int (nI dg)), (2, .int (iI q))]) (st' := [.int (M2.1 12 18), .int (M2.1 12 17), .ref 0]) (M' := M2) rfl ?_
          rw [b1]
          rw [b2]
          refine yR.call _ rfl rfl rfl rfl rfl (m_becomePair M2 dom hdom q hq T.2.1 T.2.2 p1 p2 G2 hd2 (zokR_of p3).1) (fun r1 M3 hq => ?_)
          obtain ⟨rfl, r0, r1, r2, r3, r4, e3⟩ := hq
          show yR 53 73 [(0, .ref 0), (1, .int (nI dg)), (2, .int (iI q))] [] M3 _
          have hlen : (zpair dom q T.2.1 T.2.2).length = T.1 := by rw [p4]; unfold zpair zcnt; simp
          have r3' : M3.1 1 3 = nI T.1 := by rw [← hlen]; exact r3.1
          refine yR.adv 3 (pc' := 80) (lv' := [(0, .ref 0), (1, .int (nI dg)), (2, .int (iI q))]) (st' := [.int (M3.1 1 3)]) (M' := M3) rfl ?_
          rw [r3']
          refine yR.ret _ rfl rfl rfl ?_
          exact Or.inl ⟨hc, rfl, r0, r1, r2, r3, r4, (E2.mono (fun a ha => by unfold zAp; simp [ha]) (by simp)).trans e3⟩
        · exact absurd q3 (by decide)
      · rw [if_neg hc]
        refine yR.if1 .ne _ _ _ _ rfl (fun q3 => ?_) (fun q3 => ?_)
        · exact absurd q3 (by decide)
        · refine yR.adv 1 (pc' := 54) (lv' := [(0, .ref 0), (1, .int (nI dg)), (2, .int (iI q))]) (st' := [.int (-9)]) (M' := M2) rfl ?_
          refine yR.ret _ rfl rfl rfl ?_
          exact Or.inr ⟨hc, rfl, E2⟩
    · exact absurd q2 (by decide)
