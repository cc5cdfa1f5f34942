/-! ===== add on a full rule; put, at, of both ===== -/
theorem m_addF_1 (M : zMm) (L : zPl) (hR : zRu 1 3 2 3 4 M L) (hk : zLok L) (x y w : Int32) (hb : ¬ zbadL L x y w) (hn : lix L (x, y) 0 = none) (h24 : L.length = 24) : yOk 26 0 [(0, .ref 1), (1, .int x), (2, .int y), (3, .int w)] [] M (some (.int (-4))) M := by
  refine yR.ok ?_
  refine yR.adv 4 (pc' := 4) (lv' := [(0, .ref 1), (1, .int x), (2, .int y), (3, .int w)]) (st' := [.int w, .int y, .int x, .ref 1]) (M' := M) rfl ?_
  refine yR.callK (M1 := M) _ rfl rfl rfl rfl rfl (m_refusal_1 M L.length hR.1 hR.2.1 (hR.W hk) x y w 0 (Or.inr ⟨fun z => hb ((hR.bad x y w).mp z), rfl⟩)) ?_
  show yR 26 7 [(0, .ref 1), (1, .int x), (2, .int y), (3, .int w)] [.int 0] M _
  refine yR.adv 2 (pc' := 11) (lv' := [(4, .int 0), (0, .ref 1), (1, .int x), (2, .int y), (3, .int w)]) (st' := [.int 0]) (M' := M) rfl ?_
  refine yR.if1 .eq _ _ _ _ rfl (fun q1 => ?_) (fun q1 => ?_)
  · refine yR.adv 3 (pc' := 20) (lv' := [(4, .int 0), (0, .ref 1), (1, .int x), (2, .int y), (3, .int w)]) (st' := [.int y, .int x, .ref 1]) (M' := M) rfl ?_
    refine yR.callK (M1 := M) _ rfl rfl rfl rfl rfl (m_numberOf_1 M L.length hR.1 hR.2.1 x y) ?_
    show yR 26 23 [(4, .int 0), (0, .ref 1), (1, .int x), (2, .int y), (3, .int w)] [.int (zfv (-1) (zfnd (M.1 2) (M.1 3) x y L.length 0))] M _
    rw [hR.fnd, hn]
    show yR 26 23 [(4, .int 0), (0, .ref 1), (1, .int x), (2, .int y), (3, .int w)] [.int (-1)] M _
    refine yR.adv 3 (pc' := 28) (lv' := [(5, .int (-1)), (4, .int 0), (0, .ref 1), (1, .int x), (2, .int y), (3, .int w)]) (st' := [.int (-1), .int (-1)]) (M' := M) rfl ?_
    refine yR.if2 .eq _ _ _ _ rfl (fun q2 => ?_) (fun q2 => ?_)
    · refine yR.adv 3 (pc' := 51) (lv' := [(5, .int (-1)), (4, .int 0), (0, .ref 1), (1, .int x), (2, .int y), (3, .int w)]) (st' := [.int 24, .int (M.1 1 3)]) (M' := M) rfl ?_
      rw [hR.1]
      refine yR.if2 .lt _ _ _ _ rfl (fun q3 => ?_) (fun q3 => ?_)
      · have q3' : (L.length : Int) < 24 := zcT q3 (nI_toInt (by omega)) rfl
        omega
      · refine yR.adv 1 (pc' := 56) (lv' := [(5, .int (-1)), (4, .int 0), (0, .ref 1), (1, .int x), (2, .int y), (3, .int w)]) (st' := [.int (-4)]) (M' := M) rfl ?_
        refine yR.ret _ rfl rfl rfl ?_
        exact ⟨rfl, rfl⟩
    · exact absurd q2 (by decide)
  · exact absurd q1 (by decide)
theorem m_addF_5 (M : zMm) (L : zPl) (hR : zRu 5 3 6 7 8 M L) (hk : zLok L) (x y w : Int32) (hb : ¬ zbadL L x y w) (hn : lix L (x, y) 0 = none) (h24 : L.length = 24) : yOk 26 0 [(0, .ref 5), (1, .int x), (2, .int y), (3, .int w)] [] M (some (.int (-4))) M := by
  refine yR.ok ?_
  refine yR.adv 4 (pc' := 4) (lv' := [(0, .ref 5), (1, .int x), (2, .int y), (3, .int w)]) (st' := [.int w, .int y, .int x, .ref 5]) (M' := M) rfl ?_
  refine yR.callK (M1 := M) _ rfl rfl rfl rfl rfl (m_refusal_5 M L.length hR.1 hR.2.1 (hR.W hk) x y w 0 (Or.inr ⟨fun z => hb ((hR.bad x y w).mp z), rfl⟩)) ?_
  show yR 26 7 [(0, .ref 5), (1, .int x), (2, .int y), (3, .int w)] [.int 0] M _
  refine yR.adv 2 (pc' := 11) (lv' := [(4, .int 0), (0, .ref 5), (1, .int x), (2, .int y), (3, .int w)]) (st' := [.int 0]) (M' := M) rfl ?_
  refine yR.if1 .eq _ _ _ _ rfl (fun q1 => ?_) (fun q1 => ?_)
  · refine yR.adv 3 (pc' := 20) (lv' := [(4, .int 0), (0, .ref 5), (1, .int x), (2, .int y), (3, .int w)]) (st' := [.int y, .int x, .ref 5]) (M' := M) rfl ?_
    refine yR.callK (M1 := M) _ rfl rfl rfl rfl rfl (m_numberOf_5 M L.length hR.1 hR.2.1 x y) ?_
    show yR 26 23 [(4, .int 0), (0, .ref 5), (1, .int x), (2, .int y), (3, .int w)] [.int (zfv (-1) (zfnd (M.1 6) (M.1 7) x y L.length 0))] M _
    rw [hR.fnd, hn]
    show yR 26 23 [(4, .int 0), (0, .ref 5), (1, .int x), (2, .int y), (3, .int w)] [.int (-1)] M _
    refine yR.adv 3 (pc' := 28) (lv' := [(5, .int (-1)), (4, .int 0), (0, .ref 5), (1, .int x), (2, .int y), (3, .int w)]) (st' := [.int (-1), .int (-1)]) (M' := M) rfl ?_
    refine yR.if2 .eq _ _ _ _ rfl (fun q2 => ?_) (fun q2 => ?_)
    · refine yR.adv 3 (pc' := 51) (lv' := [(5, .int (-1)), (4, .int 0), (0, .ref 5), (1, .int x), (2, .int y), (3, .int w)]) (st' := [.int 24, .int (M.1 5 3)]) (M' := M) rfl ?_
      rw [hR.1]
      refine yR.if2 .lt _ _ _ _ rfl (fun q3 => ?_) (fun q3 => ?_)
      · have q3' : (L.length : Int) < 24 := zcT q3 (nI_toInt (by omega)) rfl
        omega
      · refine yR.adv 1 (pc' := 56) (lv' := [(5, .int (-1)), (4, .int 0), (0, .ref 5), (1, .int x), (2, .int y), (3, .int w)]) (st' := [.int (-4)]) (M' := M) rfl ?_
        refine yR.ret _ rfl rfl rfl ?_
        exact ⟨rfl, rfl⟩
    · exact absurd q2 (by decide)
  · exact absurd q1 (by decide)
theorem m_placeF (M : zMm) (L : zPl) (hR : zRu 1 3 2 3 4 M L) (hk : zLok L) (x y w : Int32) (hb : ¬ zbadL L x y w) (hn : lix L (x, y) 0 = none) (h24 : L.length = 24) : yOk 40 0 [(0, .ref 0), (1, .int x), (2, .int y), (3, .int w)] [] M (some (.int (-4))) M := by
  refine yR.ok ?_
  refine yR.adv 5 (pc' := 7) (lv' := [(0, .ref 0), (1, .int x), (2, .int y), (3, .int w)]) (st' := [.int w, .int y, .int x, .ref 1]) (M' := M) rfl ?_
  refine yR.callK (M1 := M) _ rfl rfl rfl rfl rfl (m_addF_1 M L hR hk x y w hb hn h24) ?_
  show yR 40 10 [(0, .ref 0), (1, .int x), (2, .int y), (3, .int w)] [.int (-4)] M _
  refine yR.ret _ rfl rfl rfl ?_
  exact ⟨rfl, rfl⟩
/-- cut to a lane -/
def zcut (lane : Nat) (v : Int32) : Int32 := if lane = 0 then v.toInt8.toInt32 else if lane = 1 then v.toInt16.toInt32 else v
theorem m_write_0 (M : zMm) (lane : Nat) (hl : lane < 3) (hL : M.1 85 0 = nI lane) (i : Nat) (hi : i < 72) (v : Int32) : yOk 36 0 [(0, .ref 85), (1, .int (nI i)), (2, .int v)] [] M none (zup M 86 i (zcut lane v)) := by
  refine yR.ok ?_
  have h : lane = 0 ∨ lane = 1 ∨ lane = 2 := by omega
  rcases h with rfl | rfl | rfl
  · have hL' : M.1 85 0 = 0 := hL
    refine yR.adv 2 (pc' := 4) (lv' := [(0, .ref 85), (1, .int (nI i)), (2, .int v)]) (st' := [.int (M.1 85 0)]) (M' := M) rfl ?_
    rw [hL']
    refine yR.adv 1 (pc' := 32) (lv' := [(0, .ref 85), (1, .int (nI i)), (2, .int v)]) (st' := []) (M' := M) rfl ?_
    refine yR.adv 5 (pc' := 39) (lv' := [(0, .ref 85), (1, .int (nI i)), (2, .int v)]) (st' := [.int v.toInt8.toInt32, .int (nI i), .ref 86]) (M' := M) rfl ?_
    refine yR.iast i _ _ _ rfl rfl (by decide) (rfl) (by omega) ?_
    refine yR.adv 1 (pc' := 61) (lv' := [(0, .ref 85), (1, .int (nI i)), (2, .int v)]) (st' := []) (M' := zup M 86 i v.toInt8.toInt32) rfl ?_
    refine yR.ret _ rfl rfl rfl ?_
    exact ⟨rfl, rfl⟩
  · have hL' : M.1 85 0 = 1 := hL
    refine yR.adv 2 (pc' := 4) (lv' := [(0, .ref 85), (1, .int (nI i)), (2, .int v)]) (st' := [.int (M.1 85 0)]) (M' := M) rfl ?_
    rw [hL']
    refine yR.adv 1 (pc' := 43) (lv' := [(0, .ref 85), (1, .int (nI i)), (2, .int v)]) (st' := []) (M' := M) rfl ?_
    refine yR.adv 5 (pc' := 50) (lv' := [(0, .ref 85), (1, .int (nI i)), (2, .int v)]) (st' := [.int v.toInt16.toInt32, .int (nI i), .ref 86]) (M' := M) rfl ?_
    refine yR.iast i _ _ _ rfl rfl (by decide) (rfl) (by omega) ?_
    refine yR.adv 1 (pc' := 61) (lv' := [(0, .ref 85), (1, .int (nI i)), (2, .int v)]) (st' := []) (M' := zup M 86 i v.toInt16.toInt32) rfl ?_
    refine yR.ret _ rfl rfl rfl ?_
    exact ⟨rfl, rfl⟩
  · have hL' : M.1 85 0 = 2 := hL
    refine yR.adv 2 (pc' := 4) (lv' := [(0, .ref 85), (1, .int (nI i)), (2, .int v)]) (st' := [.int (M.1 85 0)]) (M' := M) rfl ?_
    rw [hL']
    refine yR.adv 1 (pc' := 54) (lv' := [(0, .ref 85), (1, .int (nI i)), (2, .int v)]) (st' := []) (M' := M) rfl ?_
    refine yR.adv 4 (pc' := 60) (lv' := [(0, .ref 85), (1, .int (nI i)), (2, .int v)]) (st' := [.int v, .int (nI i), .ref 86]) (M' := M) rfl ?_
    refine yR.iast i _ _ _ rfl rfl (by decide) (rfl) (by omega) ?_
    skip
    refine yR.ret _ rfl rfl rfl ?_
    exact ⟨rfl, rfl⟩
theorem m_put_0 (M N : zMm) (lane len : Nat) (hl : lane < 3) (hn : len ≤ 72) (hL : M.1 85 0 = nI lane) (hN : M.1 85 1 = nI len) (i x v : Int32) (hv : (¬ (0 ≤ i.toInt ∧ i.toInt < len) ∧ v = -13 ∧ N = zup (zup M 0 14 0) 0 14 3) ∨ ((0 ≤ i.toInt ∧ i.toInt < len) ∧ v = 1 ∧ N = zup (zup M 0 14 0) 86 i.toInt.toNat (zcut lane x))) : yOk 59 0 [(0, .ref 0), (1, .int 0), (2, .int i), (3, .int x)] [] M (some (.int v)) N := by
  refine yR.ok ?_
  have hL' : (zup M 0 14 0).1 85 0 = nI lane := by rw [zup_i, if_neg (by omega)]; exact hL
  have hN' : (zup M 0 14 0).1 85 1 = nI len := by rw [zup_i, if_neg (by omega)]; exact hN
  have tn : ((zup M 0 14 0).1 85 1).toInt = len := by rw [hN']; exact nI_toInt (by omega)
  obtain ⟨v2, h2⟩ := zem ((1 : Int64).toInt = 0 ∨ (0 ≤ i.toInt ∧ i.toInt + (1 : Int64).toInt ≤ ((zup M 0 14 0).1 85 1).toInt))
  have e2 : ((1 : Int64).toInt = 0 ∨ (0 ≤ i.toInt ∧ i.toInt + (1 : Int64).toInt ≤ ((zup M 0 14 0).1 85 1).toInt)) ↔ (0 ≤ i.toInt ∧ i.toInt < len) := by
    rw [tn]
    have : (1 : Int64).toInt = 1 := rfl
    rw [this]
    omega
  refine yR.adv 6 (pc' := 8) (lv' := [(0, .ref 0), (1, .int 0), (2, .int i), (3, .int x)]) (st' := [.int 3, .int 0, .int 0]) (M' := zup M 0 14 0) rfl ?_
  refine yR.callK (M1 := zup M 0 14 0) _ rfl rfl rfl rfl rfl (m_fromV (zup M 0 14 0) 0 0 3 0 3 rfl rfl 1 (Or.inl ⟨by decide, rfl⟩)) ?_
  show yR 59 11 [(0, .ref 0), (1, .int 0), (2, .int i), (3, .int x)] [.int 1] (zup M 0 14 0) _
  refine yR.if1 .ne _ _ _ _ rfl (fun q1 => ?_) (fun q1 => ?_)
  · refine yR.adv 6 (pc' := 26) (lv' := [(4, .ref 85), (0, .ref 0), (1, .int 0), (2, .int i), (3, .int x)]) (st' := [.ref 85]) (M' := zup M 0 14 0) rfl ?_
    refine yR.callK (M1 := zup M 0 14 0) _ rfl rfl rfl rfl rfl (m_hasNothing_85 (zup M 0 14 0) 0 (Or.inr ⟨by rw [hL']; exact nI_nm1 lane (by omega), rfl⟩)) ?_
    show yR 59 29 [(4, .ref 85), (0, .ref 0), (1, .int 0), (2, .int i), (3, .int x)] [.int 0] (zup M 0 14 0) _
    refine yR.if1 .eq _ _ _ _ rfl (fun q2 => ?_) (fun q2 => ?_)
    · refine yR.adv 3 (pc' := 42) (lv' := [(4, .ref 85), (0, .ref 0), (1, .int 0), (2, .int i), (3, .int x)]) (st' := [.long 1, .int i, .ref 85]) (M' := zup M 0 14 0) rfl ?_
      refine yR.callK (M1 := zup M 0 14 0) _ rfl rfl rfl rfl rfl (m_hasCells_85 (zup M 0 14 0) i 1 (by decide) (by decide) v2 h2) ?_
      show yR 59 45 [(4, .ref 85), (0, .ref 0), (1, .int 0), (2, .int i), (3, .int x)] [.int v2] (zup M 0 14 0) _
      refine yR.if1 .ne _ _ _ _ rfl (fun q3 => ?_) (fun q3 => ?_)
      · have z3 := e2.mp (zne0 h2 q3)
        have hv2 := hv.resolve_left (fun z => z.1 z3)
        have ei : i = nI i.toInt.toNat := by rw [nI_iI, Int.toNat_of_nonneg z3.1, iI_of]
        refine yR.adv 3 (pc' := 58) (lv' := [(4, .ref 85), (0, .ref 0), (1, .int 0), (2, .int i), (3, .int x)]) (st' := [.int x, .int i, .ref 85]) (M' := zup M 0 14 0) rfl ?_
        rw [show (Value.int i) = Value.int (nI i.toInt.toNat) from by rw [← ei]]
        refine yR.callK (M1 := zup (zup M 0 14 0) 86 i.toInt.toNat (zcut lane x)) _ rfl rfl rfl rfl rfl (m_write_0 (zup M 0 14 0) lane hl hL' i.toInt.toNat (by omega) x) ?_
        show yR 59 61 [(4, .ref 85), (0, .ref 0), (1, .int 0), (2, .int (nI i.toInt.toNat)), (3, .int x)] [] (zup (zup M 0 14 0) 86 i.toInt.toNat (zcut lane x)) _
        refine yR.adv 1 (pc' := 62) (lv' := [(4, .ref 85), (0, .ref 0), (1, .int 0), (2, .int (nI i.toInt.toNat)), (3, .int x)]) (st' := [.int 1]) (M' := zup (zup M 0 14 0) 86 i.toInt.toNat (zcut lane x)) rfl ?_
        refine yR.ret _ rfl rfl rfl ?_
        exact ⟨by rw [hv2.2.1], by rw [hv2.2.2]⟩
      · have z3 := fun z => zne1 h2 q3 (e2.mpr z)
        have hv2 := hv.resolve_right (fun z => z3 z.1)
        refine yR.adv 2 (pc' := 50) (lv' := [(4, .ref 85), (0, .ref 0), (1, .int 0), (2, .int i), (3, .int x)]) (st' := [.int 3, .ref 0]) (M' := zup M 0 14 0) rfl ?_
        refine yR.callK (M1 := zup (zup M 0 14 0) 0 14 3) _ rfl rfl rfl rfl rfl (m_failed (zup M 0 14 0) 3) ?_
        show yR 59 53 [(4, .ref 85), (0, .ref 0), (1, .int 0), (2, .int i), (3, .int x)] [.int (-13)] (zup (zup M 0 14 0) 0 14 3) _
        refine yR.ret _ rfl rfl rfl ?_
        exact ⟨by rw [hv2.2.1], by rw [hv2.2.2]⟩
    · exact absurd q2 (by decide)
  · exact absurd q1 (by decide)
theorem m_reading_0 (M : zMm) (lane len : Nat) (hl : lane < 3) (hn : len ≤ 72) (hL : M.1 85 0 = nI lane) (hN : M.1 85 1 = nI len) (i l v : Int32) (hv : (¬ l = nI lane ∧ v = 2) ∨ (l = nI lane ∧ ¬ (0 ≤ i.toInt ∧ i.toInt < len) ∧ v = 3) ∨ (l = nI lane ∧ (0 ≤ i.toInt ∧ i.toInt < len) ∧ v = 0)) : yOk 88 0 [(0, .ref 85), (1, .int i), (2, .int l)] [] M (some (.int v)) M := by
  refine yR.ok ?_
  have tn : (M.1 85 1).toInt = len := by rw [hN]; exact nI_toInt (by omega)
  have hm1 : ¬ M.1 85 0 = -1 := by rw [hL]; exact nI_nm1 lane (by omega)
  obtain ⟨v1, h1⟩ := zem (¬ M.1 85 0 = -1 ∧ ¬ M.1 85 0 = l)
  obtain ⟨v2, h2⟩ := zem ((1 : Int64).toInt = 0 ∨ (0 ≤ i.toInt ∧ i.toInt + (1 : Int64).toInt ≤ (M.1 85 1).toInt))
  have e2 : ((1 : Int64).toInt = 0 ∨ (0 ≤ i.toInt ∧ i.toInt + (1 : Int64).toInt ≤ (M.1 85 1).toInt)) ↔ (0 ≤ i.toInt ∧ i.toInt < len) := by
    rw [tn]
    have : (1 : Int64).toInt = 1 := rfl
    rw [this]
    omega
  refine yR.adv 2 (pc' := 2) (lv' := [(0, .ref 85), (1, .int i), (2, .int l)]) (st' := [.int l, .ref 85]) (M' := M) rfl ?_
  refine yR.callK (M1 := M) _ rfl rfl rfl rfl rfl (m_otherLane_85 M l v1 h1) ?_
  show yR 88 5 [(0, .ref 85), (1, .int i), (2, .int l)] [.int v1] M _
  refine yR.if1 .eq _ _ _ _ rfl (fun q1 => ?_) (fun q1 => ?_)
  · have z1 : l = nI lane := Classical.byContradiction fun y => zeq0 h1 q1 ⟨hm1, fun z => y (by rw [← z, hL])⟩
    have hv2 := hv.resolve_left (fun z => z.1 z1)
    refine yR.adv 1 (pc' := 11) (lv' := [(0, .ref 85), (1, .int i), (2, .int l)]) (st' := [.ref 85]) (M' := M) rfl ?_
    refine yR.callK (M1 := M) _ rfl rfl rfl rfl rfl (m_hasNothing_85 M 0 (Or.inr ⟨hm1, rfl⟩)) ?_
    show yR 88 14 [(0, .ref 85), (1, .int i), (2, .int l)] [.int 0] M _
    refine yR.if1 .eq _ _ _ _ rfl (fun q2 => ?_) (fun q2 => ?_)
    · refine yR.adv 3 (pc' := 22) (lv' := [(0, .ref 85), (1, .int i), (2, .int l)]) (st' := [.long 1, .int i, .ref 85]) (M' := M) rfl ?_
      refine yR.callK (M1 := M) _ rfl rfl rfl rfl rfl (m_hasCells_85 M i 1 (by decide) (by decide) v2 h2) ?_
      show yR 88 25 [(0, .ref 85), (1, .int i), (2, .int l)] [.int v2] M _
      refine yR.if1 .eq _ _ _ _ rfl (fun q3 => ?_) (fun q3 => ?_)
      · have z3 := fun z => zeq0 h2 q3 (e2.mpr z)
        have hv0 : v = 3 := hv2.elim (fun z => z.2.2) (fun z => absurd z.2.1 z3)
        refine yR.adv 1 (pc' := 33) (lv' := [(0, .ref 85), (1, .int i), (2, .int l)]) (st' := [.int 3]) (M' := M) rfl ?_
        refine yR.ret _ rfl rfl rfl ?_
        exact ⟨by rw [hv0], rfl⟩
      · have z3 := e2.mp (zeq1 h2 q3)
        have hv0 : v = 0 := hv2.elim (fun z => absurd z3 z.2.1) (fun z => z.2.2)
        refine yR.adv 2 (pc' := 33) (lv' := [(0, .ref 85), (1, .int i), (2, .int l)]) (st' := [.int 0]) (M' := M) rfl ?_
        refine yR.ret _ rfl rfl rfl ?_
        exact ⟨by rw [hv0], rfl⟩
    · exact absurd q2 (by decide)
  · have z1 := zeq1 h1 q1
    have hv0 : v = 2 := hv.elim (fun z => z.2) (fun z => absurd (by rw [hL]; exact (z.elim (fun y => y.1) (fun y => y.1)).symm) z1.2)
    refine yR.adv 1 (pc' := 9) (lv' := [(0, .ref 85), (1, .int i), (2, .int l)]) (st' := [.int 2]) (M' := M) rfl ?_
    refine yR.ret _ rfl rfl rfl ?_
    exact ⟨by rw [hv0], rfl⟩
theorem m_at_0 (M N : zMm) (lane len : Nat) (hl : lane < 3) (hn : len ≤ 72) (hL : M.1 85 0 = nI lane) (hN : M.1 85 1 = nI len) (i l : Int32) (hl2 : 0 ≤ l.toInt ∧ l.toInt ≤ 2) (v : Int64) (hv : (¬ l = nI lane ∧ v = zlost ∧ N = zup (zup M 0 14 0) 0 14 2) ∨ (l = nI lane ∧ ¬ (0 ≤ i.toInt ∧ i.toInt < len) ∧ v = zlost ∧ N = zup (zup M 0 14 0) 0 14 3) ∨ (l = nI lane ∧ (0 ≤ i.toInt ∧ i.toInt < len) ∧ v = (M.1 86 i.toInt.toNat).toInt64 ∧ N = zup M 0 14 0)) : yOk 60 0 [(0, .ref 0), (1, .int 0), (2, .int i), (3, .int l)] [] M (some (.long v)) N := by
  refine yR.ok ?_
  have hL' : (zup M 0 14 0).1 85 0 = nI lane := by rw [zup_i, if_neg (by omega)]; exact hL
  have hN' : (zup M 0 14 0).1 85 1 = nI len := by rw [zup_i, if_neg (by omega)]; exact hN
  refine yR.adv 6 (pc' := 8) (lv' := [(0, .ref 0), (1, .int 0), (2, .int i), (3, .int l)]) (st' := [.int 3, .int 0, .int 0]) (M' := zup M 0 14 0) rfl ?_
  refine yR.callK (M1 := zup M 0 14 0) _ rfl rfl rfl rfl rfl (m_fromV (zup M 0 14 0) 0 0 3 0 3 rfl rfl 1 (Or.inl ⟨by decide, rfl⟩)) ?_
  show yR 60 11 [(0, .ref 0), (1, .int 0), (2, .int i), (3, .int l)] [.int 1] (zup M 0 14 0) _
  refine yR.if1 .eq _ _ _ _ rfl (fun q1 => ?_) (fun q1 => ?_)
  · exact absurd q1 (by decide)
  · refine yR.adv 3 (pc' := 17) (lv' := [(0, .ref 0), (1, .int 0), (2, .int i), (3, .int l)]) (st' := [.int 2, .int 0, .int l]) (M' := zup M 0 14 0) rfl ?_
    refine yR.callK (M1 := zup M 0 14 0) _ rfl rfl rfl rfl rfl (m_fromV (zup M 0 14 0) l 0 2 0 2 rfl rfl 1 (Or.inl ⟨hl2, rfl⟩)) ?_
    show yR 60 20 [(0, .ref 0), (1, .int 0), (2, .int i), (3, .int l)] [.int 1] (zup M 0 14 0) _
    refine yR.if1 .ne _ _ _ _ rfl (fun q2 => ?_) (fun q2 => ?_)
    · refine yR.adv 8 (pc' := 39) (lv' := [(4, .ref 85), (0, .ref 0), (1, .int 0), (2, .int i), (3, .int l)]) (st' := [.int l, .int i, .ref 85]) (M' := zup M 0 14 0) rfl ?_
      rcases hv with ⟨a1, a2, a3⟩ | ⟨a1, a2, a3, a4⟩ | ⟨a1, a2, a3, a4⟩
      · skip
        refine yR.callK (M1 := zup M 0 14 0) _ rfl rfl rfl rfl rfl (m_reading_0 (zup M 0 14 0) lane len hl hn hL' hN' i l 2 (Or.inl ⟨a1, rfl⟩)) ?_
        show yR 60 42 [(4, .ref 85), (0, .ref 0), (1, .int 0), (2, .int i), (3, .int l)] [.int 2] (zup M 0 14 0) _
        refine yR.adv 2 (pc' := 46) (lv' := [(5, .int 2), (4, .ref 85), (0, .ref 0), (1, .int 0), (2, .int i), (3, .int l)]) (st' := [.int 2]) (M' := zup M 0 14 0) rfl ?_
        refine yR.if1 .eq _ _ _ _ rfl (fun q3 => ?_) (fun q3 => ?_)
        · exact absurd q3 (by decide)
        · refine yR.adv 4 (pc' := 58) (lv' := [(5, .int 2), (4, .ref 85), (0, .ref 0), (1, .int 0), (2, .int i), (3, .int l)]) (st' := [.long (-9223372036854775808)]) (M' := zup (zup M 0 14 0) 0 14 2) rfl ?_
          refine yR.ret _ rfl rfl rfl ?_
          exact ⟨by rw [a2], by rw [a3]⟩
      · skip
        refine yR.callK (M1 := zup M 0 14 0) _ rfl rfl rfl rfl rfl (m_reading_0 (zup M 0 14 0) lane len hl hn hL' hN' i l 3 (Or.inr (Or.inl ⟨a1, a2, rfl⟩))) ?_
        show yR 60 42 [(4, .ref 85), (0, .ref 0), (1, .int 0), (2, .int i), (3, .int l)] [.int 3] (zup M 0 14 0) _
        refine yR.adv 2 (pc' := 46) (lv' := [(5, .int 3), (4, .ref 85), (0, .ref 0), (1, .int 0), (2, .int i), (3, .int l)]) (st' := [.int 3]) (M' := zup M 0 14 0) rfl ?_
        refine yR.if1 .eq _ _ _ _ rfl (fun q3 => ?_) (fun q3 => ?_)
        · exact absurd q3 (by decide)
        · refine yR.adv 4 (pc' := 58) (lv' := [(5, .int 3), (4, .ref 85), (0, .ref 0), (1, .int 0), (2, .int i), (3, .int l)]) (st' := [.long (-9223372036854775808)]) (M' := zup (zup M 0 14 0) 0 14 3) rfl ?_
          refine yR.ret _ rfl rfl rfl ?_
          exact ⟨by rw [a3], by rw [a4]⟩
      · have ei : i = nI i.toInt.toNat := by rw [nI_iI, Int.toNat_of_nonneg a2.1, iI_of]
        have hc : (zup M 0 14 0).1 86 i.toInt.toNat = M.1 86 i.toInt.toNat := by rw [zup_i, if_neg (by omega)]
        refine yR.callK (M1 := zup M 0 14 0) _ rfl rfl rfl rfl rfl (m_reading_0 (zup M 0 14 0) lane len hl hn hL' hN' i l 0 (Or.inr (Or.inr ⟨a1, a2, rfl⟩))) ?_
        show yR 60 42 [(4, .ref 85), (0, .ref 0), (1, .int 0), (2, .int i), (3, .int l)] [.int 0] (zup M 0 14 0) _
        refine yR.adv 2 (pc' := 46) (lv' := [(5, .int 0), (4, .ref 85), (0, .ref 0), (1, .int 0), (2, .int i), (3, .int l)]) (st' := [.int 0]) (M' := zup M 0 14 0) rfl ?_
        refine yR.if1 .eq _ _ _ _ rfl (fun q3 => ?_) (fun q3 => ?_)
        · refine yR.adv 3 (pc' := 65) (lv' := [(5, .int 0), (4, .ref 85), (0, .ref 0), (1, .int 0), (2, .int i), (3, .int l)]) (st' := [.int i, .ref 86]) (M' := zup M 0 14 0) rfl ?_
          refine yR.iald i.toInt.toNat _ _ _ rfl rfl (by decide) (ei) (by omega) ?_
          rw [hc]
          refine yR.adv 1 (pc' := 67) (lv' := [(5, .int 0), (4, .ref 85), (0, .ref 0), (1, .int 0), (2, .int i), (3, .int l)]) (st' := [.long ((M.1 86 i.toInt.toNat).toInt64)]) (M' := zup M 0 14 0) rfl ?_
          refine yR.ret _ rfl rfl rfl ?_
          exact ⟨by rw [a3], by rw [a4]⟩
        · exact absurd q3 (by decide)
    · exact absurd q2 (by decide)
theorem m_write_1 (M : zMm) (lane : Nat) (hl : lane < 3) (hL : M.1 87 0 = nI lane) (i : Nat) (hi : i < 72) (v : Int32) : yOk 36 0 [(0, .ref 87), (1, .int (nI i)), (2, .int v)] [] M none (zup M 88 i (zcut lane v)) := by
  refine yR.ok ?_
  have h : lane = 0 ∨ lane = 1 ∨ lane = 2 := by omega
  rcases h with rfl | rfl | rfl
  · have hL' : M.1 87 0 = 0 := hL
    refine yR.adv 2 (pc' := 4) (lv' := [(0, .ref 87), (1, .int (nI i)), (2, .int v)]) (st' := [.int (M.1 87 0)]) (M' := M) rfl ?_
    rw [hL']
    refine yR.adv 1 (pc' := 32) (lv' := [(0, .ref 87), (1, .int (nI i)), (2, .int v)]) (st' := []) (M' := M) rfl ?_
    refine yR.adv 5 (pc' := 39) (lv' := [(0, .ref 87), (1, .int (nI i)), (2, .int v)]) (st' := [.int v.toInt8.toInt32, .int (nI i), .ref 88]) (M' := M) rfl ?_
    refine yR.iast i _ _ _ rfl rfl (by decide) (rfl) (by omega) ?_
    refine yR.adv 1 (pc' := 61) (lv' := [(0, .ref 87), (1, .int (nI i)), (2, .int v)]) (st' := []) (M' := zup M 88 i v.toInt8.toInt32) rfl ?_
    refine yR.ret _ rfl rfl rfl ?_
    exact ⟨rfl, rfl⟩
  · have hL' : M.1 87 0 = 1 := hL
    refine yR.adv 2 (pc' := 4) (lv' := [(0, .ref 87), (1, .int (nI i)), (2, .int v)]) (st' := [.int (M.1 87 0)]) (M' := M) rfl ?_
    rw [hL']
    refine yR.adv 1 (pc' := 43) (lv' := [(0, .ref 87), (1, .int (nI i)), (2, .int v)]) (st' := []) (M' := M) rfl ?_
    refine yR.adv 5 (pc' := 50) (lv' := [(0, .ref 87), (1, .int (nI i)), (2, .int v)]) (st' := [.int v.toInt16.toInt32, .int (nI i), .ref 88]) (M' := M) rfl ?_
    refine yR.iast i _ _ _ rfl rfl (by decide) (rfl) (by omega) ?_
    refine yR.adv 1 (pc' := 61) (lv' := [(0, .ref 87), (1, .int (nI i)), (2, .int v)]) (st' := []) (M' := zup M 88 i v.toInt16.toInt32) rfl ?_
    refine yR.ret _ rfl rfl rfl ?_
    exact ⟨rfl, rfl⟩
  · have hL' : M.1 87 0 = 2 := hL
    refine yR.adv 2 (pc' := 4) (lv' := [(0, .ref 87), (1, .int (nI i)), (2, .int v)]) (st' := [.int (M.1 87 0)]) (M' := M) rfl ?_
    rw [hL']
    refine yR.adv 1 (pc' := 54) (lv' := [(0, .ref 87), (1, .int (nI i)), (2, .int v)]) (st' := []) (M' := M) rfl ?_
    refine yR.adv 4 (pc' := 60) (lv' := [(0, .ref 87), (1, .int (nI i)), (2, .int v)]) (st' := [.int v, .int (nI i), .ref 88]) (M' := M) rfl ?_
    refine yR.iast i _ _ _ rfl rfl (by decide) (rfl) (by omega) ?_
    skip
    refine yR.ret _ rfl rfl rfl ?_
    exact ⟨rfl, rfl⟩
theorem m_put_1 (M N : zMm) (lane len : Nat) (hl : lane < 3) (hn : len ≤ 72) (hL : M.1 87 0 = nI lane) (hN : M.1 87 1 = nI len) (i x v : Int32) (hv : (¬ (0 ≤ i.toInt ∧ i.toInt < len) ∧ v = -13 ∧ N = zup (zup M 0 14 0) 0 14 3) ∨ ((0 ≤ i.toInt ∧ i.toInt < len) ∧ v = 1 ∧ N = zup (zup M 0 14 0) 88 i.toInt.toNat (zcut lane x))) : yOk 59 0 [(0, .ref 0), (1, .int 1), (2, .int i), (3, .int x)] [] M (some (.int v)) N := by
  refine yR.ok ?_
  have hL' : (zup M 0 14 0).1 87 0 = nI lane := by rw [zup_i, if_neg (by omega)]; exact hL
  have hN' : (zup M 0 14 0).1 87 1 = nI len := by rw [zup_i, if_neg (by omega)]; exact hN
  have tn : ((zup M 0 14 0).1 87 1).toInt = len := by rw [hN']; exact nI_toInt (by omega)
  obtain ⟨v2, h2⟩ := zem ((1 : Int64).toInt = 0 ∨ (0 ≤ i.toInt ∧ i.toInt + (1 : Int64).toInt ≤ ((zup M 0 14 0).1 87 1).toInt))
  have e2 : ((1 : Int64).toInt = 0 ∨ (0 ≤ i.toInt ∧ i.toInt + (1 : Int64).toInt ≤ ((zup M 0 14 0).1 87 1).toInt)) ↔ (0 ≤ i.toInt ∧ i.toInt < len) := by
    rw [tn]
    have : (1 : Int64).toInt = 1 := rfl
    rw [this]
    omega
  refine yR.adv 6 (pc' := 8) (lv' := [(0, .ref 0), (1, .int 1), (2, .int i), (3, .int x)]) (st' := [.int 3, .int 0, .int 1]) (M' := zup M 0 14 0) rfl ?_
  refine yR.callK (M1 := zup M 0 14 0) _ rfl rfl rfl rfl rfl (m_fromV (zup M 0 14 0) 1 0 3 0 3 rfl rfl 1 (Or.inl ⟨by decide, rfl⟩)) ?_
  show yR 59 11 [(0, .ref 0), (1, .int 1), (2, .int i), (3, .int x)] [.int 1] (zup M 0 14 0) _
  refine yR.if1 .ne _ _ _ _ rfl (fun q1 => ?_) (fun q1 => ?_)
  · refine yR.adv 6 (pc' := 26) (lv' := [(4, .ref 87), (0, .ref 0), (1, .int 1), (2, .int i), (3, .int x)]) (st' := [.ref 87]) (M' := zup M 0 14 0) rfl ?_
    refine yR.callK (M1 := zup M 0 14 0) _ rfl rfl rfl rfl rfl (m_hasNothing_87 (zup M 0 14 0) 0 (Or.inr ⟨by rw [hL']; exact nI_nm1 lane (by omega), rfl⟩)) ?_
    show yR 59 29 [(4, .ref 87), (0, .ref 0), (1, .int 1), (2, .int i), (3, .int x)] [.int 0] (zup M 0 14 0) _
    refine yR.if1 .eq _ _ _ _ rfl (fun q2 => ?_) (fun q2 => ?_)
    · refine yR.adv 3 (pc' := 42) (lv' := [(4, .ref 87), (0, .ref 0), (1, .int 1), (2, .int i), (3, .int x)]) (st' := [.long 1, .int i, .ref 87]) (M' := zup M 0 14 0) rfl ?_
      refine yR.callK (M1 := zup M 0 14 0) _ rfl rfl rfl rfl rfl (m_hasCells_87 (zup M 0 14 0) i 1 (by decide) (by decide) v2 h2) ?_
      show yR 59 45 [(4, .ref 87), (0, .ref 0), (1, .int 1), (2, .int i), (3, .int x)] [.int v2] (zup M 0 14 0) _
      refine yR.if1 .ne _ _ _ _ rfl (fun q3 => ?_) (fun q3 => ?_)
      · have z3 := e2.mp (zne0 h2 q3)
        have hv2 := hv.resolve_left (fun z => z.1 z3)
        have ei : i = nI i.toInt.toNat := by rw [nI_iI, Int.toNat_of_nonneg z3.1, iI_of]
        refine yR.adv 3 (pc' := 58) (lv' := [(4, .ref 87), (0, .ref 0), (1, .int 1), (2, .int i), (3, .int x)]) (st' := [.int x, .int i, .ref 87]) (M' := zup M 0 14 0) rfl ?_
        rw [show (Value.int i) = Value.int (nI i.toInt.toNat) from by rw [← ei]]
        refine yR.callK (M1 := zup (zup M 0 14 0) 88 i.toInt.toNat (zcut lane x)) _ rfl rfl rfl rfl rfl (m_write_1 (zup M 0 14 0) lane hl hL' i.toInt.toNat (by omega) x) ?_
        show yR 59 61 [(4, .ref 87), (0, .ref 0), (1, .int 1), (2, .int (nI i.toInt.toNat)), (3, .int x)] [] (zup (zup M 0 14 0) 88 i.toInt.toNat (zcut lane x)) _
        refine yR.adv 1 (pc' := 62) (lv' := [(4, .ref 87), (0, .ref 0), (1, .int 1), (2, .int (nI i.toInt.toNat)), (3, .int x)]) (st' := [.int 1]) (M' := zup (zup M 0 14 0) 88 i.toInt.toNat (zcut lane x)) rfl ?_
        refine yR.ret _ rfl rfl rfl ?_
        exact ⟨by rw [hv2.2.1], by rw [hv2.2.2]⟩
      · have z3 := fun z => zne1 h2 q3 (e2.mpr z)
        have hv2 := hv.resolve_right (fun z => z3 z.1)
        refine yR.adv 2 (pc' := 50) (lv' := [(4, .ref 87), (0, .ref 0), (1, .int 1), (2, .int i), (3, .int x)]) (st' := [.int 3, .ref 0]) (M' := zup M 0 14 0) rfl ?_
        refine yR.callK (M1 := zup (zup M 0 14 0) 0 14 3) _ rfl rfl rfl rfl rfl (m_failed (zup M 0 14 0) 3) ?_
        show yR 59 53 [(4, .ref 87), (0, .ref 0), (1, .int 1), (2, .int i), (3, .int x)] [.int (-13)] (zup (zup M 0 14 0) 0 14 3) _
        refine yR.ret _ rfl rfl rfl ?_
        exact ⟨by rw [hv2.2.1], by rw [hv2.2.2]⟩
    · exact absurd q2 (by decide)
  · exact absurd q1 (by decide)
theorem m_reading_1 (M : zMm) (lane len : Nat) (hl : lane < 3) (hn : len ≤ 72) (hL : M.1 87 0 = nI lane) (hN : M.1 87 1 = nI len) (i l v : Int32) (hv : (¬ l = nI lane ∧ v = 2) ∨ (l = nI lane ∧ ¬ (0 ≤ i.toInt ∧ i.toInt < len) ∧ v = 3) ∨ (l = nI lane ∧ (0 ≤ i.toInt ∧ i.toInt < len) ∧ v = 0)) : yOk 88 0 [(0, .ref 87), (1, .int i), (2, .int l)] [] M (some (.int v)) M := by
  refine yR.ok ?_
  have tn : (M.1 87 1).toInt = len := by rw [hN]; exact nI_toInt (by omega)
  have hm1 : ¬ M.1 87 0 = -1 := by rw [hL]; exact nI_nm1 lane (by omega)
  obtain ⟨v1, h1⟩ := zem (¬ M.1 87 0 = -1 ∧ ¬ M.1 87 0 = l)
  obtain ⟨v2, h2⟩ := zem ((1 : Int64).toInt = 0 ∨ (0 ≤ i.toInt ∧ i.toInt + (1 : Int64).toInt ≤ (M.1 87 1).toInt))
  have e2 : ((1 : Int64).toInt = 0 ∨ (0 ≤ i.toInt ∧ i.toInt + (1 : Int64).toInt ≤ (M.1 87 1).toInt)) ↔ (0 ≤ i.toInt ∧ i.toInt < len) := by
    rw [tn]
    have : (1 : Int64).toInt = 1 := rfl
    rw [this]
    omega
  refine yR.adv 2 (pc' := 2) (lv' := [(0, .ref 87), (1, .int i), (2, .int l)]) (st' := [.int l, .ref 87]) (M' := M) rfl ?_
  refine yR.callK (M1 := M) _ rfl rfl rfl rfl rfl (m_otherLane_87 M l v1 h1) ?_
  show yR 88 5 [(0, .ref 87), (1, .int i), (2, .int l)] [.int v1] M _
  refine yR.if1 .eq _ _ _ _ rfl (fun q1 => ?_) (fun q1 => ?_)
  · have z1 : l = nI lane := Classical.byContradiction fun y => zeq0 h1 q1 ⟨hm1, fun z => y (by rw [← z, hL])⟩
    have hv2 := hv.resolve_left (fun z => z.1 z1)
    refine yR.adv 1 (pc' := 11) (lv' := [(0, .ref 87), (1, .int i), (2, .int l)]) (st' := [.ref 87]) (M' := M) rfl ?_
    refine yR.callK (M1 := M) _ rfl rfl rfl rfl rfl (m_hasNothing_87 M 0 (Or.inr ⟨hm1, rfl⟩)) ?_
    show yR 88 14 [(0, .ref 87), (1, .int i), (2, .int l)] [.int 0] M _
    refine yR.if1 .eq _ _ _ _ rfl (fun q2 => ?_) (fun q2 => ?_)
    · refine yR.adv 3 (pc' := 22) (lv' := [(0, .ref 87), (1, .int i), (2, .int l)]) (st' := [.long 1, .int i, .ref 87]) (M' := M) rfl ?_
      refine yR.callK (M1 := M) _ rfl rfl rfl rfl rfl (m_hasCells_87 M i 1 (by decide) (by decide) v2 h2) ?_
      show yR 88 25 [(0, .ref 87), (1, .int i), (2, .int l)] [.int v2] M _
      refine yR.if1 .eq _ _ _ _ rfl (fun q3 => ?_) (fun q3 => ?_)
      · have z3 := fun z => zeq0 h2 q3 (e2.mpr z)
        have hv0 : v = 3 := hv2.elim (fun z => z.2.2) (fun z => absurd z.2.1 z3)
        refine yR.adv 1 (pc' := 33) (lv' := [(0, .ref 87), (1, .int i), (2, .int l)]) (st' := [.int 3]) (M' := M) rfl ?_
        refine yR.ret _ rfl rfl rfl ?_
        exact ⟨by rw [hv0], rfl⟩
      · have z3 := e2.mp (zeq1 h2 q3)
        have hv0 : v = 0 := hv2.elim (fun z => absurd z3 z.2.1) (fun z => z.2.2)
        refine yR.adv 2 (pc' := 33) (lv' := [(0, .ref 87), (1, .int i), (2, .int l)]) (st' := [.int 0]) (M' := M) rfl ?_
        refine yR.ret _ rfl rfl rfl ?_
        exact ⟨by rw [hv0], rfl⟩
    · exact absurd q2 (by decide)
  · have z1 := zeq1 h1 q1
    have hv0 : v = 2 := hv.elim (fun z => z.2) (fun z => absurd (by rw [hL]; exact (z.elim (fun y => y.1) (fun y => y.1)).symm) z1.2)
    refine yR.adv 1 (pc' := 9) (lv' := [(0, .ref 87), (1, .int i), (2, .int l)]) (st' := [.int 2]) (M' := M) rfl ?_
    refine yR.ret _ rfl rfl rfl ?_
    exact ⟨by rw [hv0], rfl⟩
theorem m_at_1 (M N : zMm) (lane len : Nat) (hl : lane < 3) (hn : len ≤ 72) (hL : M.1 87 0 = nI lane) (hN : M.1 87 1 = nI len) (i l : Int32) (hl2 : 0 ≤ l.toInt ∧ l.toInt ≤ 2) (v : Int64) (hv : (¬ l = nI lane ∧ v = zlost ∧ N = zup (zup M 0 14 0) 0 14 2) ∨ (l = nI lane ∧ ¬ (0 ≤ i.toInt ∧ i.toInt < len) ∧ v = zlost ∧ N = zup (zup M 0 14 0) 0 14 3) ∨ (l = nI lane ∧ (0 ≤ i.toInt ∧ i.toInt < len) ∧ v = (M.1 88 i.toInt.toNat).toInt64 ∧ N = zup M 0 14 0)) : yOk 60 0 [(0, .ref 0), (1, .int 1), (2, .int i), (3, .int l)] [] M (some (.long v)) N := by
  refine yR.ok ?_
  have hL' : (zup M 0 14 0).1 87 0 = nI lane := by rw [zup_i, if_neg (by omega)]; exact hL
  have hN' : (zup M 0 14 0).1 87 1 = nI len := by rw [zup_i, if_neg (by omega)]; exact hN
  refine yR.adv 6 (pc' := 8) (lv' := [(0, .ref 0), (1, .int 1), (2, .int i), (3, .int l)]) (st' := [.int 3, .int 0, .int 1]) (M' := zup M 0 14 0) rfl ?_
  refine yR.callK (M1 := zup M 0 14 0) _ rfl rfl rfl rfl rfl (m_fromV (zup M 0 14 0) 1 0 3 0 3 rfl rfl 1 (Or.inl ⟨by decide, rfl⟩)) ?_
  show yR 60 11 [(0, .ref 0), (1, .int 1), (2, .int i), (3, .int l)] [.int 1] (zup M 0 14 0) _
  refine yR.if1 .eq _ _ _ _ rfl (fun q1 => ?_) (fun q1 => ?_)
  · exact absurd q1 (by decide)
  · refine yR.adv 3 (pc' := 17) (lv' := [(0, .ref 0), (1, .int 1), (2, .int i), (3, .int l)]) (st' := [.int 2, .int 0, .int l]) (M' := zup M 0 14 0) rfl ?_
    refine yR.callK (M1 := zup M 0 14 0) _ rfl rfl rfl rfl rfl (m_fromV (zup M 0 14 0) l 0 2 0 2 rfl rfl 1 (Or.inl ⟨hl2, rfl⟩)) ?_
    show yR 60 20 [(0, .ref 0), (1, .int 1), (2, .int i), (3, .int l)] [.int 1] (zup M 0 14 0) _
    refine yR.if1 .ne _ _ _ _ rfl (fun q2 => ?_) (fun q2 => ?_)
    · refine yR.adv 8 (pc' := 39) (lv' := [(4, .ref 87), (0, .ref 0), (1, .int 1), (2, .int i), (3, .int l)]) (st' := [.int l, .int i, .ref 87]) (M' := zup M 0 14 0) rfl ?_
      rcases hv with ⟨a1, a2, a3⟩ | ⟨a1, a2, a3, a4⟩ | ⟨a1, a2, a3, a4⟩
      · skip
        refine yR.callK (M1 := zup M 0 14 0) _ rfl rfl rfl rfl rfl (m_reading_1 (zup M 0 14 0) lane len hl hn hL' hN' i l 2 (Or.inl ⟨a1, rfl⟩)) ?_
        show yR 60 42 [(4, .ref 87), (0, .ref 0), (1, .int 1), (2, .int i), (3, .int l)] [.int 2] (zup M 0 14 0) _
        refine yR.adv 2 (pc' := 46) (lv' := [(5, .int 2), (4, .ref 87), (0, .ref 0), (1, .int 1), (2, .int i), (3, .int l)]) (st' := [.int 2]) (M' := zup M 0 14 0) rfl ?_
        refine yR.if1 .eq _ _ _ _ rfl (fun q3 => ?_) (fun q3 => ?_)
        · exact absurd q3 (by decide)
        · refine yR.adv 4 (pc' := 58) (lv' := [(5, .int 2), (4, .ref 87), (0, .ref 0), (1, .int 1), (2, .int i), (3, .int l)]) (st' := [.long (-9223372036854775808)]) (M' := zup (zup M 0 14 0) 0 14 2) rfl ?_
          refine yR.ret _ rfl rfl rfl ?_
          exact ⟨by rw [a2], by rw [a3]⟩
      · skip
        refine yR.callK (M1 := zup M 0 14 0) _ rfl rfl rfl rfl rfl (m_reading_1 (zup M 0 14 0) lane len hl hn hL' hN' i l 3 (Or.inr (Or.inl ⟨a1, a2, rfl⟩))) ?_
        show yR 60 42 [(4, .ref 87), (0, .ref 0), (1, .int 1), (2, .int i), (3, .int l)] [.int 3] (zup M 0 14 0) _
        refine yR.adv 2 (pc' := 46) (lv' := [(5, .int 3), (4, .ref 87), (0, .ref 0), (1, .int 1), (2, .int i), (3, .int l)]) (st' := [.int 3]) (M' := zup M 0 14 0) rfl ?_
        refine yR.if1 .eq _ _ _ _ rfl (fun q3 => ?_) (fun q3 => ?_)
        · exact absurd q3 (by decide)
        · refine yR.adv 4 (pc' := 58) (lv' := [(5, .int 3), (4, .ref 87), (0, .ref 0), (1, .int 1), (2, .int i), (3, .int l)]) (st' := [.long (-9223372036854775808)]) (M' := zup (zup M 0 14 0) 0 14 3) rfl ?_
          refine yR.ret _ rfl rfl rfl ?_
          exact ⟨by rw [a3], by rw [a4]⟩
      · have ei : i = nI i.toInt.toNat := by rw [nI_iI, Int.toNat_of_nonneg a2.1, iI_of]
        have hc : (zup M 0 14 0).1 88 i.toInt.toNat = M.1 88 i.toInt.toNat := by rw [zup_i, if_neg (by omega)]
        refine yR.callK (M1 := zup M 0 14 0) _ rfl rfl rfl rfl rfl (m_reading_1 (zup M 0 14 0) lane len hl hn hL' hN' i l 0 (Or.inr (Or.inr ⟨a1, a2, rfl⟩))) ?_
        show yR 60 42 [(4, .ref 87), (0, .ref 0), (1, .int 1), (2, .int i), (3, .int l)] [.int 0] (zup M 0 14 0) _
        refine yR.adv 2 (pc' := 46) (lv' := [(5, .int 0), (4, .ref 87), (0, .ref 0), (1, .int 1), (2, .int i), (3, .int l)]) (st' := [.int 0]) (M' := zup M 0 14 0) rfl ?_
        refine yR.if1 .eq _ _ _ _ rfl (fun q3 => ?_) (fun q3 => ?_)
        · refine yR.adv 3 (pc' := 65) (lv' := [(5, .int 0), (4, .ref 87), (0, .ref 0), (1, .int 1), (2, .int i), (3, .int l)]) (st' := [.int i, .ref 88]) (M' := zup M 0 14 0) rfl ?_
          refine yR.iald i.toInt.toNat _ _ _ rfl rfl (by decide) (ei) (by omega) ?_
          rw [hc]
          refine yR.adv 1 (pc' := 67) (lv' := [(5, .int 0), (4, .ref 87), (0, .ref 0), (1, .int 1), (2, .int i), (3, .int l)]) (st' := [.long ((M.1 88 i.toInt.toNat).toInt64)]) (M' := zup M 0 14 0) rfl ?_
          refine yR.ret _ rfl rfl rfl ?_
          exact ⟨by rw [a3], by rw [a4]⟩
        · exact absurd q3 (by decide)
    · exact absurd q2 (by decide)
theorem m_write_2 (M : zMm) (lane : Nat) (hl : lane < 3) (hL : M.1 89 0 = nI lane) (i : Nat) (hi : i < 72) (v : Int32) : yOk 36 0 [(0, .ref 89), (1, .int (nI i)), (2, .int v)] [] M none (zup M 90 i (zcut lane v)) := by
  refine yR.ok ?_
  have h : lane = 0 ∨ lane = 1 ∨ lane = 2 := by omega
  rcases h with rfl | rfl | rfl
  · have hL' : M.1 89 0 = 0 := hL
    refine yR.adv 2 (pc' := 4) (lv' := [(0, .ref 89), (1, .int (nI i)), (2, .int v)]) (st' := [.int (M.1 89 0)]) (M' := M) rfl ?_
    rw [hL']
    refine yR.adv 1 (pc' := 32) (lv' := [(0, .ref 89), (1, .int (nI i)), (2, .int v)]) (st' := []) (M' := M) rfl ?_
    refine yR.adv 5 (pc' := 39) (lv' := [(0, .ref 89), (1, .int (nI i)), (2, .int v)]) (st' := [.int v.toInt8.toInt32, .int (nI i), .ref 90]) (M' := M) rfl ?_
    refine yR.iast i _ _ _ rfl rfl (by decide) (rfl) (by omega) ?_
    refine yR.adv 1 (pc' := 61) (lv' := [(0, .ref 89), (1, .int (nI i)), (2, .int v)]) (st' := []) (M' := zup M 90 i v.toInt8.toInt32) rfl ?_
    refine yR.ret _ rfl rfl rfl ?_
    exact ⟨rfl, rfl⟩
  · have hL' : M.1 89 0 = 1 := hL
    refine yR.adv 2 (pc' := 4) (lv' := [(0, .ref 89), (1, .int (nI i)), (2, .int v)]) (st' := [.int (M.1 89 0)]) (M' := M) rfl ?_
    rw [hL']
    refine yR.adv 1 (pc' := 43) (lv' := [(0, .ref 89), (1, .int (nI i)), (2, .int v)]) (st' := []) (M' := M) rfl ?_
    refine yR.adv 5 (pc' := 50) (lv' := [(0, .ref 89), (1, .int (nI i)), (2, .int v)]) (st' := [.int v.toInt16.toInt32, .int (nI i), .ref 90]) (M' := M) rfl ?_
    refine yR.iast i _ _ _ rfl rfl (by decide) (rfl) (by omega) ?_
    refine yR.adv 1 (pc' := 61) (lv' := [(0, .ref 89), (1, .int (nI i)), (2, .int v)]) (st' := []) (M' := zup M 90 i v.toInt16.toInt32) rfl ?_
    refine yR.ret _ rfl rfl rfl ?_
    exact ⟨rfl, rfl⟩
  · have hL' : M.1 89 0 = 2 := hL
    refine yR.adv 2 (pc' := 4) (lv' := [(0, .ref 89), (1, .int (nI i)), (2, .int v)]) (st' := [.int (M.1 89 0)]) (M' := M) rfl ?_
    rw [hL']
    refine yR.adv 1 (pc' := 54) (lv' := [(0, .ref 89), (1, .int (nI i)), (2, .int v)]) (st' := []) (M' := M) rfl ?_
    refine yR.adv 4 (pc' := 60) (lv' := [(0, .ref 89), (1, .int (nI i)), (2, .int v)]) (st' := [.int v, .int (nI i), .ref 90]) (M' := M) rfl ?_
    refine yR.iast i _ _ _ rfl rfl (by decide) (rfl) (by omega) ?_
    skip
    refine yR.ret _ rfl rfl rfl ?_
    exact ⟨rfl, rfl⟩
theorem m_put_2 (M N : zMm) (lane len : Nat) (hl : lane < 3) (hn : len ≤ 72) (hL : M.1 89 0 = nI lane) (hN : M.1 89 1 = nI len) (i x v : Int32) (hv : (¬ (0 ≤ i.toInt ∧ i.toInt < len) ∧ v = -13 ∧ N = zup (zup M 0 14 0) 0 14 3) ∨ ((0 ≤ i.toInt ∧ i.toInt < len) ∧ v = 1 ∧ N = zup (zup M 0 14 0) 90 i.toInt.toNat (zcut lane x))) : yOk 59 0 [(0, .ref 0), (1, .int 2), (2, .int i), (3, .int x)] [] M (some (.int v)) N := by
  refine yR.ok ?_
  have hL' : (zup M 0 14 0).1 89 0 = nI lane := by rw [zup_i, if_neg (by omega)]; exact hL
  have hN' : (zup M 0 14 0).1 89 1 = nI len := by rw [zup_i, if_neg (by omega)]; exact hN
  have tn : ((zup M 0 14 0).1 89 1).toInt = len := by rw [hN']; exact nI_toInt (by omega)
  obtain ⟨v2, h2⟩ := zem ((1 : Int64).toInt = 0 ∨ (0 ≤ i.toInt ∧ i.toInt + (1 : Int64).toInt ≤ ((zup M 0 14 0).1 89 1).toInt))
  have e2 : ((1 : Int64).toInt = 0 ∨ (0 ≤ i.toInt ∧ i.toInt + (1 : Int64).toInt ≤ ((zup M 0 14 0).1 89 1).toInt)) ↔ (0 ≤ i.toInt ∧ i.toInt < len) := by
    rw [tn]
    have : (1 : Int64).toInt = 1 := rfl
    rw [this]
    omega
  refine yR.adv 6 (pc' := 8) (lv' := [(0, .ref 0), (1, .int 2), (2, .int i), (3, .int x)]) (st' := [.int 3, .int 0, .int 2]) (M' := zup M 0 14 0) rfl ?_
  refine yR.callK (M1 := zup M 0 14 0) _ rfl rfl rfl rfl rfl (m_fromV (zup M 0 14 0) 2 0 3 0 3 rfl rfl 1 (Or.inl ⟨by decide, rfl⟩)) ?_
  show yR 59 11 [(0, .ref 0), (1, .int 2), (2, .int i), (3, .int x)] [.int 1] (zup M 0 14 0) _
  refine yR.if1 .ne _ _ _ _ rfl (fun q1 => ?_) (fun q1 => ?_)
  · refine yR.adv 6 (pc' := 26) (lv' := [(4, .ref 89), (0, .ref 0), (1, .int 2), (2, .int i), (3, .int x)]) (st' := [.ref 89]) (M' := zup M 0 14 0) rfl ?_
    refine yR.callK (M1 := zup M 0 14 0) _ rfl rfl rfl rfl rfl (m_hasNothing_89 (zup M 0 14 0) 0 (Or.inr ⟨by rw [hL']; exact nI_nm1 lane (by omega), rfl⟩)) ?_
    show yR 59 29 [(4, .ref 89), (0, .ref 0), (1, .int 2), (2, .int i), (3, .int x)] [.int 0] (zup M 0 14 0) _
    refine yR.if1 .eq _ _ _ _ rfl (fun q2 => ?_) (fun q2 => ?_)
    · refine yR.adv 3 (pc' := 42) (lv' := [(4, .ref 89), (0, .ref 0), (1, .int 2), (2, .int i), (3, .int x)]) (st' := [.long 1, .int i, .ref 89]) (M' := zup M 0 14 0) rfl ?_
      refine yR.callK (M1 := zup M 0 14 0) _ rfl rfl rfl rfl rfl (m_hasCells_89 (zup M 0 14 0) i 1 (by decide) (by decide) v2 h2) ?_
      show yR 59 45 [(4, .ref 89), (0, .ref 0), (1, .int 2), (2, .int i), (3, .int x)] [.int v2] (zup M 0 14 0) _
      refine yR.if1 .ne _ _ _ _ rfl (fun q3 => ?_) (fun q3 => ?_)
      · have z3 := e2.mp (zne0 h2 q3)
        have hv2 := hv.resolve_left (fun z => z.1 z3)
        have ei : i = nI i.toInt.toNat := by rw [nI_iI, Int.toNat_of_nonneg z3.1, iI_of]
        refine yR.adv 3 (pc' := 58) (lv' := [(4, .ref 89), (0, .ref 0), (1, .int 2), (2, .int i), (3, .int x)]) (st' := [.int x, .int i, .ref 89]) (M' := zup M 0 14 0) rfl ?_
        rw [show (Value.int i) = Value.int (nI i.toInt.toNat) from by rw [← ei]]
        refine yR.callK (M1 := zup (zup M 0 14 0) 90 i.toInt.toNat (zcut lane x)) _ rfl rfl rfl rfl rfl (m_write_2 (zup M 0 14 0) lane hl hL' i.toInt.toNat (by omega) x) ?_
        show yR 59 61 [(4, .ref 89), (0, .ref 0), (1, .int 2), (2, .int (nI i.toInt.toNat)), (3, .int x)] [] (zup (zup M 0 14 0) 90 i.toInt.toNat (zcut lane x)) _
        refine yR.adv 1 (pc' := 62) (lv' := [(4, .ref 89), (0, .ref 0), (1, .int 2), (2, .int (nI i.toInt.toNat)), (3, .int x)]) (st' := [.int 1]) (M' := zup (zup M 0 14 0) 90 i.toInt.toNat (zcut lane x)) rfl ?_
        refine yR.ret _ rfl rfl rfl ?_
        exact ⟨by rw [hv2.2.1], by rw [hv2.2.2]⟩
      · have z3 := fun z => zne1 h2 q3 (e2.mpr z)
        have hv2 := hv.resolve_right (fun z => z3 z.1)
        refine yR.adv 2 (pc' := 50) (lv' := [(4, .ref 89), (0, .ref 0), (1, .int 2), (2, .int i), (3, .int x)]) (st' := [.int 3, .ref 0]) (M' := zup M 0 14 0) rfl ?_
        refine yR.callK (M1 := zup (zup M 0 14 0) 0 14 3) _ rfl rfl rfl rfl rfl (m_failed (zup M 0 14 0) 3) ?_
        show yR 59 53 [(4, .ref 89), (0, .ref 0), (1, .int 2), (2, .int i), (3, .int x)] [.int (-13)] (zup (zup M 0 14 0) 0 14 3) _
        refine yR.ret _ rfl rfl rfl ?_
        exact ⟨by rw [hv2.2.1], by rw [hv2.2.2]⟩
    · exact absurd q2 (by decide)
  · exact absurd q1 (by decide)
theorem m_reading_2 (M : zMm) (lane len : Nat) (hl : lane < 3) (hn : len ≤ 72) (hL : M.1 89 0 = nI lane) (hN : M.1 89 1 = nI len) (i l v : Int32) (hv : (¬ l = nI lane ∧ v = 2) ∨ (l = nI lane ∧ ¬ (0 ≤ i.toInt ∧ i.toInt < len) ∧ v = 3) ∨ (l = nI lane ∧ (0 ≤ i.toInt ∧ i.toInt < len) ∧ v = 0)) : yOk 88 0 [(0, .ref 89), (1, .int i), (2, .int l)] [] M (some (.int v)) M := by
  refine yR.ok ?_
  have tn : (M.1 89 1).toInt = len := by rw [hN]; exact nI_toInt (by omega)
  have hm1 : ¬ M.1 89 0 = -1 := by rw [hL]; exact nI_nm1 lane (by omega)
  obtain ⟨v1, h1⟩ := zem (¬ M.1 89 0 = -1 ∧ ¬ M.1 89 0 = l)
  obtain ⟨v2, h2⟩ := zem ((1 : Int64).toInt = 0 ∨ (0 ≤ i.toInt ∧ i.toInt + (1 : Int64).toInt ≤ (M.1 89 1).toInt))
  have e2 : ((1 : Int64).toInt = 0 ∨ (0 ≤ i.toInt ∧ i.toInt + (1 : Int64).toInt ≤ (M.1 89 1).toInt)) ↔ (0 ≤ i.toInt ∧ i.toInt < len) := by
    rw [tn]
    have : (1 : Int64).toInt = 1 := rfl
    rw [this]
    omega
  refine yR.adv 2 (pc' := 2) (lv' := [(0, .ref 89), (1, .int i), (2, .int l)]) (st' := [.int l, .ref 89]) (M' := M) rfl ?_
  refine yR.callK (M1 := M) _ rfl rfl rfl rfl rfl (m_otherLane_89 M l v1 h1) ?_
  show yR 88 5 [(0, .ref 89), (1, .int i), (2, .int l)] [.int v1] M _
  refine yR.if1 .eq _ _ _ _ rfl (fun q1 => ?_) (fun q1 => ?_)
  · have z1 : l = nI lane := Classical.byContradiction fun y => zeq0 h1 q1 ⟨hm1, fun z => y (by rw [← z, hL])⟩
    have hv2 := hv.resolve_left (fun z => z.1 z1)
    refine yR.adv 1 (pc' := 11) (lv' := [(0, .ref 89), (1, .int i), (2, .int l)]) (st' := [.ref 89]) (M' := M) rfl ?_
    refine yR.callK (M1 := M) _ rfl rfl rfl rfl rfl (m_hasNothing_89 M 0 (Or.inr ⟨hm1, rfl⟩)) ?_
    show yR 88 14 [(0, .ref 89), (1, .int i), (2, .int l)] [.int 0] M _
    refine yR.if1 .eq _ _ _ _ rfl (fun q2 => ?_) (fun q2 => ?_)
    · refine yR.adv 3 (pc' := 22) (lv' := [(0, .ref 89), (1, .int i), (2, .int l)]) (st' := [.long 1, .int i, .ref 89]) (M' := M) rfl ?_
      refine yR.callK (M1 := M) _ rfl rfl rfl rfl rfl (m_hasCells_89 M i 1 (by decide) (by decide) v2 h2) ?_
      show yR 88 25 [(0, .ref 89), (1, .int i), (2, .int l)] [.int v2] M _
      refine yR.if1 .eq _ _ _ _ rfl (fun q3 => ?_) (fun q3 => ?_)
      · have z3 := fun z => zeq0 h2 q3 (e2.mpr z)
        have hv0 : v = 3 := hv2.elim (fun z => z.2.2) (fun z => absurd z.2.1 z3)
        refine yR.adv 1 (pc' := 33) (lv' := [(0, .ref 89), (1, .int i), (2, .int l)]) (st' := [.int 3]) (M' := M) rfl ?_
        refine yR.ret _ rfl rfl rfl ?_
        exact ⟨by rw [hv0], rfl⟩
      · have z3 := e2.mp (zeq1 h2 q3)
        have hv0 : v = 0 := hv2.elim (fun z => absurd z3 z.2.1) (fun z => z.2.2)
        refine yR.adv 2 (pc' := 33) (lv' := [(0, .ref 89), (1, .int i), (2, .int l)]) (st' := [.int 0]) (M' := M) rfl ?_
        refine yR.ret _ rfl rfl rfl ?_
        exact ⟨by rw [hv0], rfl⟩
    · exact absurd q2 (by decide)
  · have z1 := zeq1 h1 q1
    have hv0 : v = 2 := hv.elim (fun z => z.2) (fun z => absurd (by rw [hL]; exact (z.elim (fun y => y.1) (fun y => y.1)).symm) z1.2)
    refine yR.adv 1 (pc' := 9) (lv' := [(0, .ref 89), (1, .int i), (2, .int l)]) (st' := [.int 2]) (M' := M) rfl ?_
    refine yR.ret _ rfl rfl rfl ?_
    exact ⟨by rw [hv0], rfl⟩
theorem m_at_2 (M N : zMm) (lane len : Nat) (hl : lane < 3) (hn : len ≤ 72) (hL : M.1 89 0 = nI lane) (hN : M.1 89 1 = nI len) (i l : Int32) (hl2 : 0 ≤ l.toInt ∧ l.toInt ≤ 2) (v : Int64) (hv : (¬ l = nI lane ∧ v = zlost ∧ N = zup (zup M 0 14 0) 0 14 2) ∨ (l = nI lane ∧ ¬ (0 ≤ i.toInt ∧ i.toInt < len) ∧ v = zlost ∧ N = zup (zup M 0 14 0) 0 14 3) ∨ (l = nI lane ∧ (0 ≤ i.toInt ∧ i.toInt < len) ∧ v = (M.1 90 i.toInt.toNat).toInt64 ∧ N = zup M 0 14 0)) : yOk 60 0 [(0, .ref 0), (1, .int 2), (2, .int i), (3, .int l)] [] M (some (.long v)) N := by
  refine yR.ok ?_
  have hL' : (zup M 0 14 0).1 89 0 = nI lane := by rw [zup_i, if_neg (by omega)]; exact hL
  have hN' : (zup M 0 14 0).1 89 1 = nI len := by rw [zup_i, if_neg (by omega)]; exact hN
  refine yR.adv 6 (pc' := 8) (lv' := [(0, .ref 0), (1, .int 2), (2, .int i), (3, .int l)]) (st' := [.int 3, .int 0, .int 2]) (M' := zup M 0 14 0) rfl ?_
  refine yR.callK (M1 := zup M 0 14 0) _ rfl rfl rfl rfl rfl (m_fromV (zup M 0 14 0) 2 0 3 0 3 rfl rfl 1 (Or.inl ⟨by decide, rfl⟩)) ?_
  show yR 60 11 [(0, .ref 0), (1, .int 2), (2, .int i), (3, .int l)] [.int 1] (zup M 0 14 0) _
  refine yR.if1 .eq _ _ _ _ rfl (fun q1 => ?_) (fun q1 => ?_)
  · exact absurd q1 (by decide)
  · refine yR.adv 3 (pc' := 17) (lv' := [(0, .ref 0), (1, .int 2), (2, .int i), (3, .int l)]) (st' := [.int 2, .int 0, .int l]) (M' := zup M 0 14 0) rfl ?_
    refine yR.callK (M1 := zup M 0 14 0) _ rfl rfl rfl rfl rfl (m_fromV (zup M 0 14 0) l 0 2 0 2 rfl rfl 1 (Or.inl ⟨hl2, rfl⟩)) ?_
    show yR 60 20 [(0, .ref 0), (1, .int 2), (2, .int i), (3, .int l)] [.int 1] (zup M 0 14 0) _
    refine yR.if1 .ne _ _ _ _ rfl (fun q2 => ?_) (fun q2 => ?_)
    · refine yR.adv 8 (pc' := 39) (lv' := [(4, .ref 89), (0, .ref 0), (1, .int 2), (2, .int i), (3, .int l)]) (st' := [.int l, .int i, .ref 89]) (M' := zup M 0 14 0) rfl ?_
      rcases hv with ⟨a1, a2, a3⟩ | ⟨a1, a2, a3, a4⟩ | ⟨a1, a2, a3, a4⟩
      · skip
        refine yR.callK (M1 := zup M 0 14 0) _ rfl rfl rfl rfl rfl (m_reading_2 (zup M 0 14 0) lane len hl hn hL' hN' i l 2 (Or.inl ⟨a1, rfl⟩)) ?_
        show yR 60 42 [(4, .ref 89), (0, .ref 0), (1, .int 2), (2, .int i), (3, .int l)] [.int 2] (zup M 0 14 0) _
        refine yR.adv 2 (pc' := 46) (lv' := [(5, .int 2), (4, .ref 89), (0, .ref 0), (1, .int 2), (2, .int i), (3, .int l)]) (st' := [.int 2]) (M' := zup M 0 14 0) rfl ?_
        refine yR.if1 .eq _ _ _ _ rfl (fun q3 => ?_) (fun q3 => ?_)
        · exact absurd q3 (by decide)
        · refine yR.adv 4 (pc' := 58) (lv' := [(5, .int 2), (4, .ref 89), (0, .ref 0), (1, .int 2), (2, .int i), (3, .int l)]) (st' := [.long (-9223372036854775808)]) (M' := zup (zup M 0 14 0) 0 14 2) rfl ?_
          refine yR.ret _ rfl rfl rfl ?_
          exact ⟨by rw [a2], by rw [a3]⟩
      · skip
        refine yR.callK (M1 := zup M 0 14 0) _ rfl rfl rfl rfl rfl (m_reading_2 (zup M 0 14 0) lane len hl hn hL' hN' i l 3 (Or.inr (Or.inl ⟨a1, a2, rfl⟩))) ?_
        show yR 60 42 [(4, .ref 89), (0, .ref 0), (1, .int 2), (2, .int i), (3, .int l)] [.int 3] (zup M 0 14 0) _
        refine yR.adv 2 (pc' := 46) (lv' := [(5, .int 3), (4, .ref 89), (0, .ref 0), (1, .int 2), (2, .int i), (3, .int l)]) (st' := [.int 3]) (M' := zup M 0 14 0) rfl ?_
        refine yR.if1 .eq _ _ _ _ rfl (fun q3 => ?_) (fun q3 => ?_)
        · exact absurd q3 (by decide)
        · refine yR.adv 4 (pc' := 58) (lv' := [(5, .int 3), (4, .ref 89), (0, .ref 0), (1, .int 2), (2, .int i), (3, .int l)]) (st' := [.long (-9223372036854775808)]) (M' := zup (zup M 0 14 0) 0 14 3) rfl ?_
          refine yR.ret _ rfl rfl rfl ?_
          exact ⟨by rw [a3], by rw [a4]⟩
      · have ei : i = nI i.toInt.toNat := by rw [nI_iI, Int.toNat_of_nonneg a2.1, iI_of]
        have hc : (zup M 0 14 0).1 90 i.toInt.toNat = M.1 90 i.toInt.toNat := by rw [zup_i, if_neg (by omega)]
        refine yR.callK (M1 := zup M 0 14 0) _ rfl rfl rfl rfl rfl (m_reading_2 (zup M 0 14 0) lane len hl hn hL' hN' i l 0 (Or.inr (Or.inr ⟨a1, a2, rfl⟩))) ?_
        show yR 60 42 [(4, .ref 89), (0, .ref 0), (1, .int 2), (2, .int i), (3, .int l)] [.int 0] (zup M 0 14 0) _
        refine yR.adv 2 (pc' := 46) (lv' := [(5, .int 0), (4, .ref 89), (0, .ref 0), (1, .int 2), (2, .int i), (3, .int l)]) (st' := [.int 0]) (M' := zup M 0 14 0) rfl ?_
        refine yR.if1 .eq _ _ _ _ rfl (fun q3 => ?_) (fun q3 => ?_)
        · refine yR.adv 3 (pc' := 65) (lv' := [(5, .int 0), (4, .ref 89), (0, .ref 0), (1, .int 2), (2, .int i), (3, .int l)]) (st' := [.int i, .ref 90]) (M' := zup M 0 14 0) rfl ?_
          refine yR.iald i.toInt.toNat _ _ _ rfl rfl (by decide) (ei) (by omega) ?_
          rw [hc]
          refine yR.adv 1 (pc' := 67) (lv' := [(5, .int 0), (4, .ref 89), (0, .ref 0), (1, .int 2), (2, .int i), (3, .int l)]) (st' := [.long ((M.1 90 i.toInt.toNat).toInt64)]) (M' := zup M 0 14 0) rfl ?_
          refine yR.ret _ rfl rfl rfl ?_
          exact ⟨by rw [a3], by rw [a4]⟩
        · exact absurd q3 (by decide)
    · exact absurd q2 (by decide)
theorem m_write_3 (M : zMm) (lane : Nat) (hl : lane < 3) (hL : M.1 91 0 = nI lane) (i : Nat) (hi : i < 72) (v : Int32) : yOk 36 0 [(0, .ref 91), (1, .int (nI i)), (2, .int v)] [] M none (zup M 92 i (zcut lane v)) := by
  refine yR.ok ?_
  have h : lane = 0 ∨ lane = 1 ∨ lane = 2 := by omega
  rcases h with rfl | rfl | rfl
  · have hL' : M.1 91 0 = 0 := hL
    refine yR.adv 2 (pc' := 4) (lv' := [(0, .ref 91), (1, .int (nI i)), (2, .int v)]) (st' := [.int (M.1 91 0)]) (M' := M) rfl ?_
    rw [hL']
    refine yR.adv 1 (pc' := 32) (lv' := [(0, .ref 91), (1, .int (nI i)), (2, .int v)]) (st' := []) (M' := M) rfl ?_
    refine yR.adv 5 (pc' := 39) (lv' := [(0, .ref 91), (1, .int (nI i)), (2, .int v)]) (st' := [.int v.toInt8.toInt32, .int (nI i), .ref 92]) (M' := M) rfl ?_
    refine yR.iast i _ _ _ rfl rfl (by decide) (rfl) (by omega) ?_
    refine yR.adv 1 (pc' := 61) (lv' := [(0, .ref 91), (1, .int (nI i)), (2, .int v)]) (st' := []) (M' := zup M 92 i v.toInt8.toInt32) rfl ?_
    refine yR.ret _ rfl rfl rfl ?_
    exact ⟨rfl, rfl⟩
  · have hL' : M.1 91 0 = 1 := hL
    refine yR.adv 2 (pc' := 4) (lv' := [(0, .ref 91), (1, .int (nI i)), (2, .int v)]) (st' := [.int (M.1 91 0)]) (M' := M) rfl ?_
    rw [hL']
    refine yR.adv 1 (pc' := 43) (lv' := [(0, .ref 91), (1, .int (nI i)), (2, .int v)]) (st' := []) (M' := M) rfl ?_
    refine yR.adv 5 (pc' := 50) (lv' := [(0, .ref 91), (1, .int (nI i)), (2, .int v)]) (st' := [.int v.toInt16.toInt32, .int (nI i), .ref 92]) (M' := M) rfl ?_
    refine yR.iast i _ _ _ rfl rfl (by decide) (rfl) (by omega) ?_
    refine yR.adv 1 (pc' := 61) (lv' := [(0, .ref 91), (1, .int (nI i)), (2, .int v)]) (st' := []) (M' := zup M 92 i v.toInt16.toInt32) rfl ?_
    refine yR.ret _ rfl rfl rfl ?_
    exact ⟨rfl, rfl⟩
  · have hL' : M.1 91 0 = 2 := hL
    refine yR.adv 2 (pc' := 4) (lv' := [(0, .ref 91), (1, .int (nI i)), (2, .int v)]) (st' := [.int (M.1 91 0)]) (M' := M) rfl ?_
    rw [hL']
    refine yR.adv 1 (pc' := 54) (lv' := [(0, .ref 91), (1, .int (nI i)), (2, .int v)]) (st' := []) (M' := M) rfl ?_
    refine yR.adv 4 (pc' := 60) (lv' := [(0, .ref 91), (1, .int (nI i)), (2, .int v)]) (st' := [.int v, .int (nI i), .ref 92]) (M' := M) rfl ?_
    refine yR.iast i _ _ _ rfl rfl (by decide) (rfl) (by omega) ?_
    skip
    refine yR.ret _ rfl rfl rfl ?_
    exact ⟨rfl, rfl⟩
theorem m_put_3 (M N : zMm) (lane len : Nat) (hl : lane < 3) (hn : len ≤ 72) (hL : M.1 91 0 = nI lane) (hN : M.1 91 1 = nI len) (i x v : Int32) (hv : (¬ (0 ≤ i.toInt ∧ i.toInt < len) ∧ v = -13 ∧ N = zup (zup M 0 14 0) 0 14 3) ∨ ((0 ≤ i.toInt ∧ i.toInt < len) ∧ v = 1 ∧ N = zup (zup M 0 14 0) 92 i.toInt.toNat (zcut lane x))) : yOk 59 0 [(0, .ref 0), (1, .int 3), (2, .int i), (3, .int x)] [] M (some (.int v)) N := by
  refine yR.ok ?_
  have hL' : (zup M 0 14 0).1 91 0 = nI lane := by rw [zup_i, if_neg (by omega)]; exact hL
  have hN' : (zup M 0 14 0).1 91 1 = nI len := by rw [zup_i, if_neg (by omega)]; exact hN
  have tn : ((zup M 0 14 0).1 91 1).toInt = len := by rw [hN']; exact nI_toInt (by omega)
  obtain ⟨v2, h2⟩ := zem ((1 : Int64).toInt = 0 ∨ (0 ≤ i.toInt ∧ i.toInt + (1 : Int64).toInt ≤ ((zup M 0 14 0).1 91 1).toInt))
  have e2 : ((1 : Int64).toInt = 0 ∨ (0 ≤ i.toInt ∧ i.toInt + (1 : Int64).toInt ≤ ((zup M 0 14 0).1 91 1).toInt)) ↔ (0 ≤ i.toInt ∧ i.toInt < len) := by
    rw [tn]
    have : (1 : Int64).toInt = 1 := rfl
    rw [this]
    omega
  refine yR.adv 6 (pc' := 8) (lv' := [(0, .ref 0), (1, .int 3), (2, .int i), (3, .int x)]) (st' := [.int 3, .int 0, .int 3]) (M' := zup M 0 14 0) rfl ?_
  refine yR.callK (M1 := zup M 0 14 0) _ rfl rfl rfl rfl rfl (m_fromV (zup M 0 14 0) 3 0 3 0 3 rfl rfl 1 (Or.inl ⟨by decide, rfl⟩)) ?_
  show yR 59 11 [(0, .ref 0), (1, .int 3), (2, .int i), (3, .int x)] [.int 1] (zup M 0 14 0) _
  refine yR.if1 .ne _ _ _ _ rfl (fun q1 => ?_) (fun q1 => ?_)
  · refine yR.adv 6 (pc' := 26) (lv' := [(4, .ref 91), (0, .ref 0), (1, .int 3), (2, .int i), (3, .int x)]) (st' := [.ref 91]) (M' := zup M 0 14 0) rfl ?_
    refine yR.callK (M1 := zup M 0 14 0) _ rfl rfl rfl rfl rfl (m_hasNothing_91 (zup M 0 14 0) 0 (Or.inr ⟨by rw [hL']; exact nI_nm1 lane (by omega), rfl⟩)) ?_
    show yR 59 29 [(4, .ref 91), (0, .ref 0), (1, .int 3), (2, .int i), (3, .int x)] [.int 0] (zup M 0 14 0) _
    refine yR.if1 .eq _ _ _ _ rfl (fun q2 => ?_) (fun q2 => ?_)
    · refine yR.adv 3 (pc' := 42) (lv' := [(4, .ref 91), (0, .ref 0), (1, .int 3), (2, .int i), (3, .int x)]) (st' := [.long 1, .int i, .ref 91]) (M' := zup M 0 14 0) rfl ?_
      refine yR.callK (M1 := zup M 0 14 0) _ rfl rfl rfl rfl rfl (m_hasCells_91 (zup M 0 14 0) i 1 (by decide) (by decide) v2 h2) ?_
      show yR 59 45 [(4, .ref 91), (0, .ref 0), (1, .int 3), (2, .int i), (3, .int x)] [.int v2] (zup M 0 14 0) _
      refine yR.if1 .ne _ _ _ _ rfl (fun q3 => ?_) (fun q3 => ?_)
      · have z3 := e2.mp (zne0 h2 q3)
        have hv2 := hv.resolve_left (fun z => z.1 z3)
        have ei : i = nI i.toInt.toNat := by rw [nI_iI, Int.toNat_of_nonneg z3.1, iI_of]
        refine yR.adv 3 (pc' := 58) (lv' := [(4, .ref 91), (0, .ref 0), (1, .int 3), (2, .int i), (3, .int x)]) (st' := [.int x, .int i, .ref 91]) (M' := zup M 0 14 0) rfl ?_
        rw [show (Value.int i) = Value.int (nI i.toInt.toNat) from by rw [← ei]]
        refine yR.callK (M1 := zup (zup M 0 14 0) 92 i.toInt.toNat (zcut lane x)) _ rfl rfl rfl rfl rfl (m_write_3 (zup M 0 14 0) lane hl hL' i.toInt.toNat (by omega) x) ?_
        show yR 59 61 [(4, .ref 91), (0, .ref 0), (1, .int 3), (2, .int (nI i.toInt.toNat)), (3, .int x)] [] (zup (zup M 0 14 0) 92 i.toInt.toNat (zcut lane x)) _
        refine yR.adv 1 (pc' := 62) (lv' := [(4, .ref 91), (0, .ref 0), (1, .int 3), (2, .int (nI i.toInt.toNat)), (3, .int x)]) (st' := [.int 1]) (M' := zup (zup M 0 14 0) 92 i.toInt.toNat (zcut lane x)) rfl ?_
        refine yR.ret _ rfl rfl rfl ?_
        exact ⟨by rw [hv2.2.1], by rw [hv2.2.2]⟩
      · have z3 := fun z => zne1 h2 q3 (e2.mpr z)
        have hv2 := hv.resolve_right (fun z => z3 z.1)
        refine yR.adv 2 (pc' := 50) (lv' := [(4, .ref 91), (0, .ref 0), (1, .int 3), (2, .int i), (3, .int x)]) (st' := [.int 3, .ref 0]) (M' := zup M 0 14 0) rfl ?_
        refine yR.callK (M1 := zup (zup M 0 14 0) 0 14 3) _ rfl rfl rfl rfl rfl (m_failed (zup M 0 14 0) 3) ?_
        show yR 59 53 [(4, .ref 91), (0, .ref 0), (1, .int 3), (2, .int i), (3, .int x)] [.int (-13)] (zup (zup M 0 14 0) 0 14 3) _
        refine yR.ret _ rfl rfl rfl ?_
        exact ⟨by rw [hv2.2.1], by rw [hv2.2.2]⟩
    · exact absurd q2 (by decide)
  · exact absurd q1 (by decide)
theorem m_reading_3 (M : zMm) (lane len : Nat) (hl : lane < 3) (hn : len ≤ 72) (hL : M.1 91 0 = nI lane) (hN : M.1 91 1 = nI len) (i l v : Int32) (hv : (¬ l = nI lane ∧ v = 2) ∨ (l = nI lane ∧ ¬ (0 ≤ i.toInt ∧ i.toInt < len) ∧ v = 3) ∨ (l = nI lane ∧ (0 ≤ i.toInt ∧ i.toInt < len) ∧ v = 0)) : yOk 88 0 [(0, .ref 91), (1, .int i), (2, .int l)] [] M (some (.int v)) M := by
  refine yR.ok ?_
  have tn : (M.1 91 1).toInt = len := by rw [hN]; exact nI_toInt (by omega)
  have hm1 : ¬ M.1 91 0 = -1 := by rw [hL]; exact nI_nm1 lane (by omega)
  obtain ⟨v1, h1⟩ := zem (¬ M.1 91 0 = -1 ∧ ¬ M.1 91 0 = l)
  obtain ⟨v2, h2⟩ := zem ((1 : Int64).toInt = 0 ∨ (0 ≤ i.toInt ∧ i.toInt + (1 : Int64).toInt ≤ (M.1 91 1).toInt))
  have e2 : ((1 : Int64).toInt = 0 ∨ (0 ≤ i.toInt ∧ i.toInt + (1 : Int64).toInt ≤ (M.1 91 1).toInt)) ↔ (0 ≤ i.toInt ∧ i.toInt < len) := by
    rw [tn]
    have : (1 : Int64).toInt = 1 := rfl
    rw [this]
    omega
  refine yR.adv 2 (pc' := 2) (lv' := [(0, .ref 91), (1, .int i), (2, .int l)]) (st' := [.int l, .ref 91]) (M' := M) rfl ?_
  refine yR.callK (M1 := M) _ rfl rfl rfl rfl rfl (m_otherLane_91 M l v1 h1) ?_
  show yR 88 5 [(0, .ref 91), (1, .int i), (2, .int l)] [.int v1] M _
  refine yR.if1 .eq _ _ _ _ rfl (fun q1 => ?_) (fun q1 => ?_)
  · have z1 : l = nI lane := Classical.byContradiction fun y => zeq0 h1 q1 ⟨hm1, fun z => y (by rw [← z, hL])⟩
    have hv2 := hv.resolve_left (fun z => z.1 z1)
    refine yR.adv 1 (pc' := 11) (lv' := [(0, .ref 91), (1, .int i), (2, .int l)]) (st' := [.ref 91]) (M' := M) rfl ?_
    refine yR.callK (M1 := M) _ rfl rfl rfl rfl rfl (m_hasNothing_91 M 0 (Or.inr ⟨hm1, rfl⟩)) ?_
    show yR 88 14 [(0, .ref 91), (1, .int i), (2, .int l)] [.int 0] M _
    refine yR.if1 .eq _ _ _ _ rfl (fun q2 => ?_) (fun q2 => ?_)
    · refine yR.adv 3 (pc' := 22) (lv' := [(0, .ref 91), (1, .int i), (2, .int l)]) (st' := [.long 1, .int i, .ref 91]) (M' := M) rfl ?_
      refine yR.callK (M1 := M) _ rfl rfl rfl rfl rfl (m_hasCells_91 M i 1 (by decide) (by decide) v2 h2) ?_
      show yR 88 25 [(0, .ref 91), (1, .int i), (2, .int l)] [.int v2] M _
      refine yR.if1 .eq _ _ _ _ rfl (fun q3 => ?_) (fun q3 => ?_)
      · have z3 := fun z => zeq0 h2 q3 (e2.mpr z)
        have hv0 : v = 3 := hv2.elim (fun z => z.2.2) (fun z => absurd z.2.1 z3)
        refine yR.adv 1 (pc' := 33) (lv' := [(0, .ref 91), (1, .int i), (2, .int l)]) (st' := [.int 3]) (M' := M) rfl ?_
        refine yR.ret _ rfl rfl rfl ?_
        exact ⟨by rw [hv0], rfl⟩
      · have z3 := e2.mp (zeq1 h2 q3)
        have hv0 : v = 0 := hv2.elim (fun z => absurd z3 z.2.1) (fun z => z.2.2)
        refine yR.adv 2 (pc' := 33) (lv' := [(0, .ref 91), (1, .int i), (2, .int l)]) (st' := [.int 0]) (M' := M) rfl ?_
        refine yR.ret _ rfl rfl rfl ?_
        exact ⟨by rw [hv0], rfl⟩
    · exact absurd q2 (by decide)
  · have z1 := zeq1 h1 q1
    have hv0 : v = 2 := hv.elim (fun z => z.2) (fun z => absurd (by rw [hL]; exact (z.elim (fun y => y.1) (fun y => y.1)).symm) z1.2)
    refine yR.adv 1 (pc' := 9) (lv' := [(0, .ref 91), (1, .int i), (2, .int l)]) (st' := [.int 2]) (M' := M) rfl ?_
    refine yR.ret _ rfl rfl rfl ?_
    exact ⟨by rw [hv0], rfl⟩
theorem m_at_3 (M N : zMm) (lane len : Nat) (hl : lane < 3) (hn : len ≤ 72) (hL : M.1 91 0 = nI lane) (hN : M.1 91 1 = nI len) (i l : Int32) (hl2 : 0 ≤ l.toInt ∧ l.toInt ≤ 2) (v : Int64) (hv : (¬ l = nI lane ∧ v = zlost ∧ N = zup (zup M 0 14 0) 0 14 2) ∨ (l = nI lane ∧ ¬ (0 ≤ i.toInt ∧ i.toInt < len) ∧ v = zlost ∧ N = zup (zup M 0 14 0) 0 14 3) ∨ (l = nI lane ∧ (0 ≤ i.toInt ∧ i.toInt < len) ∧ v = (M.1 92 i.toInt.toNat).toInt64 ∧ N = zup M 0 14 0)) : yOk 60 0 [(0, .ref 0), (1, .int 3), (2, .int i), (3, .int l)] [] M (some (.long v)) N := by
  refine yR.ok ?_
  have hL' : (zup M 0 14 0).1 91 0 = nI lane := by rw [zup_i, if_neg (by omega)]; exact hL
  have hN' : (zup M 0 14 0).1 91 1 = nI len := by rw [zup_i, if_neg (by omega)]; exact hN
  refine yR.adv 6 (pc' := 8) (lv' := [(0, .ref 0), (1, .int 3), (2, .int i), (3, .int l)]) (st' := [.int 3, .int 0, .int 3]) (M' := zup M 0 14 0) rfl ?_
  refine yR.callK (M1 := zup M 0 14 0) _ rfl rfl rfl rfl rfl (m_fromV (zup M 0 14 0) 3 0 3 0 3 rfl rfl 1 (Or.inl ⟨by decide, rfl⟩)) ?_
  show yR 60 11 [(0, .ref 0), (1, .int 3), (2, .int i), (3, .int l)] [.int 1] (zup M 0 14 0) _
  refine yR.if1 .eq _ _ _ _ rfl (fun q1 => ?_) (fun q1 => ?_)
  · exact absurd q1 (by decide)
  · refine yR.adv 3 (pc' := 17) (lv' := [(0, .ref 0), (1, .int 3), (2, .int i), (3, .int l)]) (st' := [.int 2, .int 0, .int l]) (M' := zup M 0 14 0) rfl ?_
    refine yR.callK (M1 := zup M 0 14 0) _ rfl rfl rfl rfl rfl (m_fromV (zup M 0 14 0) l 0 2 0 2 rfl rfl 1 (Or.inl ⟨hl2, rfl⟩)) ?_
    show yR 60 20 [(0, .ref 0), (1, .int 3), (2, .int i), (3, .int l)] [.int 1] (zup M 0 14 0) _
    refine yR.if1 .ne _ _ _ _ rfl (fun q2 => ?_) (fun q2 => ?_)
    · refine yR.adv 8 (pc' := 39) (lv' := [(4, .ref 91), (0, .ref 0), (1, .int 3), (2, .int i), (3, .int l)]) (st' := [.int l, .int i, .ref 91]) (M' := zup M 0 14 0) rfl ?_
      rcases hv with ⟨a1, a2, a3⟩ | ⟨a1, a2, a3, a4⟩ | ⟨a1, a2, a3, a4⟩
      · skip
        refine yR.callK (M1 := zup M 0 14 0) _ rfl rfl rfl rfl rfl (m_reading_3 (zup M 0 14 0) lane len hl hn hL' hN' i l 2 (Or.inl ⟨a1, rfl⟩)) ?_
        show yR 60 42 [(4, .ref 91), (0, .ref 0), (1, .int 3), (2, .int i), (3, .int l)] [.int 2] (zup M 0 14 0) _
        refine yR.adv 2 (pc' := 46) (lv' := [(5, .int 2), (4, .ref 91), (0, .ref 0), (1, .int 3), (2, .int i), (3, .int l)]) (st' := [.int 2]) (M' := zup M 0 14 0) rfl ?_
        refine yR.if1 .eq _ _ _ _ rfl (fun q3 => ?_) (fun q3 => ?_)
        · exact absurd q3 (by decide)
        · refine yR.adv 4 (pc' := 58) (lv' := [(5, .int 2), (4, .ref 91), (0, .ref 0), (1, .int 3), (2, .int i), (3, .int l)]) (st' := [.long (-9223372036854775808)]) (M' := zup (zup M 0 14 0) 0 14 2) rfl ?_
          refine yR.ret _ rfl rfl rfl ?_
          exact ⟨by rw [a2], by rw [a3]⟩
      · skip
        refine yR.callK (M1 := zup M 0 14 0) _ rfl rfl rfl rfl rfl (m_reading_3 (zup M 0 14 0) lane len hl hn hL' hN' i l 3 (Or.inr (Or.inl ⟨a1, a2, rfl⟩))) ?_
        show yR 60 42 [(4, .ref 91), (0, .ref 0), (1, .int 3), (2, .int i), (3, .int l)] [.int 3] (zup M 0 14 0) _
        refine yR.adv 2 (pc' := 46) (lv' := [(5, .int 3), (4, .ref 91), (0, .ref 0), (1, .int 3), (2, .int i), (3, .int l)]) (st' := [.int 3]) (M' := zup M 0 14 0) rfl ?_
        refine yR.if1 .eq _ _ _ _ rfl (fun q3 => ?_) (fun q3 => ?_)
        · exact absurd q3 (by decide)
        · refine yR.adv 4 (pc' := 58) (lv' := [(5, .int 3), (4, .ref 91), (0, .ref 0), (1, .int 3), (2, .int i), (3, .int l)]) (st' := [.long (-9223372036854775808)]) (M' := zup (zup M 0 14 0) 0 14 3) rfl ?_
          refine yR.ret _ rfl rfl rfl ?_
          exact ⟨by rw [a3], by rw [a4]⟩
      · have ei : i = nI i.toInt.toNat := by rw [nI_iI, Int.toNat_of_nonneg a2.1, iI_of]
        have hc : (zup M 0 14 0).1 92 i.toInt.toNat = M.1 92 i.toInt.toNat := by rw [zup_i, if_neg (by omega)]
        refine yR.callK (M1 := zup M 0 14 0) _ rfl rfl rfl rfl rfl (m_reading_3 (zup M 0 14 0) lane len hl hn hL' hN' i l 0 (Or.inr (Or.inr ⟨a1, a2, rfl⟩))) ?_
        show yR 60 42 [(4, .ref 91), (0, .ref 0), (1, .int 3), (2, .int i), (3, .int l)] [.int 0] (zup M 0 14 0) _
        refine yR.adv 2 (pc' := 46) (lv' := [(5, .int 0), (4, .ref 91), (0, .ref 0), (1, .int 3), (2, .int i), (3, .int l)]) (st' := [.int 0]) (M' := zup M 0 14 0) rfl ?_
        refine yR.if1 .eq _ _ _ _ rfl (fun q3 => ?_) (fun q3 => ?_)
        · refine yR.adv 3 (pc' := 65) (lv' := [(5, .int 0), (4, .ref 91), (0, .ref 0), (1, .int 3), (2, .int i), (3, .int l)]) (st' := [.int i, .ref 92]) (M' := zup M 0 14 0) rfl ?_
          refine yR.iald i.toInt.toNat _ _ _ rfl rfl (by decide) (ei) (by omega) ?_
          rw [hc]
          refine yR.adv 1 (pc' := 67) (lv' := [(5, .int 0), (4, .ref 91), (0, .ref 0), (1, .int 3), (2, .int i), (3, .int l)]) (st' := [.long ((M.1 92 i.toInt.toNat).toInt64)]) (M' := zup M 0 14 0) rfl ?_
          refine yR.ret _ rfl rfl rfl ?_
          exact ⟨by rw [a3], by rw [a4]⟩
        · exact absurd q3 (by decide)
    · exact absurd q2 (by decide)
-- the reference
theorem r_cellix (s i : Nat) (hs : s < 4) (hi : i < 72) : 72 * nI s + nI i = nI (72 * s + i) := by rw [show (72 : Int32) = iI 72 from rfl, nI_iI, nI_iI, nI_iI, iI_mul, iI_add]; rfl
theorem r_put (M N : zMm) (s : Nat) (hs : s < 4) (lane len : Nat) (hl : lane < 3) (hn : len ≤ 72) (hL : M.1 99 s = nI lane) (hN : M.1 100 s = nI len) (i x v : Int32) (hv : (¬ (0 ≤ i.toInt ∧ i.toInt < len) ∧ v = -13 ∧ N = zup (zup M 93 0 0) 93 0 3) ∨ ((0 ≤ i.toInt ∧ i.toInt < len) ∧ v = 1 ∧ N = zup (zup M 93 0 0) 101 (72 * s + i.toInt.toNat) (zcut lane x))) : yOk 155 0 [(0, .ref 93), (1, .int (nI s)), (2, .int i), (3, .int x)] [] M (some (.int v)) N := by
  refine yR.ok ?_
  have ts : (nI s).toInt64.toInt = s := by rw [Int32.toInt_toInt64, nI_toInt (by omega)]
  have ti : i.toInt64.toInt = i.toInt := Int32.toInt_toInt64 i
  have hL' : (zup M 93 0 0).1 99 s = nI lane := by rw [zup_i, if_neg (by omega)]; exact hL
  have hN' : (zup M 93 0 0).1 100 s = nI len := by rw [zup_i, if_neg (by omega)]; exact hN
  have tm : (nI len - 1).toInt64.toInt = (len : Int) - 1 := by rw [Int32.toInt_toInt64, nI_iI, show (1 : Int32) = iI 1 from rfl, iI_sub, iI_toInt (by omega)]
  obtain ⟨v2, h2⟩ := zem (0 ≤ i.toInt64.toInt ∧ i.toInt64.toInt ≤ (len : Int) - 1)
  refine yR.adv 7 (pc' := 11) (lv' := [(0, .ref 93), (1, .int (nI s)), (2, .int i), (3, .int x)]) (st' := [.long 3, .long 0, .long ((nI s).toInt64)]) (M' := zup M 93 0 0) rfl ?_
  refine yR.callK (M1 := zup M 93 0 0) _ rfl rfl rfl rfl rfl (r_withinV (zup M 93 0 0) (nI s).toInt64 0 3 0 3 rfl rfl 1 (Or.inl ⟨by rw [ts]; omega, rfl⟩)) ?_
  show yR 155 14 [(0, .ref 93), (1, .int (nI s)), (2, .int i), (3, .int x)] [.int 1] (zup M 93 0 0) _
  refine yR.if1 .ne _ _ _ _ rfl (fun q1 => ?_) (fun q1 => ?_)
  · refine yR.adv 3 (pc' := 24) (lv' := [(0, .ref 93), (1, .int (nI s)), (2, .int i), (3, .int x)]) (st' := [.int (nI s), .ref 99]) (M' := zup M 93 0 0) rfl ?_
    refine yR.iald s _ _ _ rfl rfl (by decide) (rfl) (by omega) ?_
    rw [hL']
    refine yR.adv 1 (pc' := 27) (lv' := [(0, .ref 93), (1, .int (nI s)), (2, .int i), (3, .int x)]) (st' := [.int (-9), .int (nI lane)]) (M' := zup M 93 0 0) rfl ?_
    refine yR.if2 .ne _ _ _ _ rfl (fun q2 => ?_) (fun q2 => ?_)
    · refine yR.adv 6 (pc' := 44) (lv' := [(0, .ref 93), (1, .int (nI s)), (2, .int i), (3, .int x)]) (st' := [.int (nI s), .ref 100, .long 0, .long i.toInt64]) (M' := zup M 93 0 0) rfl ?_
      refine yR.iald s _ _ _ rfl rfl (by decide) (rfl) (by omega) ?_
      rw [hN']
      refine yR.adv 3 (pc' := 48) (lv' := [(0, .ref 93), (1, .int (nI s)), (2, .int i), (3, .int x)]) (st' := [.long (((nI len) - 1).toInt64), .long 0, .long i.toInt64]) (M' := zup M 93 0 0) rfl ?_
      refine yR.callK (M1 := zup M 93 0 0) _ rfl rfl rfl rfl rfl (r_withinV (zup M 93 0 0) i.toInt64 0 ((len : Int) - 1) 0 (nI len - 1).toInt64 rfl tm v2 h2) ?_
      show yR 155 51 [(0, .ref 93), (1, .int (nI s)), (2, .int i), (3, .int x)] [.int v2] (zup M 93 0 0) _
      refine yR.if1 .ne _ _ _ _ rfl (fun q3 => ?_) (fun q3 => ?_)
      · have z3 := zne0 h2 q3
        rw [ti] at z3
        have hv2 := hv.resolve_left (fun z => z.1 ⟨z3.1, by omega⟩)
        have ei : i = nI i.toInt.toNat := by rw [nI_iI, Int.toNat_of_nonneg z3.1, iI_of]
        have hix : 72 * nI s + i = nI (72 * s + i.toInt.toNat) := by
          rw [← r_cellix s i.toInt.toNat hs (by omega), ← ei]
        have fin : yR 155 100 [(0, .ref 93)] [.int (zcut lane x), .int (72 * nI s + i), .ref 101] (zup M 93 0 0) (fun r N' => r = some (.int v) ∧ N' = N) := by
          refine yR.iast (72 * s + i.toInt.toNat) _ _ _ rfl rfl (by decide) (hix) (by omega) ?_
          refine yR.adv 1 (pc' := 102) (lv' := [(0, .ref 93)]) (st' := [.int 1]) (M' := zup (zup M 93 0 0) 101 (72 * s + i.toInt.toNat) (zcut lane x)) rfl ?_
          refine yR.ret _ rfl rfl rfl ?_
          exact ⟨by rw [hv2.2.1], by rw [hv2.2.2]⟩
        refine yR.adv 10 (pc' := 75) (lv' := [(0, .ref 93), (1, .int (nI s)), (2, .int i), (3, .int x)]) (st' := [.int (nI s), .ref 99, .int ((72 * (nI s)) + i), .ref 101]) (M' := zup M 93 0 0) rfl ?_
        refine yR.iald s _ _ _ rfl rfl (by decide) (rfl) (by omega) ?_
        rw [hL']
        refine yR.if1 .ne _ _ _ _ rfl (fun q4 => ?_) (fun q4 => ?_)
        · have q4' : ¬ (lane : Int) = 0 := zcT q4 (nI_toInt (by omega)) rfl
          refine yR.adv 3 (pc' := 89) (lv' := [(0, .ref 93), (1, .int (nI s)), (2, .int i), (3, .int x)]) (st' := [.int (nI s), .ref 99, .int ((72 * (nI s)) + i), .ref 101]) (M' := zup M 93 0 0) rfl ?_
          refine yR.iald s _ _ _ rfl rfl (by decide) (rfl) (by omega) ?_
          rw [hL']
          refine yR.adv 1 (pc' := 91) (lv' := [(0, .ref 93), (1, .int (nI s)), (2, .int i), (3, .int x)]) (st' := [.int 1, .int (nI lane), .int ((72 * (nI s)) + i), .ref 101]) (M' := zup M 93 0 0) rfl ?_
          refine yR.if2 .ne _ _ _ _ rfl (fun q5 => ?_) (fun q5 => ?_)
          · have q5' : ¬ (lane : Int) = 1 := zcT q5 (nI_toInt (by omega)) rfl
            refine yR.adv 1 (pc' := 100) (lv' := [(0, .ref 93), (1, .int (nI s)), (2, .int i), (3, .int x)]) (st' := [.int x, .int ((72 * (nI s)) + i), .ref 101]) (M' := zup M 93 0 0) rfl ?_
            rw [show x = zcut lane x from by unfold zcut; rw [if_neg (by omega), if_neg (by omega)]]
            exact fin.drop (by refine ⟨?_, ?_⟩ <;> simp [zget, zwf])
          · have q5' : ¬ ¬ (lane : Int) = 1 := zcF q5 (nI_toInt (by omega)) rfl
            refine yR.adv 3 (pc' := 100) (lv' := [(0, .ref 93), (1, .int (nI s)), (2, .int i), (3, .int x)]) (st' := [.int x.toInt16.toInt32, .int ((72 * (nI s)) + i), .ref 101]) (M' := zup M 93 0 0) rfl ?_
            rw [show x.toInt16.toInt32 = zcut lane x from by unfold zcut; rw [if_neg (by omega), if_pos (by omega)]]
            exact fin.drop (by refine ⟨?_, ?_⟩ <;> simp [zget, zwf])
        · have q4' : ¬ ¬ (lane : Int) = 0 := zcF q4 (nI_toInt (by omega)) rfl
          refine yR.adv 3 (pc' := 100) (lv' := [(0, .ref 93), (1, .int (nI s)), (2, .int i), (3, .int x)]) (st' := [.int x.toInt8.toInt32, .int ((72 * (nI s)) + i), .ref 101]) (M' := zup M 93 0 0) rfl ?_
          rw [show x.toInt8.toInt32 = zcut lane x from by unfold zcut; rw [if_pos (by omega)]]
          exact fin.drop (by refine ⟨?_, ?_⟩ <;> simp [zget, zwf])
      · have z3 := zne1 h2 q3
        rw [ti] at z3
        have hv2 := hv.resolve_right (fun z => z3 ⟨z.1.1, by have := z.1.2; omega⟩)
        refine yR.adv 2 (pc' := 56) (lv' := [(0, .ref 93), (1, .int (nI s)), (2, .int i), (3, .int x)]) (st' := [.int 3, .ref 93]) (M' := zup M 93 0 0) rfl ?_
        refine yR.callK (M1 := zup (zup M 93 0 0) 93 0 3) _ rfl rfl rfl rfl rfl (r_fails (zup M 93 0 0) 3) ?_
        show yR 155 59 [(0, .ref 93), (1, .int (nI s)), (2, .int i), (3, .int x)] [.int (-13)] (zup (zup M 93 0 0) 93 0 3) _
        refine yR.ret _ rfl rfl rfl ?_
        exact ⟨by rw [hv2.2.1], by rw [hv2.2.2]⟩
    · exact absurd (zne_f q2) (nI_nm9 lane (by omega))
  · exact absurd q1 (by decide)
theorem r_at (M N : zMm) (s : Nat) (hs : s < 4) (lane len : Nat) (hl : lane < 3) (hn : len ≤ 72) (hL : M.1 99 s = nI lane) (hN : M.1 100 s = nI len) (i l : Int32) (hl2 : 0 ≤ l.toInt ∧ l.toInt ≤ 2) (v : Int64) (hv : (¬ l = nI lane ∧ v = zlost ∧ N = zup (zup M 93 0 0) 93 0 2) ∨ (l = nI lane ∧ ¬ (0 ≤ i.toInt ∧ i.toInt < len) ∧ v = zlost ∧ N = zup (zup M 93 0 0) 93 0 3) ∨ (l = nI lane ∧ (0 ≤ i.toInt ∧ i.toInt < len) ∧ v = (M.1 101 (72 * s + i.toInt.toNat)).toInt64 ∧ N = zup M 93 0 0)) : yOk 156 0 [(0, .ref 93), (1, .int (nI s)), (2, .int i), (3, .int l)] [] M (some (.long v)) N := by
  refine yR.ok ?_
  have ts : (nI s).toInt64.toInt = s := by rw [Int32.toInt_toInt64, nI_toInt (by omega)]
  have ti : i.toInt64.toInt = i.toInt := Int32.toInt_toInt64 i
  have tl : l.toInt64.toInt = l.toInt := Int32.toInt_toInt64 l
  have hL' : (zup M 93 0 0).1 99 s = nI lane := by rw [zup_i, if_neg (by omega)]; exact hL
  have hN' : (zup M 93 0 0).1 100 s = nI len := by rw [zup_i, if_neg (by omega)]; exact hN
  have tm : (nI len - 1).toInt64.toInt = (len : Int) - 1 := by rw [Int32.toInt_toInt64, nI_iI, show (1 : Int32) = iI 1 from rfl, iI_sub, iI_toInt (by omega)]
  obtain ⟨v2, h2⟩ := zem (0 ≤ i.toInt64.toInt ∧ i.toInt64.toInt ≤ (len : Int) - 1)
  refine yR.adv 7 (pc' := 11) (lv' := [(0, .ref 93), (1, .int (nI s)), (2, .int i), (3, .int l)]) (st' := [.long 3, .long 0, .long ((nI s).toInt64)]) (M' := zup M 93 0 0) rfl ?_
  refine yR.callK (M1 := zup M 93 0 0) _ rfl rfl rfl rfl rfl (r_withinV (zup M 93 0 0) (nI s).toInt64 0 3 0 3 rfl rfl 1 (Or.inl ⟨by rw [ts]; omega, rfl⟩)) ?_
  show yR 156 14 [(0, .ref 93), (1, .int (nI s)), (2, .int i), (3, .int l)] [.int 1] (zup M 93 0 0) _
  refine yR.if1 .eq _ _ _ _ rfl (fun q1 => ?_) (fun q1 => ?_)
  · exact absurd q1 (by decide)
  · refine yR.adv 4 (pc' := 23) (lv' := [(0, .ref 93), (1, .int (nI s)), (2, .int i), (3, .int l)]) (st' := [.long 2, .long 0, .long l.toInt64]) (M' := zup M 93 0 0) rfl ?_
    refine yR.callK (M1 := zup M 93 0 0) _ rfl rfl rfl rfl rfl (r_withinV (zup M 93 0 0) l.toInt64 0 2 0 2 rfl rfl 1 (Or.inl ⟨by rw [tl]; exact hl2, rfl⟩)) ?_
    show yR 156 26 [(0, .ref 93), (1, .int (nI s)), (2, .int i), (3, .int l)] [.int 1] (zup M 93 0 0) _
    refine yR.if1 .ne _ _ _ _ rfl (fun q2 => ?_) (fun q2 => ?_)
    · refine yR.adv 3 (pc' := 38) (lv' := [(0, .ref 93), (1, .int (nI s)), (2, .int i), (3, .int l)]) (st' := [.int (nI s), .ref 99]) (M' := zup M 93 0 0) rfl ?_
      refine yR.iald s _ _ _ rfl rfl (by decide) (rfl) (by omega) ?_
      rw [hL']
      refine yR.adv 1 (pc' := 41) (lv' := [(0, .ref 93), (1, .int (nI s)), (2, .int i), (3, .int l)]) (st' := [.int (-9), .int (nI lane)]) (M' := zup M 93 0 0) rfl ?_
      refine yR.if2 .eq _ _ _ _ rfl (fun q3 => ?_) (fun q3 => ?_)
      · exact absurd (zeq_t q3) (nI_nm9 lane (by omega))
      · refine yR.adv 3 (pc' := 49) (lv' := [(0, .ref 93), (1, .int (nI s)), (2, .int i), (3, .int l)]) (st' := [.int (nI s), .ref 99]) (M' := zup M 93 0 0) rfl ?_
        refine yR.iald s _ _ _ rfl rfl (by decide) (rfl) (by omega) ?_
        rw [hL']
        refine yR.adv 1 (pc' := 51) (lv' := [(0, .ref 93), (1, .int (nI s)), (2, .int i), (3, .int l)]) (st' := [.int l, .int (nI lane)]) (M' := zup M 93 0 0) rfl ?_
        refine yR.if2 .eq _ _ _ _ rfl (fun q4 => ?_) (fun q4 => ?_)
        · have q4' := (zeq_t q4).symm
          have hv2 := hv.resolve_left (fun z => z.1 q4')
          refine yR.adv 3 (pc' := 65) (lv' := [(0, .ref 93), (1, .int (nI s)), (2, .int i), (3, .int l)]) (st' := [.int (nI s), .ref 99]) (M' := zup M 93 0 0) rfl ?_
          refine yR.iald s _ _ _ rfl rfl (by decide) (rfl) (by omega) ?_
          rw [hL']
          refine yR.adv 1 (pc' := 68) (lv' := [(0, .ref 93), (1, .int (nI s)), (2, .int i), (3, .int l)]) (st' := [.int (-9), .int (nI lane)]) (M' := zup M 93 0 0) rfl ?_
          refine yR.if2 .ne _ _ _ _ rfl (fun q5 => ?_) (fun q5 => ?_)
          · refine yR.adv 6 (pc' := 85) (lv' := [(0, .ref 93), (1, .int (nI s)), (2, .int i), (3, .int l)]) (st' := [.int (nI s), .ref 100, .long 0, .long i.toInt64]) (M' := zup M 93 0 0) rfl ?_
            refine yR.iald s _ _ _ rfl rfl (by decide) (rfl) (by omega) ?_
            rw [hN']
            refine yR.adv 3 (pc' := 89) (lv' := [(0, .ref 93), (1, .int (nI s)), (2, .int i), (3, .int l)]) (st' := [.long (((nI len) - 1).toInt64), .long 0, .long i.toInt64]) (M' := zup M 93 0 0) rfl ?_
            refine yR.callK (M1 := zup M 93 0 0) _ rfl rfl rfl rfl rfl (r_withinV (zup M 93 0 0) i.toInt64 0 ((len : Int) - 1) 0 (nI len - 1).toInt64 rfl tm v2 h2) ?_
            show yR 156 92 [(0, .ref 93), (1, .int (nI s)), (2, .int i), (3, .int l)] [.int v2] (zup M 93 0 0) _
            refine yR.if1 .ne _ _ _ _ rfl (fun q6 => ?_) (fun q6 => ?_)
            · have z3 := zne0 h2 q6
              rw [ti] at z3
              have hv3 := hv2.resolve_left (fun z => z.2.1 ⟨z3.1, by omega⟩)
              have ei : i = nI i.toInt.toNat := by rw [nI_iI, Int.toNat_of_nonneg z3.1, iI_of]
              have hix : 72 * nI s + i = nI (72 * s + i.toInt.toNat) := by
                rw [← r_cellix s i.toInt.toNat hs (by omega), ← ei]
              have hc : (zup M 93 0 0).1 101 (72 * s + i.toInt.toNat) = M.1 101 (72 * s + i.toInt.toNat) := by rw [zup_i, if_neg (by omega)]
              refine yR.adv 7 (pc' := 111) (lv' := [(0, .ref 93), (1, .int (nI s)), (2, .int i), (3, .int l)]) (st' := [.int ((72 * (nI s)) + i), .ref 101]) (M' := zup M 93 0 0) rfl ?_
              refine yR.iald (72 * s + i.toInt.toNat) _ _ _ rfl rfl (by decide) (hix) (by omega) ?_
              rw [hc]
              refine yR.adv 1 (pc' := 113) (lv' := [(0, .ref 93), (1, .int (nI s)), (2, .int i), (3, .int l)]) (st' := [.long ((M.1 101 (72 * s + i.toInt.toNat)).toInt64)]) (M' := zup M 93 0 0) rfl ?_
              refine yR.ret _ rfl rfl rfl ?_
              exact ⟨by rw [hv3.2.2.1], by rw [hv3.2.2.2]⟩
            · have z3 := zne1 h2 q6
              rw [ti] at z3
              have hv3 := hv2.resolve_right (fun z => z3 ⟨z.2.1.1, by have := z.2.1.2; omega⟩)
              refine yR.adv 2 (pc' := 97) (lv' := [(0, .ref 93), (1, .int (nI s)), (2, .int i), (3, .int l)]) (st' := [.int 3, .ref 93]) (M' := zup M 93 0 0) rfl ?_
              refine yR.callK (M1 := zup (zup M 93 0 0) 93 0 3) _ rfl rfl rfl rfl rfl (r_lost (zup M 93 0 0) 3) ?_
              show yR 156 100 [(0, .ref 93), (1, .int (nI s)), (2, .int i), (3, .int l)] [.long zlost] (zup (zup M 93 0 0) 93 0 3) _
              refine yR.ret _ rfl rfl rfl ?_
              exact ⟨by rw [hv3.2.2.1], by rw [hv3.2.2.2]⟩
          · exact absurd (zne_f q5) (nI_nm9 lane (by omega))
        · have q4' := zeq_f q4
          have hv2 := hv.resolve_right (fun z => q4' (z.elim (fun y => y.1) (fun y => y.1)).symm)
          refine yR.adv 2 (pc' := 56) (lv' := [(0, .ref 93), (1, .int (nI s)), (2, .int i), (3, .int l)]) (st' := [.int 2, .ref 93]) (M' := zup M 93 0 0) rfl ?_
          refine yR.callK (M1 := zup (zup M 93 0 0) 93 0 2) _ rfl rfl rfl rfl rfl (r_lost (zup M 93 0 0) 2) ?_
          show yR 156 59 [(0, .ref 93), (1, .int (nI s)), (2, .int i), (3, .int l)] [.long zlost] (zup (zup M 93 0 0) 93 0 2) _
          refine yR.ret _ rfl rfl rfl ?_
          exact ⟨by rw [hv2.2.1], by rw [hv2.2.2]⟩
    · exact absurd q2 (by decide)
