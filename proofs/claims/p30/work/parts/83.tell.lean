/-! ===== of one place: isWithin, isInside, sizes of orbits, kinds; about, tell, count, as, of both ===== -/
theorem m_isWithin (M : zMm) (dom : Nat) (q W : Int) (L : zPl) (h : zRm dom q W M L) (p : Nat) (e : zPt × Int32) (hp : L[p]? = some e) (v : Int32) (hv : ((zdom dom q e.1.1.toInt e.1.2.toInt ∧ v = 1) ∨ (¬ zdom dom q e.1.1.toInt e.1.2.toInt ∧ v = 0))) : yOk 23 0 [(0, .ref 1), (1, .int (nI p))] [] M (some (.int v)) M := by
  obtain ⟨hU, hk, hd, hq, hW, hdom, bq, bW⟩ := id h
  have hL24 := hU.2.1
  have hpl := (List.getElem?_eq_some_iff.mp hp).1
  obtain ⟨g1, g2, g3⟩ := hU.2.2 p e hp
  obtain ⟨k1, k2, k3⟩ := hk e (List.mem_of_getElem? hp)
  have tq : (iI q).toInt = q := iI_toInt (by omega)
  refine yR.ok ?_
  unfold zgr at k1 k2
  refine yR.adv 7 (pc' := 13) (lv' := [(0, .ref 1), (1, .int (nI p))]) (st' := [.int (nI p), .ref 2, .int (M.1 1 1), .int (M.1 1 0)]) (M' := M) rfl ?_
  rw [hd]
  rw [hq]
  refine yR.iald p _ _ _ rfl rfl (by decide) (rfl) (by omega) ?_
  rw [g1]
  refine yR.adv 3 (pc' := 19) (lv' := [(0, .ref 1), (1, .int (nI p))]) (st' := [.int (nI p), .ref 3, .int e.1.1, .int (iI q), .int (nI dom)]) (M' := M) rfl ?_
  refine yR.iald p _ _ _ rfl rfl (by decide) (rfl) (by omega) ?_
  rw [g2]
  refine yR.callK (M1 := M) _ rfl rfl rfl rfl rfl (m_liesIn M dom hdom (iI q) e.1.1 e.1.2 (by omega) (by omega) v (by rw [tq]; exact hv)) ?_
  show yR 23 23 [(0, .ref 1), (1, .int (nI p))] [.int v] M _
  rcases hv with ⟨_, hv⟩ | ⟨_, hv⟩ <;> subst hv <;> exact yR.ret _ rfl rfl rfl ⟨rfl, rfl⟩
theorem r_isInside (M : zMm) (dom : Nat) (q W : Int) (L : zPl) (h : zRr dom q W M L) (p : Nat) (e : zPt × Int32) (hp : L[p]? = some e) (v : Int32) (hv : ((zdom dom q e.1.1.toInt e.1.2.toInt ∧ v = 1) ∨ (¬ zdom dom q e.1.1.toInt e.1.2.toInt ∧ v = 0))) : yOk 131 0 [(0, .ref 93), (1, .int (nI p))] [] M (some (.int v)) M := by
  obtain ⟨hU, hk, hd, hq, hW, hdom, bq, bW⟩ := id h
  have hL24 := hU.2.1
  have hpl := (List.getElem?_eq_some_iff.mp hp).1
  obtain ⟨g1, g2, g3⟩ := hU.2.2 p e hp
  obtain ⟨k1, k2, k3⟩ := hk e (List.mem_of_getElem? hp)
  have tq : (iI q).toInt = q := iI_toInt (by omega)
  refine yR.ok ?_
  unfold zgr at k1 k2
  refine yR.adv 4 (pc' := 6) (lv' := [(0, .ref 93), (1, .int (nI p))]) (st' := [.int (nI p), .ref 94, .ref 93]) (M' := M) rfl ?_
  refine yR.iald p _ _ _ rfl rfl (by decide) (rfl) (by omega) ?_
  rw [g1]
  refine yR.adv 3 (pc' := 12) (lv' := [(0, .ref 93), (1, .int (nI p))]) (st' := [.int (nI p), .ref 95, .int e.1.1, .ref 93]) (M' := M) rfl ?_
  refine yR.iald p _ _ _ rfl rfl (by decide) (rfl) (by omega) ?_
  rw [g2]
  refine yR.adv 2 (pc' := 17) (lv' := [(0, .ref 93), (1, .int (nI p))]) (st' := [.int (M.1 93 5), .int e.1.2, .int e.1.1, .ref 93]) (M' := M) rfl ?_
  rw [hq]
  refine yR.callK (M1 := M) _ rfl rfl rfl rfl rfl (r_isIn M dom hdom hd (iI q) e.1.1 e.1.2 (by omega) (by omega) v (by rw [tq]; exact hv)) ?_
  show yR 131 20 [(0, .ref 93), (1, .int (nI p))] [.int v] M _
  rcases hv with ⟨_, hv⟩ | ⟨_, hv⟩ <;> subst hv <;> exact yR.ret _ rfl rfl rfl ⟨rfl, rfl⟩
theorem m_sizeOrb (M : zMm) (dom : Nat) (q W : Int) (L : zPl) (h : zRm dom q W M L) (p : Nat) (e : zPt × Int32) (hp : L[p]? = some e) : yR 76 0 [(0, .ref 0), (1, .int (nI p))] [] M (fun r N => r = some (.int (nI (ofold [] (zpsM (nI dom) (iI q) e.1.1 e.1.2)).length)) ∧ zKp [9, 10, 11] [] M N) := by
  obtain ⟨hU, hk, hd, hq, hW, hdom, bq, bW⟩ := id h
  have hL24 := hU.2.1
  have hpl := (List.getElem?_eq_some_iff.mp hp).1
  obtain ⟨g1, g2, g3⟩ := hU.2.2 p e hp
  obtain ⟨k1, k2, k3⟩ := hk e (List.mem_of_getElem? hp)
  have tq : (iI q).toInt = q := iI_toInt (by omega)
  refine yR.adv 12 (pc' := 26) (lv' := [(0, .ref 0), (1, .int (nI p))]) (st' := [.int (nI p), .ref 2, .int (M.1 1 1), .int (M.1 1 0), .ref 9]) (M' := M) rfl ?_
  rw [hd]
  rw [hq]
  refine yR.iald p _ _ _ rfl rfl (by decide) (rfl) (by omega) ?_
  rw [g1]
  refine yR.adv 4 (pc' := 35) (lv' := [(0, .ref 0), (1, .int (nI p))]) (st' := [.int (nI p), .ref 3, .int e.1.1, .int (iI q), .int (nI dom), .ref 9]) (M' := M) rfl ?_
  refine yR.iald p _ _ _ rfl rfl (by decide) (rfl) (by omega) ?_
  rw [g2]
  refine yR.call _ rfl rfl rfl rfl rfl (m_gatherE M (nI dom) (iI q) e.1.1 e.1.2) (fun r1 M1 hq => ?_)
  obtain ⟨rfl, o1, e1⟩ := hq
  show yR 76 39 [(0, .ref 0), (1, .int (nI p))] [] M1 _
  refine yR.adv 3 (pc' := 46) (lv' := [(0, .ref 0), (1, .int (nI p))]) (st' := [.int (M1.1 9 2)]) (M' := M1) rfl ?_
  rw [o1.1]
  refine yR.ret _ rfl rfl rfl ?_
  exact ⟨rfl, e1.sub (by decide)⟩
theorem r_sizeOrb (M : zMm) (dom : Nat) (q W : Int) (L : zPl) (h : zRr dom q W M L) (p : Nat) (e : zPt × Int32) (hp : L[p]? = some e) : yR 130 0 [(0, .ref 93), (1, .int (nI p))] [] M (fun r N => r = some (.int (nI (ofold [] (zpsM (nI dom) (iI q) e.1.1 e.1.2)).length)) ∧ zKp [97, 98] [(93, 13)] M N) := by
  obtain ⟨hU, hk, hd, hq, hW, hdom, bq, bW⟩ := id h
  have hL24 := hU.2.1
  have hpl := (List.getElem?_eq_some_iff.mp hp).1
  obtain ⟨g1, g2, g3⟩ := hU.2.2 p e hp
  obtain ⟨k1, k2, k3⟩ := hk e (List.mem_of_getElem? hp)
  have tq : (iI q).toInt = q := iI_toInt (by omega)
  refine yR.adv 4 (pc' := 6) (lv' := [(0, .ref 93), (1, .int (nI p))]) (st' := [.int (nI p), .ref 94, .ref 93]) (M' := M) rfl ?_
  refine yR.iald p _ _ _ rfl rfl (by decide) (rfl) (by omega) ?_
  rw [g1]
  refine yR.adv 3 (pc' := 12) (lv' := [(0, .ref 93), (1, .int (nI p))]) (st' := [.int (nI p), .ref 95, .int e.1.1, .ref 93]) (M' := M) rfl ?_
  refine yR.iald p _ _ _ rfl rfl (by decide) (rfl) (by omega) ?_
  rw [g2]
  refine yR.adv 2 (pc' := 17) (lv' := [(0, .ref 93), (1, .int (nI p))]) (st' := [.int (M.1 93 5), .int e.1.2, .int e.1.1, .ref 93]) (M' := M) rfl ?_
  rw [hq]
  refine yR.call _ rfl rfl rfl rfl rfl (r_orbitE M (nI dom) (iI q) e.1.1 e.1.2 hd) (fun r1 M1 hq => ?_)
  obtain ⟨rfl, o1, e1⟩ := hq
  show yR 130 20 [(0, .ref 93), (1, .int (nI p))] [] M1 _
  refine yR.adv 2 (pc' := 24) (lv' := [(0, .ref 93), (1, .int (nI p))]) (st' := [.int (M1.1 93 13)]) (M' := M1) rfl ?_
  rw [o1.1]
  refine yR.ret _ rfl rfl rfl ?_
  exact ⟨rfl, e1⟩
theorem zolen (dom : Nat) (q : Int) (x y : Int32) : 1 ≤ (ofold [] (zpsM (nI dom) (iI q) x y)).length ∧ (ofold [] (zpsM (nI dom) (iI q) x y)).length ≤ 8 := by
  have := zorb_len dom q (x.toInt, y.toInt)
  unfold zorb at this
  rw [show iI (x.toInt, y.toInt).1 = x from iI_of x, show iI (x.toInt, y.toInt).2 = y from iI_of y] at this
  exact this
/-- 2 not in the domain, 0 alone, 1 of many -/
def zkind (dom : Nat) (q : Int) (e : zPt × Int32) (v : Int32) : Prop := (¬ zdom dom q e.1.1.toInt e.1.2.toInt ∧ v = 2) ∨ (zdom dom q e.1.1.toInt e.1.2.toInt ∧ (((ofold [] (zpsM (nI dom) (iI q) e.1.1 e.1.2)).length = 1 ∧ v = 0) ∨ (¬ (ofold [] (zpsM (nI dom) (iI q) e.1.1 e.1.2)).length = 1 ∧ v = 1)))
theorem zkind_ex (dom : Nat) (q : Int) (e : zPt × Int32) : ∃ v, zkind dom q e v := by
  unfold zkind
  by_cases h : zdom dom q e.1.1.toInt e.1.2.toInt
  · by_cases h2 : (ofold [] (zpsM (nI dom) (iI q) e.1.1 e.1.2)).length = 1
    · exact ⟨0, Or.inr ⟨h, Or.inl ⟨h2, rfl⟩⟩⟩
    · exact ⟨1, Or.inr ⟨h, Or.inr ⟨h2, rfl⟩⟩⟩
  · exact ⟨2, Or.inl ⟨h, rfl⟩⟩
theorem m_kindOf (M : zMm) (dom : Nat) (q W : Int) (L : zPl) (h : zRm dom q W M L) (p : Nat) (e : zPt × Int32) (hp : L[p]? = some e) (v : Int32) (hv : zkind dom q e v) : yR 89 0 [(0, .ref 0), (1, .int (nI p))] [] M (fun r N => r = some (.int v) ∧ zKp [9, 10, 11] [] M N) := by
  obtain ⟨w, hw⟩ := zem (zdom dom q e.1.1.toInt e.1.2.toInt)
  have hl := zolen dom q e.1.1 e.1.2
  refine yR.adv 3 (pc' := 5) (lv' := [(0, .ref 0), (1, .int (nI p))]) (st' := [.int (nI p), .ref 1]) (M' := M) rfl ?_
  refine yR.callK (M1 := M) _ rfl rfl rfl rfl rfl (m_isWithin M dom q W L h p e hp w hw) ?_
  show yR 89 8 [(0, .ref 0), (1, .int (nI p))] [.int w] M _
  refine yR.if1 .ne _ _ _ _ rfl (fun q1 => ?_) (fun q1 => ?_)
  · have z1 := zne0 hw q1
    have hv2 := hv.resolve_left (fun z => z.1 z1)
    refine yR.adv 2 (pc' := 15) (lv' := [(0, .ref 0), (1, .int (nI p))]) (st' := [.int (nI p), .ref 0]) (M' := M) rfl ?_
    refine yR.call _ rfl rfl rfl rfl rfl (m_sizeOrb M dom q W L h p e hp) (fun r1 M1 hq => ?_)
    obtain ⟨rfl, e1⟩ := hq
    show yR 89 18 [(0, .ref 0), (1, .int (nI p))] [.int (nI (ofold [] (zpsM (nI dom) (iI q) e.1.1 e.1.2)).length)] M1 _
    refine yR.adv 1 (pc' := 19) (lv' := [(0, .ref 0), (1, .int (nI p))]) (st' := [.int 1, .int (nI (ofold [] (zpsM (nI dom) (iI q) e.1.1 e.1.2)).length)]) (M' := M1) rfl ?_
    refine yR.if2 .ne _ _ _ _ rfl (fun q2 => ?_) (fun q2 => ?_)
    · have q2' : ¬ ((ofold [] (zpsM (nI dom) (iI q) e.1.1 e.1.2)).length : Int) = 1 := zcT q2 (nI_toInt (by omega)) rfl
      have hv0 : v = 1 := hv2.2.elim (fun z => absurd z.1 (by omega)) (fun z => z.2)
      refine yR.adv 1 (pc' := 27) (lv' := [(0, .ref 0), (1, .int (nI p))]) (st' := [.int 1]) (M' := M1) rfl ?_
      refine yR.ret _ rfl rfl rfl ?_
      exact ⟨by rw [hv0], e1⟩
    · have q2' : ¬ ¬ ((ofold [] (zpsM (nI dom) (iI q) e.1.1 e.1.2)).length : Int) = 1 := zcF q2 (nI_toInt (by omega)) rfl
      have hv0 : v = 0 := hv2.2.elim (fun z => z.2) (fun z => absurd (by omega) z.1)
      refine yR.adv 2 (pc' := 27) (lv' := [(0, .ref 0), (1, .int (nI p))]) (st' := [.int 0]) (M' := M1) rfl ?_
      refine yR.ret _ rfl rfl rfl ?_
      exact ⟨by rw [hv0], e1⟩
  · have z1 := zne1 hw q1
    have hv0 : v = 2 := hv.elim (fun z => z.2) (fun z => absurd z.1 z1)
    refine yR.adv 1 (pc' := 12) (lv' := [(0, .ref 0), (1, .int (nI p))]) (st' := [.int 2]) (M' := M) rfl ?_
    refine yR.ret _ rfl rfl rfl ?_
    exact ⟨by rw [hv0], zKp.refl _ _ _⟩
theorem m_about (M : zMm) (dom : Nat) (q W : Int) (L : zPl) (h : zRm dom q W M L) (p : Nat) (e : zPt × Int32) (hp : L[p]? = some e) (x v : Int32) (hv : (x = 0 ∧ v = e.1.1) ∨ (x = 1 ∧ v = e.1.2) ∨ (x = 2 ∧ v = e.2) ∨ (x = 3 ∧ v = nI (ofold [] (zpsM (nI dom) (iI q) e.1.1 e.1.2)).length) ∨ (x = 4 ∧ ((zdom dom q e.1.1.toInt e.1.2.toInt ∧ v = 1) ∨ (¬ zdom dom q e.1.1.toInt e.1.2.toInt ∧ v = 0))) ∨ ((x.toInt < 0 ∨ 4 < x.toInt) ∧ v = -2)) : yR 44 0 [(0, .ref 0), (1, .int (nI p)), (2, .int x)] [] M (fun r N => r = some (.int v) ∧ zKp [9, 10, 11] [] M N) := by
  obtain ⟨hU, hk, hd, hq, hW, hdom, bq, bW⟩ := id h
  have hL24 := hU.2.1
  have hpl := (List.getElem?_eq_some_iff.mp hp).1
  obtain ⟨g1, g2, g3⟩ := hU.2.2 p e hp
  obtain ⟨k1, k2, k3⟩ := hk e (List.mem_of_getElem? hp)
  have tq : (iI q).toInt = q := iI_toInt (by omega)
  have tp : (nI p).toInt = p := nI_toInt (by omega)
  refine yR.adv 3 (pc' := 5) (lv' := [(0, .ref 0), (1, .int (nI p)), (2, .int x)]) (st' := [.int (nI p), .ref 1]) (M' := M) rfl ?_
  refine yR.callK (M1 := M) _ rfl rfl rfl rfl rfl (m_has M L.length hU.1 hU.2.1 (nI p) 1 (Or.inl ⟨by rw [tp]; omega, rfl⟩)) ?_
  show yR 44 8 [(0, .ref 0), (1, .int (nI p)), (2, .int x)] [.int 1] M _
  refine yR.if1 .ne _ _ _ _ rfl (fun q1 => ?_) (fun q1 => ?_)
  · refine yR.adv 1 (pc' := 14) (lv' := [(0, .ref 0), (1, .int (nI p)), (2, .int x)]) (st' := [.int x]) (M' := M) rfl ?_
    rcases hv with ⟨hx, hv⟩ | ⟨hx, hv⟩ | ⟨hx, hv⟩ | ⟨hx, hv⟩ | ⟨hx, hv⟩ | ⟨hx, hv⟩
    · subst hx
      refine yR.tab _ _ _ _ _ _ _ _ rfl 34 48 (rfl) rfl ?_
      refine yR.adv 4 (pc' := 56) (lv' := [(0, .ref 0), (1, .int (nI p)), (2, .int 0)]) (st' := [.int (nI p), .ref 2]) (M' := M) rfl ?_
      refine yR.iald p _ _ _ rfl rfl (by decide) (rfl) (by omega) ?_
      rw [g1]
      refine yR.ret _ rfl rfl rfl ?_
      exact ⟨by rw [hv], zKp.refl _ _ _⟩
    · subst hx
      refine yR.tab _ _ _ _ _ _ _ _ rfl 44 58 (rfl) rfl ?_
      refine yR.adv 4 (pc' := 66) (lv' := [(0, .ref 0), (1, .int (nI p)), (2, .int 1)]) (st' := [.int (nI p), .ref 3]) (M' := M) rfl ?_
      refine yR.iald p _ _ _ rfl rfl (by decide) (rfl) (by omega) ?_
      rw [g2]
      refine yR.ret _ rfl rfl rfl ?_
      exact ⟨by rw [hv], zKp.refl _ _ _⟩
    · subst hx
      refine yR.tab _ _ _ _ _ _ _ _ rfl 54 68 (rfl) rfl ?_
      refine yR.adv 4 (pc' := 76) (lv' := [(0, .ref 0), (1, .int (nI p)), (2, .int 2)]) (st' := [.int (nI p), .ref 4]) (M' := M) rfl ?_
      refine yR.iald p _ _ _ rfl rfl (by decide) (rfl) (by omega) ?_
      rw [g3]
      refine yR.ret _ rfl rfl rfl ?_
      exact ⟨by rw [hv], zKp.refl _ _ _⟩
    · subst hx
      refine yR.tab _ _ _ _ _ _ _ _ rfl 64 78 (rfl) rfl ?_
      refine yR.adv 2 (pc' := 80) (lv' := [(0, .ref 0), (1, .int (nI p)), (2, .int 3)]) (st' := [.int (nI p), .ref 0]) (M' := M) rfl ?_
      refine yR.call _ rfl rfl rfl rfl rfl (m_sizeOrb M dom q W L h p e hp) (fun r1 M1 hq => ?_)
      obtain ⟨rfl, e1⟩ := hq
      show yR 44 83 [(0, .ref 0), (1, .int (nI p)), (2, .int 3)] [.int (nI (ofold [] (zpsM (nI dom) (iI q) e.1.1 e.1.2)).length)] M1 _
      refine yR.ret _ rfl rfl rfl ?_
      exact ⟨by rw [hv], e1⟩
    · subst hx
      refine yR.tab _ _ _ _ _ _ _ _ rfl 70 84 (rfl) rfl ?_
      refine yR.adv 3 (pc' := 89) (lv' := [(0, .ref 0), (1, .int (nI p)), (2, .int 4)]) (st' := [.int (nI p), .ref 1]) (M' := M) rfl ?_
      refine yR.callK (M1 := M) _ rfl rfl rfl rfl rfl (m_isWithin M dom q W L h p e hp v hv) ?_
      show yR 44 92 [(0, .ref 0), (1, .int (nI p)), (2, .int 4)] [.int v] M _
      refine yR.if1 .eq _ _ _ _ rfl (fun q2 => ?_) (fun q2 => ?_)
      · have hv0 : v = 0 := zeq_t q2
        refine yR.adv 1 (pc' := 100) (lv' := [(0, .ref 0), (1, .int (nI p)), (2, .int 4)]) (st' := [.int 0]) (M' := M) rfl ?_
        refine yR.ret _ rfl rfl rfl ?_
        exact ⟨by rw [hv0], zKp.refl _ _ _⟩
      · have hv0 : v = 1 := hv.elim (fun z => z.2) (fun z => absurd z.2 (zeq_f q2))
        refine yR.adv 2 (pc' := 100) (lv' := [(0, .ref 0), (1, .int (nI p)), (2, .int 4)]) (st' := [.int 1]) (M' := M) rfl ?_
        refine yR.ret _ rfl rfl rfl ?_
        exact ⟨by rw [hv0], zKp.refl _ _ _⟩
    · skip
      refine yR.tab _ _ _ _ _ _ _ _ rfl 87 101 (by unfold ztab; rw [if_pos hx]) rfl ?_
      refine yR.adv 1 (pc' := 103) (lv' := [(0, .ref 0), (1, .int (nI p)), (2, .int x)]) (st' := [.int (-2)]) (M' := M) rfl ?_
      refine yR.ret _ rfl rfl rfl ?_
      exact ⟨by rw [hv], zKp.refl _ _ _⟩
  · exact absurd q1 (by decide)
theorem r_about (M : zMm) (dom : Nat) (q W : Int) (L : zPl) (h : zRr dom q W M L) (p : Nat) (e : zPt × Int32) (hp : L[p]? = some e) (x v : Int32) (hv : (x = 0 ∧ v = e.1.1) ∨ (x = 1 ∧ v = e.1.2) ∨ (x = 2 ∧ v = e.2) ∨ (x = 3 ∧ v = nI (ofold [] (zpsM (nI dom) (iI q) e.1.1 e.1.2)).length) ∨ (x = 4 ∧ ((zdom dom q e.1.1.toInt e.1.2.toInt ∧ v = 1) ∨ (¬ zdom dom q e.1.1.toInt e.1.2.toInt ∧ v = 0))) ∨ ((x.toInt < 0 ∨ 4 < x.toInt) ∧ v = -2)) : yR 132 0 [(0, .ref 93), (1, .int (nI p)), (2, .int x)] [] M (fun r N => r = some (.int v) ∧ zKp [97, 98] [(93, 13)] M N) := by
  obtain ⟨hU, hk, hd, hq, hW, hdom, bq, bW⟩ := id h
  have hL24 := hU.2.1
  have hpl := (List.getElem?_eq_some_iff.mp hp).1
  obtain ⟨g1, g2, g3⟩ := hU.2.2 p e hp
  obtain ⟨k1, k2, k3⟩ := hk e (List.mem_of_getElem? hp)
  have tq : (iI q).toInt = q := iI_toInt (by omega)
  have tp : (nI p).toInt = p := nI_toInt (by omega)
  refine yR.adv 2 (pc' := 2) (lv' := [(0, .ref 93), (1, .int (nI p)), (2, .int x)]) (st' := [.int (nI p), .ref 93]) (M' := M) rfl ?_
  refine yR.callK (M1 := M) _ rfl rfl rfl rfl rfl (r_isPlace M L.length hU.1 hU.2.1 (nI p) 1 (Or.inl ⟨by rw [tp]; omega, rfl⟩)) ?_
  show yR 132 5 [(0, .ref 93), (1, .int (nI p)), (2, .int x)] [.int 1] M _
  refine yR.if1 .ne _ _ _ _ rfl (fun q1 => ?_) (fun q1 => ?_)
  · refine yR.adv 1 (pc' := 11) (lv' := [(0, .ref 93), (1, .int (nI p)), (2, .int x)]) (st' := [.int x]) (M' := M) rfl ?_
    rcases hv with ⟨hx, hv⟩ | ⟨hx, hv⟩ | ⟨hx, hv⟩ | ⟨hx, hv⟩ | ⟨hx, hv⟩ | ⟨hx, hv⟩
    · subst hx
      refine yR.tab _ _ _ _ _ _ _ _ rfl 33 44 (rfl) rfl ?_
      refine yR.adv 3 (pc' := 49) (lv' := [(0, .ref 93), (1, .int (nI p)), (2, .int 0)]) (st' := [.int (nI p), .ref 94]) (M' := M) rfl ?_
      refine yR.iald p _ _ _ rfl rfl (by decide) (rfl) (by omega) ?_
      rw [g1]
      refine yR.ret _ rfl rfl rfl ?_
      exact ⟨by rw [hv], zKp.refl _ _ _⟩
    · subst hx
      refine yR.tab _ _ _ _ _ _ _ _ rfl 40 51 (rfl) rfl ?_
      refine yR.adv 3 (pc' := 56) (lv' := [(0, .ref 93), (1, .int (nI p)), (2, .int 1)]) (st' := [.int (nI p), .ref 95]) (M' := M) rfl ?_
      refine yR.iald p _ _ _ rfl rfl (by decide) (rfl) (by omega) ?_
      rw [g2]
      refine yR.ret _ rfl rfl rfl ?_
      exact ⟨by rw [hv], zKp.refl _ _ _⟩
    · subst hx
      refine yR.tab _ _ _ _ _ _ _ _ rfl 47 58 (rfl) rfl ?_
      refine yR.adv 3 (pc' := 63) (lv' := [(0, .ref 93), (1, .int (nI p)), (2, .int 2)]) (st' := [.int (nI p), .ref 96]) (M' := M) rfl ?_
      refine yR.iald p _ _ _ rfl rfl (by decide) (rfl) (by omega) ?_
      rw [g3]
      refine yR.ret _ rfl rfl rfl ?_
      exact ⟨by rw [hv], zKp.refl _ _ _⟩
    · subst hx
      refine yR.tab _ _ _ _ _ _ _ _ rfl 54 65 (rfl) rfl ?_
      refine yR.adv 2 (pc' := 67) (lv' := [(0, .ref 93), (1, .int (nI p)), (2, .int 3)]) (st' := [.int (nI p), .ref 93]) (M' := M) rfl ?_
      refine yR.call _ rfl rfl rfl rfl rfl (r_sizeOrb M dom q W L h p e hp) (fun r1 M1 hq => ?_)
      obtain ⟨rfl, e1⟩ := hq
      show yR 132 70 [(0, .ref 93), (1, .int (nI p)), (2, .int 3)] [.int (nI (ofold [] (zpsM (nI dom) (iI q) e.1.1 e.1.2)).length)] M1 _
      refine yR.ret _ rfl rfl rfl ?_
      exact ⟨by rw [hv], e1⟩
    · subst hx
      refine yR.tab _ _ _ _ _ _ _ _ rfl 60 71 (rfl) rfl ?_
      refine yR.adv 2 (pc' := 73) (lv' := [(0, .ref 93), (1, .int (nI p)), (2, .int 4)]) (st' := [.int (nI p), .ref 93]) (M' := M) rfl ?_
      refine yR.callK (M1 := M) _ rfl rfl rfl rfl rfl (r_isInside M dom q W L h p e hp v hv) ?_
      show yR 132 76 [(0, .ref 93), (1, .int (nI p)), (2, .int 4)] [.int v] M _
      refine yR.if1 .eq _ _ _ _ rfl (fun q2 => ?_) (fun q2 => ?_)
      · have hv0 : v = 0 := zeq_t q2
        refine yR.adv 1 (pc' := 84) (lv' := [(0, .ref 93), (1, .int (nI p)), (2, .int 4)]) (st' := [.int 0]) (M' := M) rfl ?_
        refine yR.ret _ rfl rfl rfl ?_
        exact ⟨by rw [hv0], zKp.refl _ _ _⟩
      · have hv0 : v = 1 := hv.elim (fun z => z.2) (fun z => absurd z.2 (zeq_f q2))
        refine yR.adv 2 (pc' := 84) (lv' := [(0, .ref 93), (1, .int (nI p)), (2, .int 4)]) (st' := [.int 1]) (M' := M) rfl ?_
        refine yR.ret _ rfl rfl rfl ?_
        exact ⟨by rw [hv0], zKp.refl _ _ _⟩
    · skip
      refine yR.tab _ _ _ _ _ _ _ _ rfl 74 85 (by unfold ztab; rw [if_pos hx]) rfl ?_
      refine yR.adv 1 (pc' := 87) (lv' := [(0, .ref 93), (1, .int (nI p)), (2, .int x)]) (st' := [.int (-2)]) (M' := M) rfl ?_
      refine yR.ret _ rfl rfl rfl ?_
      exact ⟨by rw [hv], zKp.refl _ _ _⟩
  · exact absurd q1 (by decide)
theorem m_leave (M : zMm) (n : Int32) : yOk 90 0 [(0, .ref 0), (1, .int n)] [] M none (zup M 0 13 (31 * M.1 0 13 + n)) := by
  refine yR.ok ?_
  refine yR.adv 8 (pc' := 13) (lv' := [(0, .ref 0), (1, .int n)]) (st' := []) (M' := zup M 0 13 ((31 * (M.1 0 13)) + n)) rfl ?_
  refine yR.ret _ rfl rfl rfl ?_
  exact ⟨rfl, rfl⟩
theorem r_begins (M : zMm) (n : Int32) : yOk 157 0 [(0, .ref 93), (1, .int n)] [] M none (zup M 93 1 (31 * M.1 93 1 + n)) := by
  refine yR.ok ?_
  refine yR.adv 8 (pc' := 13) (lv' := [(0, .ref 93), (1, .int n)]) (st' := []) (M' := zup M 93 1 ((31 * (M.1 93 1)) + n)) rfl ?_
  refine yR.ret _ rfl rfl rfl ?_
  exact ⟨rfl, rfl⟩
theorem m_tellAlone (M : zMm) (dom : Nat) (q W : Int) (L : zPl) (h : zRm dom q W M L) (p : Nat) (e : zPt × Int32) (hp : L[p]? = some e) : yR 91 0 [(0, .ref 0), (1, .int (nI p))] [] M (fun r N => r = some (.int e.2) ∧ N = zup M 0 13 (31 * M.1 0 13 + 1)) := by
  obtain ⟨hU, hk, hd, hq, hW, hdom, bq, bW⟩ := id h
  have hL24 := hU.2.1
  have hpl := (List.getElem?_eq_some_iff.mp hp).1
  obtain ⟨g1, g2, g3⟩ := hU.2.2 p e hp
  obtain ⟨k1, k2, k3⟩ := hk e (List.mem_of_getElem? hp)
  have tq : (iI q).toInt = q := iI_toInt (by omega)
  refine yR.adv 2 (pc' := 2) (lv' := [(0, .ref 0), (1, .int (nI p))]) (st' := [.int 1, .ref 0]) (M' := M) rfl ?_
  refine yR.callK (M1 := zup M 0 13 (31 * M.1 0 13 + 1)) _ rfl rfl rfl rfl rfl (m_leave M 1) ?_
  show yR 91 5 [(0, .ref 0), (1, .int (nI p))] [] (zup M 0 13 (31 * M.1 0 13 + 1)) _
  generalize g : zup M 0 13 (31 * M.1 0 13 + 1) = M1
  have g3' : M1.1 4 p = e.2 := by rw [← g, zup_i, if_neg (by omega)]; exact g3
  refine yR.adv 4 (pc' := 13) (lv' := [(0, .ref 0), (1, .int (nI p))]) (st' := [.int (nI p), .ref 4]) (M' := M1) rfl ?_
  refine yR.iald p _ _ _ rfl rfl (by decide) (rfl) (by omega) ?_
  rw [g3']
  refine yR.ret _ rfl rfl rfl ?_
  exact ⟨rfl, rfl⟩
/-- what telling answers, and the trace behind it -/
def ztell (dom : Nat) (q : Int) (e : zPt × Int32) (T : Int32) (v T' : Int32) : Prop := (¬ zdom dom q e.1.1.toInt e.1.2.toInt ∧ v = -e.2 ∧ T' = 31 * (31 * T + 3) + 1) ∨ (zdom dom q e.1.1.toInt e.1.2.toInt ∧ (((ofold [] (zpsM (nI dom) (iI q) e.1.1 e.1.2)).length = 1 ∧ v = e.2 ∧ T' = 31 * T + 1) ∨ (¬ (ofold [] (zpsM (nI dom) (iI q) e.1.1 e.1.2)).length = 1 ∧ v = e.2 + nI (ofold [] (zpsM (nI dom) (iI q) e.1.1 e.1.2)).length ∧ T' = 31 * (31 * T + 2) + 1)))
theorem ztell_ex (dom : Nat) (q : Int) (e : zPt × Int32) (T : Int32) : ∃ v T', ztell dom q e T v T' := by
  unfold ztell
  by_cases h : zdom dom q e.1.1.toInt e.1.2.toInt
  · by_cases h2 : (ofold [] (zpsM (nI dom) (iI q) e.1.1 e.1.2)).length = 1
    · exact ⟨_, _, Or.inr ⟨h, Or.inl ⟨h2, rfl, rfl⟩⟩⟩
    · exact ⟨_, _, Or.inr ⟨h, Or.inr ⟨h2, rfl, rfl⟩⟩⟩
  · exact ⟨_, _, Or.inl ⟨h, rfl, rfl⟩⟩
theorem m_tell (M : zMm) (dom : Nat) (q W : Int) (L : zPl) (h : zRm dom q W M L) (p : Nat) (e : zPt × Int32) (hp : L[p]? = some e) (v T' : Int32) (hv : ztell dom q e (M.1 0 13) v T') : yR 61 0 [(0, .ref 0), (1, .int (nI p))] [] M (fun r N => r = some (.int v) ∧ N.1 0 13 = T' ∧ zKp [9, 10, 11] [(0, 13)] M N) := by
  obtain ⟨hU, hk, hd, hq, hW, hdom, bq, bW⟩ := id h
  have hL24 := hU.2.1
  have hpl := (List.getElem?_eq_some_iff.mp hp).1
  obtain ⟨g1, g2, g3⟩ := hU.2.2 p e hp
  obtain ⟨k1, k2, k3⟩ := hk e (List.mem_of_getElem? hp)
  have tq : (iI q).toInt = q := iI_toInt (by omega)
  have tp : (nI p).toInt = p := nI_toInt (by omega)
  have kR : ∀ N : zMm, zKp [9, 10, 11] [(0, 13)] M N → zRm dom q W N L := fun N e => h.keep (fun a i z1 z2 => (e a i (by simp <;> omega) (by simp <;> omega)).1)
  obtain ⟨kd, hkd⟩ := zkind_ex dom q e
  refine yR.adv 3 (pc' := 5) (lv' := [(0, .ref 0), (1, .int (nI p))]) (st' := [.int (nI p), .ref 1]) (M' := M) rfl ?_
  refine yR.callK (M1 := M) _ rfl rfl rfl rfl rfl (m_has M L.length hU.1 hU.2.1 (nI p) 1 (Or.inl ⟨by rw [tp]; omega, rfl⟩)) ?_
  show yR 61 8 [(0, .ref 0), (1, .int (nI p))] [.int 1] M _
  refine yR.if1 .ne _ _ _ _ rfl (fun q1 => ?_) (fun q1 => ?_)
  · refine yR.adv 2 (pc' := 15) (lv' := [(0, .ref 0), (1, .int (nI p))]) (st' := [.int (nI p), .ref 0]) (M' := M) rfl ?_
    refine yR.call _ rfl rfl rfl rfl rfl (m_kindOf M dom q W L h p e hp kd hkd) (fun r1 M1 hq => ?_)
    obtain ⟨rfl, e1⟩ := hq
    show yR 61 18 [(0, .ref 0), (1, .int (nI p))] [.int kd] M1 _
    have E1 : zKp [9, 10, 11] [(0, 13)] M M1 := e1.sub (by decide)
    have R1 := kR M1 E1
    have t1 : M1.1 0 13 = M.1 0 13 := (e1 0 13 (by decide) (by simp)).1
    rcases hkd with ⟨z1, rfl⟩ | ⟨z1, ⟨z2, rfl⟩ | ⟨z2, rfl⟩⟩
    · have hv2 := hv.resolve_right (fun z => z1 z.1)
      refine yR.adv 1 (pc' := 56) (lv' := [(0, .ref 0), (1, .int (nI p))]) (st' := []) (M' := M1) rfl ?_
      refine yR.adv 2 (pc' := 58) (lv' := [(0, .ref 0), (1, .int (nI p))]) (st' := [.int (nI p), .ref 0]) (M' := M1) rfl ?_
      have ast : yR 93 0 [(0, .ref 0), (1, .int (nI p))] [] M1 (fun r N => r = some (.int v) ∧ N.1 0 13 = T' ∧ zKp [9, 10, 11] [(0, 13)] M N) := by
        refine yR.adv 2 (pc' := 2) (lv' := [(0, .ref 0), (1, .int (nI p))]) (st' := [.int 3, .ref 0]) (M' := M1) rfl ?_
        refine yR.callK (M1 := zup M1 0 13 (31 * M1.1 0 13 + 3)) _ rfl rfl rfl rfl rfl (m_leave M1 3) ?_
        show yR 93 5 [(0, .ref 0), (1, .int (nI p))] [] (zup M1 0 13 (31 * M1.1 0 13 + 3)) _
        generalize g : zup M1 0 13 (31 * M1.1 0 13 + 3) = M2
        have E2 : zKp [9, 10, 11] [(0, 13)] M M2 := by rw [← g]; exact E1.up (by simp)
        have t2 : M2.1 0 13 = 31 * M.1 0 13 + 3 := by rw [← g, zup_i, if_pos ⟨rfl, rfl⟩, t1]
        refine yR.adv 2 (pc' := 7) (lv' := [(0, .ref 0), (1, .int (nI p))]) (st' := [.int (nI p), .ref 0]) (M' := M2) rfl ?_
        refine yR.call _ rfl rfl rfl rfl rfl (m_tellAlone M2 dom q W L (kR M2 E2) p e hp) (fun r1 M3 hq => ?_)
        obtain ⟨rfl, e3⟩ := hq
        show yR 93 10 [(0, .ref 0), (1, .int (nI p))] [.int e.2] M3 _
        refine yR.adv 1 (pc' := 11) (lv' := [(0, .ref 0), (1, .int (nI p))]) (st' := [.int (-e.2)]) (M' := M3) rfl ?_
        refine yR.ret _ rfl rfl rfl ?_
        exact ⟨by rw [hv2.2.1], by rw [e3, zup_i, if_pos ⟨rfl, rfl⟩, t2, hv2.2.2], by rw [e3]; exact E2.up (by simp)⟩
      refine yR.call _ rfl rfl rfl rfl rfl (ast) (fun r1 M2 hq => ?_)
      obtain ⟨rfl, t2, e2⟩ := hq
      show yR 61 61 [(0, .ref 0), (1, .int (nI p))] [.int v] M2 _
      refine yR.ret _ rfl rfl rfl ?_
      exact ⟨rfl, t2, e2⟩
    · have hv2 := (hv.resolve_left (fun z => z.1 z1)).2.resolve_right (fun z => z.1 z2)
      refine yR.adv 1 (pc' := 44) (lv' := [(0, .ref 0), (1, .int (nI p))]) (st' := []) (M' := M1) rfl ?_
      refine yR.adv 2 (pc' := 46) (lv' := [(0, .ref 0), (1, .int (nI p))]) (st' := [.int (nI p), .ref 0]) (M' := M1) rfl ?_
      refine yR.call _ rfl rfl rfl rfl rfl (m_tellAlone M1 dom q W L R1 p e hp) (fun r1 M2 hq => ?_)
      obtain ⟨rfl, e3⟩ := hq
      show yR 61 49 [(0, .ref 0), (1, .int (nI p))] [.int e.2] M2 _
      refine yR.ret _ rfl rfl rfl ?_
      exact ⟨by rw [hv2.2.1], by rw [e3, zup_i, if_pos ⟨rfl, rfl⟩, t1, hv2.2.2], by rw [e3]; exact E1.up (by simp)⟩
    · have hv2 := (hv.resolve_left (fun z => z.1 z1)).2.resolve_left (fun z => z2 z.1)
      refine yR.adv 1 (pc' := 50) (lv' := [(0, .ref 0), (1, .int (nI p))]) (st' := []) (M' := M1) rfl ?_
      refine yR.adv 2 (pc' := 52) (lv' := [(0, .ref 0), (1, .int (nI p))]) (st' := [.int (nI p), .ref 0]) (M' := M1) rfl ?_
      have many : yR 92 0 [(0, .ref 0), (1, .int (nI p))] [] M1 (fun r N => r = some (.int v) ∧ N.1 0 13 = T' ∧ zKp [9, 10, 11] [(0, 13)] M N) := by
        refine yR.adv 2 (pc' := 2) (lv' := [(0, .ref 0), (1, .int (nI p))]) (st' := [.int 2, .ref 0]) (M' := M1) rfl ?_
        refine yR.callK (M1 := zup M1 0 13 (31 * M1.1 0 13 + 2)) _ rfl rfl rfl rfl rfl (m_leave M1 2) ?_
        show yR 92 5 [(0, .ref 0), (1, .int (nI p))] [] (zup M1 0 13 (31 * M1.1 0 13 + 2)) _
        generalize g : zup M1 0 13 (31 * M1.1 0 13 + 2) = M2
        have E2 : zKp [9, 10, 11] [(0, 13)] M M2 := by rw [← g]; exact E1.up (by simp)
        have t2 : M2.1 0 13 = 31 * M.1 0 13 + 2 := by rw [← g, zup_i, if_pos ⟨rfl, rfl⟩, t1]
        refine yR.adv 2 (pc' := 7) (lv' := [(0, .ref 0), (1, .int (nI p))]) (st' := [.int (nI p), .ref 0]) (M' := M2) rfl ?_
        refine yR.call _ rfl rfl rfl rfl rfl (m_tellAlone M2 dom q W L (kR M2 E2) p e hp) (fun r1 M3 hq => ?_)
        obtain ⟨rfl, e3⟩ := hq
        show yR 92 10 [(0, .ref 0), (1, .int (nI p))] [.int e.2] M3 _
        have E3 : zKp [9, 10, 11] [(0, 13)] M M3 := by rw [e3]; exact E2.up (by simp)
        have t3 : M3.1 0 13 = 31 * (31 * M.1 0 13 + 2) + 1 := by rw [e3, zup_i, if_pos ⟨rfl, rfl⟩, t2]
        refine yR.adv 2 (pc' := 12) (lv' := [(0, .ref 0), (1, .int (nI p))]) (st' := [.int (nI p), .ref 0, .int e.2]) (M' := M3) rfl ?_
        refine yR.call _ rfl rfl rfl rfl rfl (m_sizeOrb M3 dom q W L (kR M3 E3) p e hp) (fun r1 M4 hq => ?_)
        obtain ⟨rfl, e4⟩ := hq
        show yR 92 15 [(0, .ref 0), (1, .int (nI p))] [.int (nI (ofold [] (zpsM (nI dom) (iI q) e.1.1 e.1.2)).length), .int e.2] M4 _
        refine yR.adv 1 (pc' := 16) (lv' := [(0, .ref 0), (1, .int (nI p))]) (st' := [.int (e.2 + (nI (ofold [] (zpsM (nI dom) (iI q) e.1.1 e.1.2)).length))]) (M' := M4) rfl ?_
        refine yR.ret _ rfl rfl rfl ?_
        exact ⟨by rw [hv2.2.1], by rw [(e4 0 13 (by decide) (by simp)).1, t3, hv2.2.2], E3.trans (e4.sub (by decide))⟩
      refine yR.call _ rfl rfl rfl rfl rfl (many) (fun r1 M2 hq => ?_)
      obtain ⟨rfl, t2, e2⟩ := hq
      show yR 61 55 [(0, .ref 0), (1, .int (nI p))] [.int v] M2 _
      refine yR.ret _ rfl rfl rfl ?_
      exact ⟨rfl, t2, e2⟩
  · exact absurd q1 (by decide)
theorem r_tell (M : zMm) (dom : Nat) (q W : Int) (L : zPl) (h : zRr dom q W M L) (p : Nat) (e : zPt × Int32) (hp : L[p]? = some e) (v T' : Int32) (hv : ztell dom q e (M.1 93 1) v T') : yR 158 0 [(0, .ref 93), (1, .int (nI p))] [] M (fun r N => r = some (.int v) ∧ N.1 93 1 = T' ∧ zKp [97, 98] [(93, 1), (93, 13)] M N) := by
  obtain ⟨hU, hk, hd, hq, hW, hdom, bq, bW⟩ := id h
  have hL24 := hU.2.1
  have hpl := (List.getElem?_eq_some_iff.mp hp).1
  obtain ⟨g1, g2, g3⟩ := hU.2.2 p e hp
  obtain ⟨k1, k2, k3⟩ := hk e (List.mem_of_getElem? hp)
  have tq : (iI q).toInt = q := iI_toInt (by omega)
  have tp : (nI p).toInt = p := nI_toInt (by omega)
  have hol := zolen dom q e.1.1 e.1.2
  obtain ⟨w, hw⟩ := zem (zdom dom q e.1.1.toInt e.1.2.toInt)
  refine yR.adv 2 (pc' := 2) (lv' := [(0, .ref 93), (1, .int (nI p))]) (st' := [.int (nI p), .ref 93]) (M' := M) rfl ?_
  refine yR.callK (M1 := M) _ rfl rfl rfl rfl rfl (r_isPlace M L.length hU.1 hU.2.1 (nI p) 1 (Or.inl ⟨by rw [tp]; omega, rfl⟩)) ?_
  show yR 158 5 [(0, .ref 93), (1, .int (nI p))] [.int 1] M _
  refine yR.if1 .ne _ _ _ _ rfl (fun q1 => ?_) (fun q1 => ?_)
  · refine yR.adv 2 (pc' := 12) (lv' := [(0, .ref 93), (1, .int (nI p))]) (st' := [.int (nI p), .ref 93]) (M' := M) rfl ?_
    refine yR.callK (M1 := M) _ rfl rfl rfl rfl rfl (r_isInside M dom q W L h p e hp w hw) ?_
    show yR 158 15 [(0, .ref 93), (1, .int (nI p))] [.int w] M _
    refine yR.if1 .ne _ _ _ _ rfl (fun q2 => ?_) (fun q2 => ?_)
    · have z1 := zne0 hw q2
      have hv2 := (hv.resolve_left (fun z => z.1 z1)).2
      refine yR.adv 2 (pc' := 38) (lv' := [(0, .ref 93), (1, .int (nI p))]) (st' := [.int (nI p), .ref 93]) (M' := M) rfl ?_
      refine yR.call _ rfl rfl rfl rfl rfl (r_sizeOrb M dom q W L h p e hp) (fun r1 M1 hq => ?_)
      obtain ⟨rfl, e1⟩ := hq
      show yR 158 41 [(0, .ref 93), (1, .int (nI p))] [.int (nI (ofold [] (zpsM (nI dom) (iI q) e.1.1 e.1.2)).length)] M1 _
      have E1 : zKp [97, 98] [(93, 1), (93, 13)] M M1 := e1.sub (by decide)
      have t1 : M1.1 93 1 = M.1 93 1 := (e1 93 1 (by decide) (by simp)).1
      have w1 : M1.1 96 p = e.2 := by rw [(e1 96 p (by decide) (by simp)).1]; exact g3
      refine yR.adv 3 (pc' := 44) (lv' := [(2, .int (nI (ofold [] (zpsM (nI dom) (iI q) e.1.1 e.1.2)).length)), (0, .ref 93), (1, .int (nI p))]) (st' := [.int 1, .int (nI (ofold [] (zpsM (nI dom) (iI q) e.1.1 e.1.2)).length)]) (M' := M1) rfl ?_
      refine yR.if2 .le _ _ _ _ rfl (fun q3 => ?_) (fun q3 => ?_)
      · have q3' : ((ofold [] (zpsM (nI dom) (iI q) e.1.1 e.1.2)).length : Int) ≤ 1 := zcT q3 (nI_toInt (by omega)) rfl
        have hv3 := hv2.resolve_right (fun z => z.1 (by omega))
        refine yR.adv 2 (pc' := 54) (lv' := [(2, .int (nI (ofold [] (zpsM (nI dom) (iI q) e.1.1 e.1.2)).length)), (0, .ref 93), (1, .int (nI p))]) (st' := [.int 1, .ref 93]) (M' := M1) rfl ?_
        refine yR.callK (M1 := zup M1 93 1 (31 * M1.1 93 1 + 1)) _ rfl rfl rfl rfl rfl (r_begins M1 1) ?_
        show yR 158 57 [(2, .int (nI (ofold [] (zpsM (nI dom) (iI q) e.1.1 e.1.2)).length)), (0, .ref 93), (1, .int (nI p))] [] (zup M1 93 1 (31 * M1.1 93 1 + 1)) _
        generalize g : zup M1 93 1 (31 * M1.1 93 1 + 1) = M2
        have w2 : M2.1 96 p = e.2 := by rw [← g, zup_i, if_neg (by omega)]; exact w1
        refine yR.adv 2 (pc' := 59) (lv' := [(2, .int (nI (ofold [] (zpsM (nI dom) (iI q) e.1.1 e.1.2)).length)), (0, .ref 93), (1, .int (nI p))]) (st' := [.int 1, .int (nI (ofold [] (zpsM (nI dom) (iI q) e.1.1 e.1.2)).length)]) (M' := M2) rfl ?_
        refine yR.if2 .le _ _ _ _ rfl (fun q4 => ?_) (fun q4 => ?_)
        · refine yR.adv 3 (pc' := 78) (lv' := [(2, .int (nI (ofold [] (zpsM (nI dom) (iI q) e.1.1 e.1.2)).length)), (0, .ref 93), (1, .int (nI p))]) (st' := [.int (nI p), .ref 96]) (M' := M2) rfl ?_
          refine yR.iald p _ _ _ rfl rfl (by decide) (rfl) (by omega) ?_
          rw [w2]
          refine yR.ret _ rfl rfl rfl ?_
          exact ⟨by rw [hv3.2.1], by rw [← g, zup_i, if_pos ⟨rfl, rfl⟩, t1, hv3.2.2], by rw [← g]; exact E1.up (by simp)⟩
        · rw [q3] at q4; cases q4
      · have q3' : ¬ ((ofold [] (zpsM (nI dom) (iI q) e.1.1 e.1.2)).length : Int) ≤ 1 := zcF q3 (nI_toInt (by omega)) rfl
        have hv3 := hv2.resolve_left (fun z => by have := z.1; omega)
        refine yR.adv 2 (pc' := 49) (lv' := [(2, .int (nI (ofold [] (zpsM (nI dom) (iI q) e.1.1 e.1.2)).length)), (0, .ref 93), (1, .int (nI p))]) (st' := [.int 2, .ref 93]) (M' := M1) rfl ?_
        refine yR.callK (M1 := zup M1 93 1 (31 * M1.1 93 1 + 2)) _ rfl rfl rfl rfl rfl (r_begins M1 2) ?_
        show yR 158 52 [(2, .int (nI (ofold [] (zpsM (nI dom) (iI q) e.1.1 e.1.2)).length)), (0, .ref 93), (1, .int (nI p))] [] (zup M1 93 1 (31 * M1.1 93 1 + 2)) _
        generalize g : zup M1 93 1 (31 * M1.1 93 1 + 2) = M2
        have E2 : zKp [97, 98] [(93, 1), (93, 13)] M M2 := by rw [← g]; exact E1.up (by simp)
        have t2 : M2.1 93 1 = 31 * M.1 93 1 + 2 := by rw [← g, zup_i, if_pos ⟨rfl, rfl⟩, t1]
        have w2 : M2.1 96 p = e.2 := by rw [← g, zup_i, if_neg (by omega)]; exact w1
        refine yR.adv 2 (pc' := 54) (lv' := [(2, .int (nI (ofold [] (zpsM (nI dom) (iI q) e.1.1 e.1.2)).length)), (0, .ref 93), (1, .int (nI p))]) (st' := [.int 1, .ref 93]) (M' := M2) rfl ?_
        refine yR.callK (M1 := zup M2 93 1 (31 * M2.1 93 1 + 1)) _ rfl rfl rfl rfl rfl (r_begins M2 1) ?_
        show yR 158 57 [(2, .int (nI (ofold [] (zpsM (nI dom) (iI q) e.1.1 e.1.2)).length)), (0, .ref 93), (1, .int (nI p))] [] (zup M2 93 1 (31 * M2.1 93 1 + 1)) _
        generalize g' : zup M2 93 1 (31 * M2.1 93 1 + 1) = M3
        have w3 : M3.1 96 p = e.2 := by rw [← g', zup_i, if_neg (by omega)]; exact w2
        refine yR.adv 2 (pc' := 59) (lv' := [(2, .int (nI (ofold [] (zpsM (nI dom) (iI q) e.1.1 e.1.2)).length)), (0, .ref 93), (1, .int (nI p))]) (st' := [.int 1, .int (nI (ofold [] (zpsM (nI dom) (iI q) e.1.1 e.1.2)).length)]) (M' := M3) rfl ?_
        refine yR.if2 .le _ _ _ _ rfl (fun q4 => ?_) (fun q4 => ?_)
        · rw [q3] at q4; cases q4
        · refine yR.adv 3 (pc' := 67) (lv' := [(2, .int (nI (ofold [] (zpsM (nI dom) (iI q) e.1.1 e.1.2)).length)), (0, .ref 93), (1, .int (nI p))]) (st' := [.int (nI p), .ref 96]) (M' := M3) rfl ?_
          refine yR.iald p _ _ _ rfl rfl (by decide) (rfl) (by omega) ?_
          rw [w3]
          refine yR.adv 3 (pc' := 79) (lv' := [(2, .int (nI (ofold [] (zpsM (nI dom) (iI q) e.1.1 e.1.2)).length)), (0, .ref 93), (1, .int (nI p))]) (st' := [.int (e.2 + (nI (ofold [] (zpsM (nI dom) (iI q) e.1.1 e.1.2)).length))]) (M' := M3) rfl ?_
          refine yR.ret _ rfl rfl rfl ?_
          exact ⟨by rw [hv3.2.1], by rw [← g', zup_i, if_pos ⟨rfl, rfl⟩, t2, hv3.2.2], by rw [← g']; exact E2.up (by simp)⟩
    · have z1 := zne1 hw q2
      have hv2 := hv.resolve_right (fun z => z1 z.1)
      refine yR.adv 2 (pc' := 20) (lv' := [(0, .ref 93), (1, .int (nI p))]) (st' := [.int 3, .ref 93]) (M' := M) rfl ?_
      refine yR.callK (M1 := zup M 93 1 (31 * M.1 93 1 + 3)) _ rfl rfl rfl rfl rfl (r_begins M 3) ?_
      show yR 158 23 [(0, .ref 93), (1, .int (nI p))] [] (zup M 93 1 (31 * M.1 93 1 + 3)) _
      generalize g : zup M 93 1 (31 * M.1 93 1 + 3) = M2
      have E2 : zKp [97, 98] [(93, 1), (93, 13)] M M2 := by rw [← g]; exact (zKp.refl _ _ M).up (by simp)
      have t2 : M2.1 93 1 = 31 * M.1 93 1 + 3 := by rw [← g, zup_i, if_pos ⟨rfl, rfl⟩]
      have w2 : M2.1 96 p = e.2 := by rw [← g, zup_i, if_neg (by omega)]; exact g3
      refine yR.adv 2 (pc' := 25) (lv' := [(0, .ref 93), (1, .int (nI p))]) (st' := [.int 1, .ref 93]) (M' := M2) rfl ?_
      refine yR.callK (M1 := zup M2 93 1 (31 * M2.1 93 1 + 1)) _ rfl rfl rfl rfl rfl (r_begins M2 1) ?_
      show yR 158 28 [(0, .ref 93), (1, .int (nI p))] [] (zup M2 93 1 (31 * M2.1 93 1 + 1)) _
      generalize g' : zup M2 93 1 (31 * M2.1 93 1 + 1) = M3
      have w3 : M3.1 96 p = e.2 := by rw [← g', zup_i, if_neg (by omega)]; exact w2
      refine yR.adv 3 (pc' := 33) (lv' := [(0, .ref 93), (1, .int (nI p))]) (st' := [.int (nI p), .ref 96]) (M' := M3) rfl ?_
      refine yR.iald p _ _ _ rfl rfl (by decide) (rfl) (by omega) ?_
      rw [w3]
      refine yR.adv 1 (pc' := 35) (lv' := [(0, .ref 93), (1, .int (nI p))]) (st' := [.int (-e.2)]) (M' := M3) rfl ?_
      refine yR.ret _ rfl rfl rfl ?_
      exact ⟨by rw [hv2.2.1], by rw [← g', zup_i, if_pos ⟨rfl, rfl⟩, t2, hv2.2.2], by rw [← g']; exact E2.up (by simp)⟩
  · exact absurd q1 (by decide)
def zcountV (dom : Nat) (q : Int) (e : zPt × Int32) (p : Nat) (T v T' : Int32) : Prop := (zdom dom q e.1.1.toInt e.1.2.toInt ∧ v = nI p ∧ T' = 31 * T + 4) ∨ (¬ zdom dom q e.1.1.toInt e.1.2.toInt ∧ v = 77 ∧ T' = 31 * T + 5)
theorem m_count (M : zMm) (dom : Nat) (q W : Int) (L : zPl) (h : zRm dom q W M L) (p : Nat) (e : zPt × Int32) (hp : L[p]? = some e) (v T' : Int32) (hv : zcountV dom q e p (M.1 0 13) v T') : yOk 62 0 [(0, .ref 0), (1, .int (nI p))] [] M (some (.int v)) (zup M 0 13 T') := by
  obtain ⟨hU, hk, hd, hq, hW, hdom, bq, bW⟩ := id h
  have hL24 := hU.2.1
  have hpl := (List.getElem?_eq_some_iff.mp hp).1
  obtain ⟨g1, g2, g3⟩ := hU.2.2 p e hp
  obtain ⟨k1, k2, k3⟩ := hk e (List.mem_of_getElem? hp)
  have tq : (iI q).toInt = q := iI_toInt (by omega)
  have tp : (nI p).toInt = p := nI_toInt (by omega)
  obtain ⟨w, hw⟩ := zem (zdom dom q e.1.1.toInt e.1.2.toInt)
  refine yR.ok ?_
  refine yR.adv 3 (pc' := 5) (lv' := [(0, .ref 0), (1, .int (nI p))]) (st' := [.int (nI p), .ref 1]) (M' := M) rfl ?_
  refine yR.callK (M1 := M) _ rfl rfl rfl rfl rfl (m_has M L.length hU.1 hU.2.1 (nI p) 1 (Or.inl ⟨by rw [tp]; omega, rfl⟩)) ?_
  show yR 62 8 [(0, .ref 0), (1, .int (nI p))] [.int 1] M _
  refine yR.if1 .ne _ _ _ _ rfl (fun q1 => ?_) (fun q1 => ?_)
  · refine yR.adv 3 (pc' := 18) (lv' := [(0, .ref 0), (1, .int (nI p))]) (st' := [.int (nI p), .ref 1]) (M' := M) rfl ?_
    refine yR.callK (M1 := M) _ rfl rfl rfl rfl rfl (m_isWithin M dom q W L h p e hp w hw) ?_
    show yR 62 21 [(0, .ref 0), (1, .int (nI p))] [.int w] M _
    refine yR.if1 .eq _ _ _ _ rfl (fun q2 => ?_) (fun q2 => ?_)
    · have hv2 := hv.resolve_left (fun z => zeq0 hw q2 z.1)
      have ast : yOk 95 0 [(0, .ref 0)] [] M (some (.int 77)) (zup M 0 13 (31 * M.1 0 13 + 5)) := by
        refine yR.ok ?_
        refine yR.adv 2 (pc' := 2) (lv' := [(0, .ref 0)]) (st' := [.int 5, .ref 0]) (M' := M) rfl ?_
        refine yR.callK (M1 := zup M 0 13 (31 * M.1 0 13 + 5)) _ rfl rfl rfl rfl rfl (m_leave M 5) ?_
        show yR 95 5 [(0, .ref 0)] [] (zup M 0 13 (31 * M.1 0 13 + 5)) _
        refine yR.adv 1 (pc' := 7) (lv' := [(0, .ref 0)]) (st' := [.int 77]) (M' := zup M 0 13 (31 * M.1 0 13 + 5)) rfl ?_
        refine yR.ret _ rfl rfl rfl ?_
        exact ⟨rfl, rfl⟩
      refine yR.adv 1 (pc' := 33) (lv' := [(0, .ref 0), (1, .int (nI p))]) (st' := [.ref 0]) (M' := M) rfl ?_
      refine yR.callK (M1 := zup M 0 13 (31 * M.1 0 13 + 5)) _ rfl rfl rfl rfl rfl (ast) ?_
      show yR 62 36 [(0, .ref 0), (1, .int (nI p))] [.int 77] (zup M 0 13 (31 * M.1 0 13 + 5)) _
      refine yR.ret _ rfl rfl rfl ?_
      exact ⟨by rw [hv2.2.1], by rw [hv2.2.2]⟩
    · have hv2 := hv.resolve_right (fun z => z.1 (zeq1 hw q2))
      have lent : yOk 94 0 [(0, .ref 0), (1, .int (nI p))] [] M (some (.int (nI p))) (zup M 0 13 (31 * M.1 0 13 + 4)) := by
        refine yR.ok ?_
        refine yR.adv 2 (pc' := 2) (lv' := [(0, .ref 0), (1, .int (nI p))]) (st' := [.int 4, .ref 0]) (M' := M) rfl ?_
        refine yR.callK (M1 := zup M 0 13 (31 * M.1 0 13 + 4)) _ rfl rfl rfl rfl rfl (m_leave M 4) ?_
        show yR 94 5 [(0, .ref 0), (1, .int (nI p))] [] (zup M 0 13 (31 * M.1 0 13 + 4)) _
        refine yR.adv 1 (pc' := 6) (lv' := [(0, .ref 0), (1, .int (nI p))]) (st' := [.int (nI p)]) (M' := zup M 0 13 (31 * M.1 0 13 + 4)) rfl ?_
        refine yR.ret _ rfl rfl rfl ?_
        exact ⟨rfl, rfl⟩
      refine yR.adv 2 (pc' := 26) (lv' := [(0, .ref 0), (1, .int (nI p))]) (st' := [.int (nI p), .ref 0]) (M' := M) rfl ?_
      refine yR.callK (M1 := zup M 0 13 (31 * M.1 0 13 + 4)) _ rfl rfl rfl rfl rfl (lent) ?_
      show yR 62 29 [(0, .ref 0), (1, .int (nI p))] [.int (nI p)] (zup M 0 13 (31 * M.1 0 13 + 4)) _
      refine yR.adv 1 (pc' := 36) (lv' := [(0, .ref 0), (1, .int (nI p))]) (st' := [.int (nI p)]) (M' := zup M 0 13 (31 * M.1 0 13 + 4)) rfl ?_
      refine yR.ret _ rfl rfl rfl ?_
      exact ⟨by rw [hv2.2.1], by rw [hv2.2.2]⟩
  · exact absurd q1 (by decide)
theorem r_count (M : zMm) (dom : Nat) (q W : Int) (L : zPl) (h : zRr dom q W M L) (p : Nat) (e : zPt × Int32) (hp : L[p]? = some e) (v T' : Int32) (hv : zcountV dom q e p (M.1 93 1) v T') : yOk 159 0 [(0, .ref 93), (1, .int (nI p))] [] M (some (.int v)) (zup M 93 1 T') := by
  obtain ⟨hU, hk, hd, hq, hW, hdom, bq, bW⟩ := id h
  have hL24 := hU.2.1
  have hpl := (List.getElem?_eq_some_iff.mp hp).1
  obtain ⟨g1, g2, g3⟩ := hU.2.2 p e hp
  obtain ⟨k1, k2, k3⟩ := hk e (List.mem_of_getElem? hp)
  have tq : (iI q).toInt = q := iI_toInt (by omega)
  have tp : (nI p).toInt = p := nI_toInt (by omega)
  obtain ⟨w, hw⟩ := zem (zdom dom q e.1.1.toInt e.1.2.toInt)
  refine yR.ok ?_
  refine yR.adv 2 (pc' := 2) (lv' := [(0, .ref 93), (1, .int (nI p))]) (st' := [.int (nI p), .ref 93]) (M' := M) rfl ?_
  refine yR.callK (M1 := M) _ rfl rfl rfl rfl rfl (r_isPlace M L.length hU.1 hU.2.1 (nI p) 1 (Or.inl ⟨by rw [tp]; omega, rfl⟩)) ?_
  show yR 159 5 [(0, .ref 93), (1, .int (nI p))] [.int 1] M _
  refine yR.if1 .ne _ _ _ _ rfl (fun q1 => ?_) (fun q1 => ?_)
  · refine yR.adv 2 (pc' := 12) (lv' := [(0, .ref 93), (1, .int (nI p))]) (st' := [.int (nI p), .ref 93]) (M' := M) rfl ?_
    refine yR.callK (M1 := M) _ rfl rfl rfl rfl rfl (r_isInside M dom q W L h p e hp w hw) ?_
    show yR 159 15 [(0, .ref 93), (1, .int (nI p))] [.int w] M _
    refine yR.adv 3 (pc' := 18) (lv' := [(2, .int w), (0, .ref 93), (1, .int (nI p))]) (st' := [.int w, .ref 93]) (M' := M) rfl ?_
    refine yR.if1 .eq _ _ _ _ rfl (fun q2 => ?_) (fun q2 => ?_)
    · have hv2 := hv.resolve_left (fun z => zeq0 hw q2 z.1)
      refine yR.adv 1 (pc' := 26) (lv' := [(2, .int w), (0, .ref 93), (1, .int (nI p))]) (st' := [.int 5, .ref 93]) (M' := M) rfl ?_
      refine yR.callK (M1 := zup M 93 1 (31 * M.1 93 1 + 5)) _ rfl rfl rfl rfl rfl (r_begins M 5) ?_
      show yR 159 29 [(2, .int w), (0, .ref 93), (1, .int (nI p))] [] (zup M 93 1 (31 * M.1 93 1 + 5)) _
      refine yR.adv 1 (pc' := 30) (lv' := [(2, .int w), (0, .ref 93), (1, .int (nI p))]) (st' := [.int w]) (M' := zup M 93 1 (31 * M.1 93 1 + 5)) rfl ?_
      refine yR.if1 .eq _ _ _ _ rfl (fun q3 => ?_) (fun q3 => ?_)
      · refine yR.adv 1 (pc' := 39) (lv' := [(2, .int w), (0, .ref 93), (1, .int (nI p))]) (st' := [.int 77]) (M' := zup M 93 1 (31 * M.1 93 1 + 5)) rfl ?_
        refine yR.ret _ rfl rfl rfl ?_
        exact ⟨by rw [hv2.2.1], by rw [hv2.2.2]⟩
      · rw [q2] at q3; cases q3
    · have hv2 := hv.resolve_right (fun z => z.1 (zeq1 hw q2))
      refine yR.adv 2 (pc' := 26) (lv' := [(2, .int w), (0, .ref 93), (1, .int (nI p))]) (st' := [.int 4, .ref 93]) (M' := M) rfl ?_
      refine yR.callK (M1 := zup M 93 1 (31 * M.1 93 1 + 4)) _ rfl rfl rfl rfl rfl (r_begins M 4) ?_
      show yR 159 29 [(2, .int w), (0, .ref 93), (1, .int (nI p))] [] (zup M 93 1 (31 * M.1 93 1 + 4)) _
      refine yR.adv 1 (pc' := 30) (lv' := [(2, .int w), (0, .ref 93), (1, .int (nI p))]) (st' := [.int w]) (M' := zup M 93 1 (31 * M.1 93 1 + 4)) rfl ?_
      refine yR.if1 .eq _ _ _ _ rfl (fun q3 => ?_) (fun q3 => ?_)
      · rw [q2] at q3; cases q3
      · refine yR.adv 2 (pc' := 39) (lv' := [(2, .int w), (0, .ref 93), (1, .int (nI p))]) (st' := [.int (nI p)]) (M' := zup M 93 1 (31 * M.1 93 1 + 4)) rfl ?_
        refine yR.ret _ rfl rfl rfl ?_
        exact ⟨by rw [hv2.2.1], by rw [hv2.2.2]⟩
  · exact absurd q1 (by decide)
