/-! ===== as, is, of both ===== -/
def zasV (kd x v : Int32) : Prop := ((x.toInt < 0 ∨ 3 < x.toInt) ∧ v = -2) ∨ (¬ (x.toInt < 0 ∨ 3 < x.toInt) ∧ (x = kd ∨ (x = 3 ∧ kd ≠ 2)) ∧ v = 1) ∨ (¬ (x.toInt < 0 ∨ 3 < x.toInt) ∧ ¬ (x = kd ∨ (x = 3 ∧ kd ≠ 2)) ∧ v = -12)
theorem zasV_ex (kd x : Int32) : ∃ v, zasV kd x v := by
  unfold zasV
  by_cases h : x.toInt < 0 ∨ 3 < x.toInt
  · exact ⟨-2, Or.inl ⟨h, rfl⟩⟩
  · by_cases h2 : x = kd ∨ (x = 3 ∧ kd ≠ 2)
    · exact ⟨1, Or.inr (Or.inl ⟨h, h2, rfl⟩)⟩
    · exact ⟨-12, Or.inr (Or.inr ⟨h, h2, rfl⟩)⟩
theorem zkind_3 {dom : Nat} {q : Int} {e : zPt × Int32} {kd : Int32} (h : zkind dom q e kd) : kd = 0 ∨ kd = 1 ∨ kd = 2 := by
  rcases h with ⟨_, h⟩ | ⟨_, ⟨_, h⟩ | ⟨_, h⟩⟩
  · exact Or.inr (Or.inr h)
  · exact Or.inl h
  · exact Or.inr (Or.inl h)
theorem m_as (M : zMm) (dom : Nat) (q W : Int) (L : zPl) (h : zRm dom q W M L) (p : Nat) (e : zPt × Int32) (hp : L[p]? = some e) (kd : Int32) (hkd : zkind dom q e kd) (x v : Int32) (hv : zasV kd x v) : yR 63 0 [(0, .ref 0), (1, .int (nI p)), (2, .int x)] [] M (fun r N => r = some (.int v) ∧ zKp [9, 10, 11] [(0, 14)] M N) := by
  obtain ⟨hU, hk, hd, hq, hW, hdom, bq, bW⟩ := id h
  have hL24 := hU.2.1
  have hpl := (List.getElem?_eq_some_iff.mp hp).1
  obtain ⟨g1, g2, g3⟩ := hU.2.2 p e hp
  obtain ⟨k1, k2, k3⟩ := hk e (List.mem_of_getElem? hp)
  have tq : (iI q).toInt = q := iI_toInt (by omega)
  have tp : (nI p).toInt = p := nI_toInt (by omega)
  obtain ⟨v1, h1⟩ := zem (0 ≤ x.toInt ∧ x.toInt ≤ 3)
  have k3 := zkind_3 hkd
  refine yR.adv 3 (pc' := 5) (lv' := [(0, .ref 0), (1, .int (nI p)), (2, .int x)]) (st' := []) (M' := zup M 0 14 0) rfl ?_
  generalize g0 : zup M 0 14 0 = M0
  have E0 : zKp [9, 10, 11] [(0, 14)] M M0 := by rw [← g0]; exact (zKp.refl _ _ M).up (by simp)
  have R0 : zRm dom q W M0 L := h.keep (fun a i z1 z2 => (E0 a i (by simp <;> omega) (by simp <;> omega)).1)
  refine yR.adv 3 (pc' := 10) (lv' := [(0, .ref 0), (1, .int (nI p)), (2, .int x)]) (st' := [.int (nI p), .ref 1]) (M' := M0) rfl ?_
  refine yR.callK (M1 := M0) _ rfl rfl rfl rfl rfl (m_has M0 L.length R0.1.1 hU.2.1 (nI p) 1 (Or.inl ⟨by rw [tp]; omega, rfl⟩)) ?_
  show yR 63 13 [(0, .ref 0), (1, .int (nI p)), (2, .int x)] [.int 1] M0 _
  refine yR.if1 .ne _ _ _ _ rfl (fun q1 => ?_) (fun q1 => ?_)
  · refine yR.adv 3 (pc' := 21) (lv' := [(0, .ref 0), (1, .int (nI p)), (2, .int x)]) (st' := [.int 3, .int 0, .int x]) (M' := M0) rfl ?_
    refine yR.callK (M1 := M0) _ rfl rfl rfl rfl rfl (m_fromV M0 x 0 3 0 3 rfl rfl v1 h1) ?_
    show yR 63 24 [(0, .ref 0), (1, .int (nI p)), (2, .int x)] [.int v1] M0 _
    refine yR.if1 .ne _ _ _ _ rfl (fun q2 => ?_) (fun q2 => ?_)
    · have z2 := zne0 h1 q2
      have hv2 := hv.resolve_left (fun z => by have := z.1; omega)
      refine yR.adv 2 (pc' := 32) (lv' := [(0, .ref 0), (1, .int (nI p)), (2, .int x)]) (st' := [.int (nI p), .ref 0]) (M' := M0) rfl ?_
      refine yR.call _ rfl rfl rfl rfl rfl (m_kindOf M0 dom q W L R0 p e hp kd hkd) (fun r1 M1 hq => ?_)
      obtain ⟨rfl, e1⟩ := hq
      show yR 63 35 [(0, .ref 0), (1, .int (nI p)), (2, .int x)] [.int kd] M1 _
      have E1 : zKp [9, 10, 11] [(0, 14)] M M1 := E0.trans (e1.sub (by decide))
      have fin : ∀ f : Int32, ((f = 1 ∧ (x = kd ∨ (x = 3 ∧ kd ≠ 2))) ∨ (f = 0 ∧ ¬ (x = kd ∨ (x = 3 ∧ kd ≠ 2)))) → yR 63 64 [(0, .ref 0)] [.int f] M1 (fun r N => r = some (.int v) ∧ zKp [9, 10, 11] [(0, 14)] M N) := by
        intro f hf
        refine yR.adv 2 (pc' := 68) (lv' := [(4, .int f), (0, .ref 0)]) (st' := [.int f]) (M' := M1) rfl ?_
        refine yR.if1 .eq _ _ _ _ rfl (fun q5 => ?_) (fun q5 => ?_)
        · have q5' := zeq_t q5
          have hn := hf.elim (fun z => by rw [z.1] at q5'; exact absurd q5' (by decide)) (fun z => z.2)
          have hv0 : v = -12 := hv2.elim (fun z => absurd z.2.1 hn) (fun z => z.2.2)
          refine yR.adv 2 (pc' := 77) (lv' := [(4, .int f), (0, .ref 0)]) (st' := [.int 2, .ref 0]) (M' := M1) rfl ?_
          refine yR.callK (M1 := zup M1 0 14 2) _ rfl rfl rfl rfl rfl (m_failed M1 2) ?_
          show yR 63 80 [(4, .int f), (0, .ref 0)] [.int (-12)] (zup M1 0 14 2) _
          skip
          refine yR.ret _ rfl rfl rfl ?_
          exact ⟨by rw [hv0], E1.up (by simp)⟩
        · have q5' := zeq_f q5
          have hy := hf.elim (fun z => z.2) (fun z => absurd z.1 q5')
          have hv0 : v = 1 := hv2.elim (fun z => z.2.2) (fun z => absurd hy z.2.1)
          refine yR.adv 2 (pc' := 80) (lv' := [(4, .int f), (0, .ref 0)]) (st' := [.int 1]) (M' := M1) rfl ?_
          refine yR.ret _ rfl rfl rfl ?_
          exact ⟨by rw [hv0], E1⟩
      refine yR.adv 3 (pc' := 38) (lv' := [(3, .int kd), (0, .ref 0), (1, .int (nI p)), (2, .int x)]) (st' := [.int 3, .int x]) (M' := M1) rfl ?_
      refine yR.if2 .ne _ _ _ _ rfl (fun q3 => ?_) (fun q3 => ?_)
      · have q3' := zne_t q3
        refine yR.adv 2 (pc' := 56) (lv' := [(3, .int kd), (0, .ref 0), (1, .int (nI p)), (2, .int x)]) (st' := [.int x, .int kd]) (M' := M1) rfl ?_
        refine yR.if2 .ne _ _ _ _ rfl (fun q4 => ?_) (fun q4 => ?_)
        · have q4' := zne_t q4
          refine yR.adv 1 (pc' := 64) (lv' := [(3, .int kd), (0, .ref 0), (1, .int (nI p)), (2, .int x)]) (st' := [.int 0]) (M' := M1) rfl ?_
          exact (fin 0 (Or.inr ⟨rfl, fun z => z.elim (fun y => q4' y.symm) (fun y => q3' y.1)⟩)).drop (by refine ⟨?_, ?_⟩ <;> simp [zget, zwf])
        · have q4' := zne_f q4
          refine yR.adv 2 (pc' := 64) (lv' := [(3, .int kd), (0, .ref 0), (1, .int (nI p)), (2, .int x)]) (st' := [.int 1]) (M' := M1) rfl ?_
          exact (fin 1 (Or.inl ⟨rfl, Or.inl q4'.symm⟩)).drop (by refine ⟨?_, ?_⟩ <;> simp [zget, zwf])
      · have q3' := zne_f q3
        refine yR.adv 2 (pc' := 43) (lv' := [(3, .int kd), (0, .ref 0), (1, .int (nI p)), (2, .int x)]) (st' := [.int 2, .int kd]) (M' := M1) rfl ?_
        refine yR.if2 .eq _ _ _ _ rfl (fun q4 => ?_) (fun q4 => ?_)
        · have q4' := zeq_t q4
          refine yR.adv 2 (pc' := 64) (lv' := [(3, .int kd), (0, .ref 0), (1, .int (nI p)), (2, .int x)]) (st' := [.int 0]) (M' := M1) rfl ?_
          exact (fin 0 (Or.inr ⟨rfl, fun z => z.elim (fun y => by rw [q3', q4'] at y; exact absurd y (by decide)) (fun y => y.2 q4')⟩)).drop (by refine ⟨?_, ?_⟩ <;> simp [zget, zwf])
        · have q4' := zeq_f q4
          refine yR.adv 2 (pc' := 64) (lv' := [(3, .int kd), (0, .ref 0), (1, .int (nI p)), (2, .int x)]) (st' := [.int 1]) (M' := M1) rfl ?_
          exact (fin 1 (Or.inl ⟨rfl, Or.inr ⟨q3', q4'⟩⟩)).drop (by refine ⟨?_, ?_⟩ <;> simp [zget, zwf])
    · have z2 := zne1 h1 q2
      have hv0 : v = -2 := hv.elim (fun z => z.2) (fun z => z.elim (fun y => absurd (by omega) y.1) (fun y => absurd (by omega) y.1))
      refine yR.adv 1 (pc' := 29) (lv' := [(0, .ref 0), (1, .int (nI p)), (2, .int x)]) (st' := [.int (-2)]) (M' := M0) rfl ?_
      refine yR.ret _ rfl rfl rfl ?_
      exact ⟨by rw [hv0], E0⟩
  · exact absurd q1 (by decide)
theorem r_as (M : zMm) (dom : Nat) (q W : Int) (L : zPl) (h : zRr dom q W M L) (p : Nat) (e : zPt × Int32) (hp : L[p]? = some e) (kd : Int32) (hkd : zkind dom q e kd) (x v : Int32) (hv : zasV kd x v) : yR 160 0 [(0, .ref 93), (1, .int (nI p)), (2, .int x)] [] M (fun r N => r = some (.int v) ∧ zKp [97, 98] [(93, 0), (93, 13)] M N) := by
  obtain ⟨hU, hk, hd, hq, hW, hdom, bq, bW⟩ := id h
  have hL24 := hU.2.1
  have hpl := (List.getElem?_eq_some_iff.mp hp).1
  obtain ⟨g1, g2, g3⟩ := hU.2.2 p e hp
  obtain ⟨k1, k2, k3⟩ := hk e (List.mem_of_getElem? hp)
  have tq : (iI q).toInt = q := iI_toInt (by omega)
  have tp : (nI p).toInt = p := nI_toInt (by omega)
  have hol := zolen dom q e.1.1 e.1.2
  have tx : x.toInt64.toInt = x.toInt := Int32.toInt_toInt64 x
  obtain ⟨v1, h1⟩ := zem (0 ≤ x.toInt64.toInt ∧ x.toInt64.toInt ≤ 3)
  obtain ⟨w, hw⟩ := zem (zdom dom q e.1.1.toInt e.1.2.toInt)
  have k3 := zkind_3 hkd
  refine yR.adv 3 (pc' := 5) (lv' := [(0, .ref 93), (1, .int (nI p)), (2, .int x)]) (st' := []) (M' := zup M 93 0 0) rfl ?_
  generalize g0 : zup M 93 0 0 = M0
  have E0 : zKp [97, 98] [(93, 0), (93, 13)] M M0 := by rw [← g0]; exact (zKp.refl _ _ M).up (by simp)
  have R0 : zRr dom q W M0 L := h.keep (fun i z1 z2 => (E0 93 i (by decide) (by simp <;> omega)).1) (fun a i z1 z2 => (E0 a i (by simp <;> omega) (by simp <;> omega)).1)
  refine yR.adv 2 (pc' := 7) (lv' := [(0, .ref 93), (1, .int (nI p)), (2, .int x)]) (st' := [.int (nI p), .ref 93]) (M' := M0) rfl ?_
  refine yR.callK (M1 := M0) _ rfl rfl rfl rfl rfl (r_isPlace M0 L.length R0.1.1 hU.2.1 (nI p) 1 (Or.inl ⟨by rw [tp]; omega, rfl⟩)) ?_
  show yR 160 10 [(0, .ref 93), (1, .int (nI p)), (2, .int x)] [.int 1] M0 _
  refine yR.if1 .ne _ _ _ _ rfl (fun q1 => ?_) (fun q1 => ?_)
  · refine yR.adv 4 (pc' := 21) (lv' := [(0, .ref 93), (1, .int (nI p)), (2, .int x)]) (st' := [.long 3, .long 0, .long x.toInt64]) (M' := M0) rfl ?_
    refine yR.callK (M1 := M0) _ rfl rfl rfl rfl rfl (r_withinV M0 x.toInt64 0 3 0 3 rfl rfl v1 h1) ?_
    show yR 160 24 [(0, .ref 93), (1, .int (nI p)), (2, .int x)] [.int v1] M0 _
    refine yR.if1 .ne _ _ _ _ rfl (fun q2 => ?_) (fun q2 => ?_)
    · have z2 := zne0 h1 q2
      rw [tx] at z2
      have hv2 := hv.resolve_left (fun z => by have := z.1; omega)
      have fin : ∀ M1 : zMm, zKp [97, 98] [(93, 0), (93, 13)] M M1 → yR 160 56 [(0, .ref 93), (2, .int x)] [.int kd] M1 (fun r N => r = some (.int v) ∧ zKp [97, 98] [(93, 0), (93, 13)] M N) := by
        intro M1 E1
        have no : ¬ (x = kd ∨ (x = 3 ∧ kd ≠ 2)) → yR 160 76 [(0, .ref 93)] [] M1 (fun r N => r = some (.int v) ∧ zKp [97, 98] [(93, 0), (93, 13)] M N) := by
          intro hn
          have hv0 : v = -12 := hv2.elim (fun z => absurd z.2.1 hn) (fun z => z.2.2)
          refine yR.adv 2 (pc' := 78) (lv' := [(0, .ref 93)]) (st' := [.int 2, .ref 93]) (M' := M1) rfl ?_
          refine yR.callK (M1 := zup M1 93 0 2) _ rfl rfl rfl rfl rfl (r_fails M1 2) ?_
          show yR 160 81 [(0, .ref 93)] [.int (-12)] (zup M1 93 0 2) _
          refine yR.ret _ rfl rfl rfl ?_
          exact ⟨by rw [hv0], E1.up (by simp)⟩
        have yes : (x = kd ∨ (x = 3 ∧ kd ≠ 2)) → yR 160 72 [(0, .ref 93)] [] M1 (fun r N => r = some (.int v) ∧ zKp [97, 98] [(93, 0), (93, 13)] M N) := by
          intro hy
          have hv0 : v = 1 := hv2.elim (fun z => z.2.2) (fun z => absurd hy z.2.1)
          refine yR.adv 2 (pc' := 81) (lv' := [(0, .ref 93)]) (st' := [.int 1]) (M' := M1) rfl ?_
          refine yR.ret _ rfl rfl rfl ?_
          exact ⟨by rw [hv0], E1⟩
        refine yR.adv 3 (pc' := 59) (lv' := [(3, .int kd), (0, .ref 93), (2, .int x)]) (st' := [.int kd, .int x]) (M' := M1) rfl ?_
        refine yR.if2 .eq _ _ _ _ rfl (fun q5 => ?_) (fun q5 => ?_)
        · exact (yes (Or.inl (zeq_t q5))).drop (by refine ⟨?_, ?_⟩ <;> simp [zget, zwf])
        · have q5' := zeq_f q5
          refine yR.adv 2 (pc' := 64) (lv' := [(3, .int kd), (0, .ref 93), (2, .int x)]) (st' := [.int 3, .int x]) (M' := M1) rfl ?_
          refine yR.if2 .ne _ _ _ _ rfl (fun q6 => ?_) (fun q6 => ?_)
          · exact (no (fun z => z.elim q5' (fun y => zne_t q6 y.1))).drop (by refine ⟨?_, ?_⟩ <;> simp [zget, zwf])
          · have q6' := zne_f q6
            refine yR.adv 2 (pc' := 69) (lv' := [(3, .int kd), (0, .ref 93), (2, .int x)]) (st' := [.int 2, .int kd]) (M' := M1) rfl ?_
            refine yR.if2 .eq _ _ _ _ rfl (fun q7 => ?_) (fun q7 => ?_)
            · exact (no (fun z => z.elim q5' (fun y => y.2 (zeq_t q7)))).drop (by refine ⟨?_, ?_⟩ <;> simp [zget, zwf])
            · exact (yes (Or.inr ⟨q6', zeq_f q7⟩)).drop (by refine ⟨?_, ?_⟩ <;> simp [zget, zwf])
      refine yR.adv 2 (pc' := 32) (lv' := [(0, .ref 93), (1, .int (nI p)), (2, .int x)]) (st' := [.int (nI p), .ref 93]) (M' := M0) rfl ?_
      refine yR.callK (M1 := M0) _ rfl rfl rfl rfl rfl (r_isInside M0 dom q W L R0 p e hp w hw) ?_
      show yR 160 35 [(0, .ref 93), (1, .int (nI p)), (2, .int x)] [.int w] M0 _
      refine yR.if1 .ne _ _ _ _ rfl (fun q3 => ?_) (fun q3 => ?_)
      · have z3 := zne0 hw q3
        have hk2 := (hkd.resolve_left (fun z => z.1 z3)).2
        refine yR.adv 2 (pc' := 44) (lv' := [(0, .ref 93), (1, .int (nI p)), (2, .int x)]) (st' := [.int (nI p), .ref 93]) (M' := M0) rfl ?_
        refine yR.call _ rfl rfl rfl rfl rfl (r_sizeOrb M0 dom q W L R0 p e hp) (fun r1 M1 hq => ?_)
        obtain ⟨rfl, e1⟩ := hq
        show yR 160 47 [(0, .ref 93), (1, .int (nI p)), (2, .int x)] [.int (nI (ofold [] (zpsM (nI dom) (iI q) e.1.1 e.1.2)).length)] M1 _
        have E1 : zKp [97, 98] [(93, 0), (93, 13)] M M1 := E0.trans (e1.sub (by decide))
        refine yR.adv 1 (pc' := 48) (lv' := [(0, .ref 93), (1, .int (nI p)), (2, .int x)]) (st' := [.int 1, .int (nI (ofold [] (zpsM (nI dom) (iI q) e.1.1 e.1.2)).length)]) (M' := M1) rfl ?_
        refine yR.if2 .le _ _ _ _ rfl (fun q4 => ?_) (fun q4 => ?_)
        · have q4' : ((ofold [] (zpsM (nI dom) (iI q) e.1.1 e.1.2)).length : Int) ≤ 1 := zcT q4 (nI_toInt (by omega)) rfl
          have hk0 : kd = 0 := hk2.elim (fun z => z.2) (fun z => absurd (by omega) z.1)
          refine yR.adv 1 (pc' := 56) (lv' := [(0, .ref 93), (1, .int (nI p)), (2, .int x)]) (st' := [.int 0]) (M' := M1) rfl ?_
          rw [← hk0]
          exact (fin M1 E1).drop (by refine ⟨?_, ?_⟩ <;> simp [zget, zwf])
        · have q4' : ¬ ((ofold [] (zpsM (nI dom) (iI q) e.1.1 e.1.2)).length : Int) ≤ 1 := zcF q4 (nI_toInt (by omega)) rfl
          have hk0 : kd = 1 := hk2.elim (fun z => by have := z.1; omega) (fun z => z.2)
          refine yR.adv 2 (pc' := 56) (lv' := [(0, .ref 93), (1, .int (nI p)), (2, .int x)]) (st' := [.int 1]) (M' := M1) rfl ?_
          rw [← hk0]
          exact (fin M1 E1).drop (by refine ⟨?_, ?_⟩ <;> simp [zget, zwf])
      · have z3 := zne1 hw q3
        have hk0 : kd = 2 := hkd.elim (fun z => z.2) (fun z => absurd z.1 z3)
        refine yR.adv 2 (pc' := 56) (lv' := [(0, .ref 93), (1, .int (nI p)), (2, .int x)]) (st' := [.int 2]) (M' := M0) rfl ?_
        rw [← hk0]
        exact (fin M0 E0).drop (by refine ⟨?_, ?_⟩ <;> simp [zget, zwf])
    · have z2 := zne1 h1 q2
      rw [tx] at z2
      have hv0 : v = -2 := hv.elim (fun z => z.2) (fun z => z.elim (fun y => absurd (by omega) y.1) (fun y => absurd (by omega) y.1))
      refine yR.adv 1 (pc' := 29) (lv' := [(0, .ref 93), (1, .int (nI p)), (2, .int x)]) (st' := [.int (-2)]) (M' := M0) rfl ?_
      refine yR.ret _ rfl rfl rfl ?_
      exact ⟨by rw [hv0], E0⟩
  · exact absurd q1 (by decide)
