/-! ===== drop, of both ===== -/
theorem zRu.erase {c f ax ay aw : Nat} {M N : zMm} {L : zPl} (h : zRu c f ax ay aw M L) {p : Nat} (hp : p < L.length) (hs : N.1 c f = nI (L.length - 1)) (hN : ∀ j, j < L.length - 1 → (N.1 ax j = if p ≤ j then M.1 ax (j + 1) else M.1 ax j) ∧ (N.1 ay j = if p ≤ j then M.1 ay (j + 1) else M.1 ay j) ∧ (N.1 aw j = if p ≤ j then M.1 aw (j + 1) else M.1 aw j)) : zRu c f ax ay aw N (L.eraseIdx p) := by
  have hl : (L.eraseIdx p).length = L.length - 1 := List.length_eraseIdx_of_lt hp
  refine ⟨by rw [hl]; exact hs, by rw [hl]; have := h.2.1; omega, fun j e hj => ?_⟩
  have hjl := (List.getElem?_eq_some_iff.mp hj).1
  rw [hl] at hjl
  obtain ⟨n1, n2, n3⟩ := hN j hjl
  rw [List.getElem?_eraseIdx] at hj
  rw [n1, n2, n3]
  by_cases c : p ≤ j
  · rw [if_neg (by omega)] at hj
    rw [if_pos c, if_pos c, if_pos c]
    exact h.2.2 (j + 1) e hj
  · rw [if_pos (by omega)] at hj
    rw [if_neg c, if_neg c, if_neg c]
    exact h.2.2 j e hj
theorem zLok.erase {L : zPl} (h : zLok L) (p : Nat) : zLok (L.eraseIdx p) := fun e he => h e (List.mem_of_mem_eraseIdx he)
theorem m_takeOut_loop {Q : Option Value → zMm → Prop} (M0 : zMm) (n : Nat) (hn : n ≤ 24) (p : Nat) (K : ∀ M', M'.1 1 3 = nI n → (∀ j, j < n - 1 → (M'.1 2 j = if p ≤ j then M0.1 2 (j + 1) else M0.1 2 j) ∧ (M'.1 3 j = if p ≤ j then M0.1 3 (j + 1) else M0.1 3 j) ∧ (M'.1 4 j = if p ≤ j then M0.1 4 (j + 1) else M0.1 4 j)) → zKp [2, 3, 4] [] M0 M' → yR 28 60 [(0, .ref 1)] [] M' Q) :
    ∀ (d i : Nat) (M : zMm), i + d = n → p + 1 ≤ i → M.1 1 3 = nI n → (∀ j, (M.1 2 j = if p ≤ j ∧ j + 1 < i then M0.1 2 (j + 1) else M0.1 2 j) ∧ (M.1 3 j = if p ≤ j ∧ j + 1 < i then M0.1 3 (j + 1) else M0.1 3 j) ∧ (M.1 4 j = if p ≤ j ∧ j + 1 < i then M0.1 4 (j + 1) else M0.1 4 j)) → zKp [2, 3, 4] [] M0 M → yR 28 4 [(0, .ref 1), (2, .int (nI i))] [] M Q := by
  intro d
  induction d using Nat.strongRecOn with
  | ind d ih =>
    intro i M h hpi hs hp hE
    refine yR.adv 3 (pc' := 9) (lv' := [(0, .ref 1), (2, .int (nI i))]) (st' := [.int (M.1 1 3), .int (nI i)]) (M' := M) rfl ?_
    rw [hs]
    refine yR.if2 .ge _ _ _ _ rfl (fun q1 => ?_) (fun q1 => ?_)
    · have q1' : (n : Int) ≤ i := zcT q1 (nI_toInt (by omega)) (nI_toInt (by omega))
      refine (K M hs (fun j hj => ?_) hE).drop (by refine ⟨?_, ?_⟩ <;> simp [zget, zwf])
      obtain ⟨x1, x2, x3⟩ := hp j
      have e1 : (p ≤ j ∧ j + 1 < i) ↔ p ≤ j := ⟨fun z => z.1, fun z => ⟨z, by omega⟩⟩
      rw [x1, x2, x3]
      simp only [e1, and_self]
    · have q1' : ¬ (n : Int) ≤ i := zcF q1 (nI_toInt (by omega)) (nI_toInt (by omega))
      obtain ⟨i', rfl⟩ : ∃ i', i = i' + 1 := ⟨i - 1, by omega⟩
      have hm1 : nI (i' + 1) - 1 = nI i' := zI_pred i'
      have f1 : M.1 2 (i' + 1) = M0.1 2 (i' + 1) := by rw [(hp (i' + 1)).1, if_neg (fun z => by omega)]
      have f2 : M.1 3 (i' + 1) = M0.1 3 (i' + 1) := by rw [(hp (i' + 1)).2.1, if_neg (fun z => by omega)]
      have f3 : M.1 4 (i' + 1) = M0.1 4 (i' + 1) := by rw [(hp (i' + 1)).2.2, if_neg (fun z => by omega)]
      refine yR.adv 8 (pc' := 24) (lv' := [(0, .ref 1), (2, .int (nI (i' + 1)))]) (st' := [.int (nI (i' + 1)), .ref 2, .int ((nI (i' + 1)) - 1), .ref 2]) (M' := M) rfl ?_
      rw [hm1]
      refine yR.iald (i' + 1) _ _ _ rfl rfl (by decide) (rfl) (by omega) ?_
      rw [f1]
      refine yR.iast (i') _ _ _ rfl rfl (by decide) (rfl) (by omega) ?_
      generalize g1 : zup M 2 (i') (M0.1 2 (i' + 1)) = M1
      have f2' : M1.1 3 (i' + 1) = M0.1 3 (i' + 1) := by rw [← g1, zup_i, if_neg (by omega)]; exact f2
      refine yR.adv 8 (pc' := 38) (lv' := [(0, .ref 1), (2, .int (nI (i' + 1)))]) (st' := [.int (nI (i' + 1)), .ref 3, .int ((nI (i' + 1)) - 1), .ref 3]) (M' := M1) rfl ?_
      rw [hm1]
      refine yR.iald (i' + 1) _ _ _ rfl rfl (by decide) (rfl) (by omega) ?_
      rw [f2']
      refine yR.iast (i') _ _ _ rfl rfl (by decide) (rfl) (by omega) ?_
      generalize g2 : zup M1 3 (i') (M0.1 3 (i' + 1)) = M2
      have f3' : M2.1 4 (i' + 1) = M0.1 4 (i' + 1) := by rw [← g2, zup_i, if_neg (by omega), ← g1, zup_i, if_neg (by omega)]; exact f3
      refine yR.adv 8 (pc' := 52) (lv' := [(0, .ref 1), (2, .int (nI (i' + 1)))]) (st' := [.int (nI (i' + 1)), .ref 4, .int ((nI (i' + 1)) - 1), .ref 4]) (M' := M2) rfl ?_
      rw [hm1]
      refine yR.iald (i' + 1) _ _ _ rfl rfl (by decide) (rfl) (by omega) ?_
      rw [f3']
      refine yR.iast (i') _ _ _ rfl rfl (by decide) (rfl) (by omega) ?_
      generalize g3 : zup M2 4 (i') (M0.1 4 (i' + 1)) = M3
      refine yR.adv 2 (pc' := 4) (lv' := [(2, .int (nI (i' + 1) + 1)), (0, .ref 1)]) (st' := []) (M' := M3) rfl ?_
      have K2 := ih (d - 1) (by omega) (i' + 1 + 1) M3 (by omega) (by omega) (by rw [← g3, ← g2, ← g1]; simp [zup_i, hs]) (fun j => by
        obtain ⟨x1, x2, x3⟩ := hp j
        rw [← g3, ← g2, ← g1]
        simp only [zup_i]
        by_cases c : j = i'
        · subst c
          have hc : p ≤ j ∧ j + 1 < j + 1 + 1 := ⟨by omega, by omega⟩
          simp [hc.1]
        · have e1 : (p ≤ j ∧ j + 1 < i' + 1 + 1) ↔ (p ≤ j ∧ j + 1 < i' + 1) := ⟨fun z => ⟨z.1, by omega⟩, fun z => ⟨z.1, by omega⟩⟩
          simp only [c, and_false, if_false, e1]
          exact ⟨by simpa using x1, by simpa using x2, by simpa using x3⟩) (by rw [← g3, ← g2, ← g1]; exact ((hE.up (by simp)).up (by simp)).up (by simp))
      exact (K2).drop (by refine ⟨?_, ?_⟩ <;> simp [zget, zwf, nI_succ])
theorem m_drop (M : zMm) (dom : Nat) (q W : Int) (L : zPl) (h : zRm dom q W M L) (p : Nat) (hp : p < L.length) : yR 43 0 [(0, .ref 0), (1, .int (nI p))] [] M (fun r N => r = some (.int (nI (L.length - 1))) ∧ zRm dom q W N (L.eraseIdx p) ∧ zKp [2, 3, 4] [(1, 3)] M N) := by
  obtain ⟨hU, hk, hd, hq, hW, hdom, bq, bW⟩ := id h
  have hL24 := hU.2.1
  have tp : (nI p).toInt = p := nI_toInt (by omega)
  have hm : ∀ n : Nat, 1 ≤ n → nI n - 1 = nI (n - 1) := fun n hn => by
    obtain ⟨m, rfl⟩ : ∃ m, n = m + 1 := ⟨n - 1, by omega⟩
    exact zI_pred m
  refine yR.adv 3 (pc' := 5) (lv' := [(0, .ref 0), (1, .int (nI p))]) (st' := [.int (nI p), .ref 1]) (M' := M) rfl ?_
  refine yR.callK (M1 := M) _ rfl rfl rfl rfl rfl (m_has M L.length hU.1 hU.2.1 (nI p) 1 (Or.inl ⟨by rw [tp]; omega, rfl⟩)) ?_
  show yR 43 8 [(0, .ref 0), (1, .int (nI p))] [.int 1] M _
  refine yR.if1 .ne _ _ _ _ rfl (fun q1 => ?_) (fun q1 => ?_)
  · have out : yR 28 0 [(0, .ref 1), (1, .int (nI p))] [] M (fun r N => r = none ∧ zRm dom q W N (L.eraseIdx p) ∧ N.1 1 3 = nI (L.length - 1) ∧ zKp [2, 3, 4] [(1, 3)] M N) := by
      refine yR.adv 4 (pc' := 4) (lv' := [(2, .int ((nI p) + 1)), (0, .ref 1), (1, .int (nI p))]) (st' := []) (M' := M) rfl ?_
      refine yR.drop (lv := [(0, .ref 1), (2, .int (nI (p + 1)))]) (by refine ⟨?_, ?_⟩ <;> simp [zget, zwf, nI_succ]) ?_
      refine m_takeOut_loop M L.length hL24 p (fun M1 s1 h1 e1 => ?_) (L.length - (p + 1)) (p + 1) M (by omega) (Nat.le_refl _) hU.1 (fun j => by rw [if_neg (by omega), if_neg (by omega), if_neg (by omega)]; exact ⟨rfl, rfl, rfl⟩) (zKp.refl _ _ _)
      refine yR.adv 6 (pc' := 70) (lv' := [(0, .ref 1)]) (st' := []) (M' := zup M1 1 3 ((M1.1 1 3) - 1)) rfl ?_
      rw [s1]
      rw [hm L.length (by omega)]
      generalize g2 : zup M1 1 3 (nI (L.length - 1)) = M2
      have E2 : zKp [2, 3, 4] [(1, 3)] M M2 := by rw [← g2]; exact (e1.sub (by decide)).up (by simp)
      have s2 : M2.1 1 3 = nI (L.length - 1) := by rw [← g2, zup_i, if_pos ⟨rfl, rfl⟩]
      have fr : ∀ a i, a ≠ 1 → M2.1 a i = M1.1 a i := fun a i ha => by rw [← g2, zup_i, if_neg (fun z => ha z.1)]
      refine yR.ret _ rfl rfl rfl ?_
      refine ⟨rfl, ⟨hU.erase hp s2 (fun j hj => by rw [fr 2 j (by omega), fr 3 j (by omega), fr 4 j (by omega)]; exact h1 j hj), hk.erase p, ?_, ?_, ?_, hdom, bq, bW⟩, s2, E2⟩
      · rw [(E2 1 0 (by decide) (by decide)).1]; exact hd
      · rw [(E2 1 1 (by decide) (by decide)).1]; exact hq
      · rw [(E2 1 2 (by decide) (by decide)).1]; exact hW
    refine yR.adv 3 (pc' := 18) (lv' := [(0, .ref 0), (1, .int (nI p))]) (st' := [.int (nI p), .ref 1]) (M' := M) rfl ?_
    refine yR.call _ rfl rfl rfl rfl rfl (out) (fun r1 M1 hq => ?_)
    obtain ⟨rfl, R1, s1, e1⟩ := hq
    show yR 43 21 [(0, .ref 0), (1, .int (nI p))] [] M1 _
    refine yR.adv 3 (pc' := 28) (lv' := [(0, .ref 0), (1, .int (nI p))]) (st' := [.int (M1.1 1 3)]) (M' := M1) rfl ?_
    rw [s1]
    refine yR.ret _ rfl rfl rfl ?_
    exact ⟨rfl, R1, e1⟩
  · exact absurd q1 (by decide)
theorem r_drop_loop {Q : Option Value → zMm → Prop} (M0 : zMm) (n : Nat) (hn : n ≤ 23) (p : Nat) (K : ∀ M', M'.1 93 7 = nI n → (∀ j, j < n → (M'.1 94 j = if p ≤ j then M0.1 94 (j + 1) else M0.1 94 j) ∧ (M'.1 95 j = if p ≤ j then M0.1 95 (j + 1) else M0.1 95 j) ∧ (M'.1 96 j = if p ≤ j then M0.1 96 (j + 1) else M0.1 96 j)) → zKp [94, 95, 96] [] M0 M' → yR 129 78 [(0, .ref 93)] [] M' Q) :
    ∀ (d i : Nat) (M : zMm), i + d = n → p ≤ i → M.1 93 7 = nI n → (∀ j, (M.1 94 j = if p ≤ j ∧ j < i then M0.1 94 (j + 1) else M0.1 94 j) ∧ (M.1 95 j = if p ≤ j ∧ j < i then M0.1 95 (j + 1) else M0.1 95 j) ∧ (M.1 96 j = if p ≤ j ∧ j < i then M0.1 96 (j + 1) else M0.1 96 j)) → zKp [94, 95, 96] [] M0 M → yR 129 22 [(0, .ref 93), (2, .int (nI i))] [] M Q := by
  intro d
  induction d using Nat.strongRecOn with
  | ind d ih =>
    intro i M h hpi hs hp hE
    refine yR.adv 3 (pc' := 27) (lv' := [(0, .ref 93), (2, .int (nI i))]) (st' := [.int (M.1 93 7), .int (nI i)]) (M' := M) rfl ?_
    rw [hs]
    refine yR.if2 .ge _ _ _ _ rfl (fun q1 => ?_) (fun q1 => ?_)
    · have q1' : (n : Int) ≤ i := zcT q1 (nI_toInt (by omega)) (nI_toInt (by omega))
      refine (K M hs (fun j hj => ?_) hE).drop (by refine ⟨?_, ?_⟩ <;> simp [zget, zwf])
      obtain ⟨x1, x2, x3⟩ := hp j
      have e1 : (p ≤ j ∧ j < i) ↔ p ≤ j := ⟨fun z => z.1, fun z => ⟨z, by omega⟩⟩
      rw [x1, x2, x3]
      simp only [e1, and_self]
    · have q1' : ¬ (n : Int) ≤ i := zcF q1 (nI_toInt (by omega)) (nI_toInt (by omega))
      have f1 : M.1 94 (i + 1) = M0.1 94 (i + 1) := by rw [(hp (i + 1)).1, if_neg (fun z => by omega)]
      have f2 : M.1 95 (i + 1) = M0.1 95 (i + 1) := by rw [(hp (i + 1)).2.1, if_neg (fun z => by omega)]
      have f3 : M.1 96 (i + 1) = M0.1 96 (i + 1) := by rw [(hp (i + 1)).2.2, if_neg (fun z => by omega)]
      refine yR.adv 8 (pc' := 42) (lv' := [(0, .ref 93), (2, .int (nI i))]) (st' := [.int ((nI i) + 1), .ref 94, .int (nI i), .ref 94]) (M' := M) rfl ?_
      refine yR.iald (i + 1) _ _ _ rfl rfl (by decide) (nI_1 i) (by omega) ?_
      rw [f1]
      refine yR.iast i _ _ _ rfl rfl (by decide) (rfl) (by omega) ?_
      generalize g1 : zup M 94 i (M0.1 94 (i + 1)) = M1
      have f2' : M1.1 95 (i + 1) = M0.1 95 (i + 1) := by rw [← g1, zup_i, if_neg (by omega)]; exact f2
      refine yR.adv 8 (pc' := 56) (lv' := [(0, .ref 93), (2, .int (nI i))]) (st' := [.int ((nI i) + 1), .ref 95, .int (nI i), .ref 95]) (M' := M1) rfl ?_
      refine yR.iald (i + 1) _ _ _ rfl rfl (by decide) (nI_1 i) (by omega) ?_
      rw [f2']
      refine yR.iast i _ _ _ rfl rfl (by decide) (rfl) (by omega) ?_
      generalize g2 : zup M1 95 i (M0.1 95 (i + 1)) = M2
      have f3' : M2.1 96 (i + 1) = M0.1 96 (i + 1) := by rw [← g2, zup_i, if_neg (by omega), ← g1, zup_i, if_neg (by omega)]; exact f3
      refine yR.adv 8 (pc' := 70) (lv' := [(0, .ref 93), (2, .int (nI i))]) (st' := [.int ((nI i) + 1), .ref 96, .int (nI i), .ref 96]) (M' := M2) rfl ?_
      refine yR.iald (i + 1) _ _ _ rfl rfl (by decide) (nI_1 i) (by omega) ?_
      rw [f3']
      refine yR.iast i _ _ _ rfl rfl (by decide) (rfl) (by omega) ?_
      generalize g3 : zup M2 96 i (M0.1 96 (i + 1)) = M3
      refine yR.adv 2 (pc' := 22) (lv' := [(2, .int (nI i + 1)), (0, .ref 93)]) (st' := []) (M' := M3) rfl ?_
      have K2 := ih (d - 1) (by omega) (i + 1) M3 (by omega) (by omega) (by rw [← g3, ← g2, ← g1]; simp [zup_i, hs]) (fun j => by
        obtain ⟨x1, x2, x3⟩ := hp j
        rw [← g3, ← g2, ← g1]
        simp only [zup_i]
        by_cases c : j = i
        · subst c
          simp [hpi]
        · have e1 : (p ≤ j ∧ j < i + 1) ↔ (p ≤ j ∧ j < i) := ⟨fun z => ⟨z.1, by omega⟩, fun z => ⟨z.1, by omega⟩⟩
          simp only [c, and_false, if_false, e1]
          exact ⟨by simpa using x1, by simpa using x2, by simpa using x3⟩) (by rw [← g3, ← g2, ← g1]; exact ((hE.up (by simp)).up (by simp)).up (by simp))
      exact (K2).drop (by refine ⟨?_, ?_⟩ <;> simp [zget, zwf, nI_succ])
theorem r_drop (M : zMm) (dom : Nat) (q W : Int) (L : zPl) (h : zRr dom q W M L) (p : Nat) (hp : p < L.length) : yR 129 0 [(0, .ref 93), (1, .int (nI p))] [] M (fun r N => r = some (.int (nI (L.length - 1))) ∧ zRr dom q W N (L.eraseIdx p) ∧ zKp [94, 95, 96] [(93, 7)] M N) := by
  obtain ⟨hU, hk, hd, hq, hW, hdom, bq, bW⟩ := id h
  have hL24 := hU.2.1
  have tp : (nI p).toInt = p := nI_toInt (by omega)
  have hm : ∀ n : Nat, 1 ≤ n → nI n - 1 = nI (n - 1) := fun n hn => by
    obtain ⟨m, rfl⟩ : ∃ m, n = m + 1 := ⟨n - 1, by omega⟩
    exact zI_pred m
  refine yR.adv 2 (pc' := 2) (lv' := [(0, .ref 93), (1, .int (nI p))]) (st' := [.int (nI p), .ref 93]) (M' := M) rfl ?_
  refine yR.callK (M1 := M) _ rfl rfl rfl rfl rfl (r_isPlace M L.length hU.1 hU.2.1 (nI p) 1 (Or.inl ⟨by rw [tp]; omega, rfl⟩)) ?_
  show yR 129 5 [(0, .ref 93), (1, .int (nI p))] [.int 1] M _
  refine yR.if1 .ne _ _ _ _ rfl (fun q1 => ?_) (fun q1 => ?_)
  · refine yR.adv 6 (pc' := 20) (lv' := [(0, .ref 93), (1, .int (nI p))]) (st' := []) (M' := zup M 93 7 ((M.1 93 7) - 1)) rfl ?_
    rw [hU.1, hm L.length (by omega)]
    generalize g1 : zup M 93 7 (nI (L.length - 1)) = M1
    have E1 : zKp [94, 95, 96] [(93, 7)] M M1 := by rw [← g1]; exact (zKp.refl _ _ M).up (by simp)
    have s1 : M1.1 93 7 = nI (L.length - 1) := by rw [← g1, zup_i, if_pos ⟨rfl, rfl⟩]
    have fr : ∀ a i, a ≠ 93 → M1.1 a i = M.1 a i := fun a i ha => by rw [← g1, zup_i, if_neg (fun z => ha z.1)]
    refine yR.adv 2 (pc' := 22) (lv' := [(2, .int (nI p)), (0, .ref 93), (1, .int (nI p))]) (st' := []) (M' := M1) rfl ?_
    refine yR.drop (lv := [(0, .ref 93), (2, .int (nI p))]) (by refine ⟨?_, ?_⟩ <;> simp [zget, zwf]) ?_
    refine r_drop_loop M1 (L.length - 1) (by omega) p (fun M2 s2 h2 e2 => ?_) (L.length - 1 - p) p M1 (by omega) (Nat.le_refl _) s1 (fun j => by rw [if_neg (by omega), if_neg (by omega), if_neg (by omega)]; exact ⟨rfl, rfl, rfl⟩) (zKp.refl _ _ _)
    have E2 : zKp [94, 95, 96] [(93, 7)] M M2 := E1.trans (e2.sub (by decide))
    refine yR.adv 2 (pc' := 82) (lv' := [(0, .ref 93)]) (st' := [.int (M2.1 93 7)]) (M' := M2) rfl ?_
    rw [s2]
    refine yR.ret _ rfl rfl rfl ?_
    refine ⟨rfl, ⟨hU.erase hp s2 (fun j hj => by obtain ⟨x1, x2, x3⟩ := h2 j hj; rw [x1, x2, x3, fr 94 j (by omega), fr 95 j (by omega), fr 96 j (by omega), fr 94 (j + 1) (by omega), fr 95 (j + 1) (by omega), fr 96 (j + 1) (by omega)]; exact ⟨rfl, rfl, rfl⟩), hk.erase p, ?_, ?_, ?_, hdom, bq, bW⟩, E2⟩
    · rw [(E2 93 4 (by decide) (by decide)).1]; exact hd
    · rw [(E2 93 5 (by decide) (by decide)).1]; exact hq
    · rw [(E2 93 6 (by decide) (by decide)).1]; exact hW
  · exact absurd q1 (by decide)
