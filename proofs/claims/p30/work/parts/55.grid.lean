/-! ===== the orbits of a grid: gather ===== -/
theorem yR.ok {k pc : Nat} {lv : zL} {st : List Value} {M M' : zMm} {v : Option Value} (h : yR k pc lv st M (fun r N => r = v ∧ N = M')) : yOk k pc lv st M v M' := by
  obtain ⟨r, N, h1, rfl, rfl⟩ := h
  exact h1
theorem iI_1 (b : Int) : iI b + 1 = iI (b + 1) := by rw [← iI_add]; rfl
theorem iI_m1 (b : Int) : iI b + (-1) = iI (b - 1) := by rw [Int.sub_eq_add_neg, ← iI_add]; rfl
theorem m_liesIn (M : zMm) (dom : Nat) (hdom : dom < 3) (q x y : Int32) (hx : x.toInt.natAbs ≤ 2 ^ 20) (hy : y.toInt.natAbs ≤ 2 ^ 20) (v : Int32) (hv : (zdom dom q.toInt x.toInt y.toInt ∧ v = 1) ∨ (¬ zdom dom q.toInt x.toInt y.toInt ∧ v = 0)) : yOk 72 0 [(0, .int (nI dom)), (1, .int q), (2, .int x), (3, .int y)] [] M (some (.int v)) M := by
  have h : dom = 0 ∨ dom = 1 ∨ dom = 2 := by omega
  rcases h with rfl | rfl | rfl
  · exact m_liesIn_0 M q x y hx hy v hv
  · exact m_liesIn_1 M q x y hx hy v hv
  · exact m_liesIn_2 M q x y hx hy v hv
def zdomB (d : Nat) (q x y : Int) : Bool := if d = 0 then decide ((x.natAbs : Int) ≤ q) && decide ((y.natAbs : Int) ≤ q) else if d = 1 then decide (0 ≤ x) && (decide (0 ≤ y) && decide (x + y ≤ q)) else decide ((x.natAbs : Int) + (y.natAbs : Int) ≤ q)
theorem zdomB_iff {d : Nat} {q x y : Int} : zdomB d q x y = true ↔ zdom d q x y := by
  unfold zdomB zdom
  split
  · simp
  · split <;> simp
def zleB (dom : Nat) (q a b : Int) : Bool := decide (a ≤ b) && decide (b ≤ zz dom q a b)
theorem zleB_iff {dom : Nat} {q a b : Int} : zleB dom q a b = true ↔ zleP dom q a b := by unfold zleB zleP zz; simp
def zPC (dom : Nat) (q a b : Int) : Bool := zleB dom q a b && zdomB dom q a b
def zrowC (dom : Nat) (q a : Int) : Nat → Int → List (Int × Int)
  | 0, _ => []
  | d + 1, b => (if zPC dom q a b = true then [(a, b)] else []) ++ zrowC dom q a d (b + 1)
def zscanC (dom : Nat) (q : Int) : Nat → Int → List (Int × Int)
  | 0, _ => []
  | d + 1, a => zrowC dom q a (q - a + 1).toNat a ++ zscanC dom q d (a + 1)
def zreps (dom : Nat) (q : Nat) : List (Int × Int) := zscanC dom q (2 * q + 1) (-q)
def zorb (dom : Nat) (q : Int) (p : Int × Int) : List zPt := ofold [] (zpsM (nI dom) (iI q) (iI p.1) (iI p.2))
def zfar (dom : Nat) (q : Int) (p : Int × Int) : Int := p.1 * p.1 + p.2 * p.2 + zz dom q p.1 p.2 * zz dom q p.1 p.2
def zGr (dom : Nat) (q : Int) (M : zMm) (l : List (Int × Int)) : Prop := M.1 12 0 = nI dom ∧ M.1 12 1 = iI q ∧ M.1 12 2 = nI l.length ∧ ∀ s p, l[s]? = some p → M.1 13 s = iI p.1 ∧ M.1 14 s = iI p.2 ∧ M.1 15 s = nI (zorb dom q p).length ∧ M.1 16 s = iI (zfar dom q p) ∧ ∀ t, t < 21 → M.2 (18 + s) t = zps (zorb dom q p) t
def zA1 : List Nat := List.range' 9 45
theorem zA1_mem {a : Nat} : a ∈ zA1 ↔ 9 ≤ a ∧ a < 54 := by unfold zA1; rw [List.mem_range'_1]
theorem zpsM_len (dom q x y : Int32) : (zpsM dom q x y).length ≤ 8 := by unfold zpsM; split <;> exact Nat.le_of_ble_eq_true rfl
/-- an orbit found by gather -/
theorem m_gatherE (M : zMm) (dom q x y : Int32) : yR 15 0 [(0, .ref 9), (1, .int dom), (2, .int q), (3, .int x), (4, .int y)] [] M (fun r N => r = none ∧ zOrb 9 2 10 11 N (ofold [] (zpsM dom q x y)) ∧ zKp [10, 11] [(9, 2)] M N) := by
  have h := zfold_ok (c := 9) (f := 2) (ax := 10) (ay := 11) (by decide) (by decide) (by decide) (zpsM dom q x y) (zup M 9 2 0) [] (zOrb_nil M) (by have := zpsM_len dom q x y; simpa using this)
  exact yR.of (m_gather M dom q x y) ⟨rfl, h.1, ((zKp.refl [10, 11] [(9, 2)] M).up (by simp)).trans h.2.E⟩
theorem zGr.snoc {dom : Nat} {q : Int} {M N : zMm} {l : List (Int × Int)} {p : Int × Int} (h : zGr dom q M l) (e : zKp [9, 10, 11, 18 + l.length, 48, 49] [(12, 2), (13, l.length), (14, l.length), (15, l.length), (16, l.length)] M N) (n2 : N.1 12 2 = nI (l.length + 1)) (n3 : N.1 13 l.length = iI p.1) (n4 : N.1 14 l.length = iI p.2) (n5 : N.1 15 l.length = nI (zorb dom q p).length) (n6 : N.1 16 l.length = iI (zfar dom q p)) (n7 : ∀ t, t < 21 → N.2 (18 + l.length) t = zps (zorb dom q p) t) (hl : l.length < 28) : zGr dom q N (l ++ [p]) := by
  refine ⟨by rw [(e 12 0 (by simp; omega) (by simp)).1]; exact h.1, by rw [(e 12 1 (by simp; omega) (by simp)).1]; exact h.2.1, by rw [n2, List.length_append]; rfl, fun s p' hs => ?_⟩
  by_cases hlt : s < l.length
  · rw [List.getElem?_append_left hlt] at hs
    obtain ⟨g1, g2, g3, g4, g5⟩ := h.2.2.2 s p' hs
    have hne : s ≠ l.length := by omega
    refine ⟨?_, ?_, ?_, ?_, fun t ht => ?_⟩
    · rw [(e 13 s (by simp; omega) (by simp [hne])).1]; exact g1
    · rw [(e 14 s (by simp; omega) (by simp [hne])).1]; exact g2
    · rw [(e 15 s (by simp; omega) (by simp [hne])).1]; exact g3
    · rw [(e 16 s (by simp; omega) (by simp [hne])).1]; exact g4
    · rw [(e (18 + s) t (by simp; omega) (by simp; omega)).2]; exact g5 t ht
  · have h2 : s = l.length := by
      have := (List.getElem?_eq_some_iff.mp hs).1
      rw [List.length_append] at this
      simp at this
      omega
    subst h2
    rw [List.getElem?_append_right (by omega)] at hs
    simp at hs
    subst hs
    exact ⟨n3, n4, n5, n6, n7⟩
theorem m_grid_in {Q : Option Value → zMm → Prop} (M0 : zMm) (dom : Nat) (hdom : dom < 3) (q : Int) (hq : 1 ≤ q ∧ q ≤ 6) (a : Int) (ha : -6 ≤ a ∧ a ≤ 6) (R : Nat) (L : List (Int × Int)) (K : ∀ M', zGr dom q M' L → zKp zA1 [] M0 M' → yR 6 113 [(0, .ref 12), (3, .ref 9), (4, .int (iI a))] [] M' Q) :
    ∀ (d : Nat) (b : Int) (M : zMm) (l : List (Int × Int)), b + d = q + 1 → a ≤ b → zGr dom q M l → zKp zA1 [] M0 M → l ++ zrowC dom q a d b = L → L.length ≤ 28 → yR 6 35 [(0, .ref 12), (3, .ref 9), (4, .int (iI a)), (5, .int (iI b))] [] M Q := by
  intro d
  induction d using Nat.strongRecOn with
  | ind d ih =>
    intro b M l h hab hG hE hL h28
    have hlen : l.length ≤ 28 := by rw [← hL, List.length_append] at h28; omega
    refine yR.adv 3 (pc' := 41) (lv' := [(0, .ref 12), (3, .ref 9), (4, .int (iI a)), (5, .int (iI b))]) (st' := [.int (M.1 12 1), .int (iI b)]) (M' := M) rfl ?_
    rw [hG.2.1]
    refine yR.if2 .gt _ _ _ _ rfl (fun q1 => ?_) (fun q1 => ?_)
    · have q1' : q < b := zcT q1 (iI_toInt (by omega)) (iI_toInt (by omega))
      have hd : d = 0 := by omega
      subst hd
      have hL' : L = l := by rw [← hL]; simp [zrowC]
      subst hL'
      exact (K M hG hE).drop (by refine ⟨?_, ?_⟩ <;> simp [zget, zwf])
    · have q1' : ¬ q < b := zcF q1 (iI_toInt (by omega)) (iI_toInt (by omega))
      obtain ⟨d', rfl⟩ : ∃ d', d = d' + 1 := ⟨d - 1, by omega⟩
      have next : ∀ (M' : zMm) (l' : List (Int × Int)), l' = l ++ (if zPC dom q a b = true then [(a, b)] else []) → zGr dom q M' l' → zKp zA1 [] M0 M' → yR 6 107 [(0, .ref 12), (3, .ref 9), (4, .int (iI a)), (5, .int (iI b))] [] M' Q := by
        intro M' l' hl' hG' hE'
        refine yR.adv 2 (pc' := 35) (lv' := [(5, .int (iI b + 1)), (0, .ref 12), (3, .ref 9), (4, .int (iI a))]) (st' := []) (M' := M') rfl ?_
        exact (ih d' (by omega) (b + 1) M' l' (by omega) (by omega) hG' hE' (by rw [hl', ← hL, List.append_assoc]; rfl) h28).drop (by refine ⟨?_, ?_⟩ <;> simp [zget, zwf, nI_succ, iI_1])
      have stay : zPC dom q a b = false → yR 6 107 [(0, .ref 12), (3, .ref 9), (4, .int (iI a)), (5, .int (iI b))] [] M Q := fun hn => next M l (by rw [hn]; simp) hG hE
      refine yR.adv 3 (pc' := 50) (lv' := [(0, .ref 12), (3, .ref 9), (4, .int (iI a)), (5, .int (iI b))]) (st' := [.int 28, .int (M.1 12 2)]) (M' := M) rfl ?_
      rw [hG.2.2.1]
      refine yR.if2 .ge _ _ _ _ rfl (fun q2 => ?_) (fun q2 => ?_)
      · have q2' : (28 : Int) ≤ l.length := zcT q2 (nI_toInt (by omega)) rfl
        refine stay ?_
        cases hb : zPC dom q a b
        · rfl
        · exfalso
          rw [← hL, List.length_append, zrowC, List.length_append, if_pos hb] at h28
          simp at h28
          omega
      · have q2' : ¬ (28 : Int) ≤ l.length := zcF q2 (nI_toInt (by omega)) rfl
        obtain ⟨v, hv⟩ := zem (zleP dom q a b)
        refine yR.adv 3 (pc' := 58) (lv' := [(0, .ref 12), (3, .ref 9), (4, .int (iI a)), (5, .int (iI b))]) (st' := [.int (iI b), .int (iI a), .ref 12]) (M' := M) rfl ?_
        refine yR.callK (M1 := M) _ rfl rfl rfl rfl rfl ((m_isLeast M dom hdom q a b hG.1 hG.2.1 (by omega) (by omega) (by omega) v hv).ok) ?_
        show yR 6 61 [(0, .ref 12), (3, .ref 9), (4, .int (iI a)), (5, .int (iI b))] [.int v] M _
        refine yR.if1 .eq _ _ _ _ rfl (fun q3 => ?_) (fun q3 => ?_)
        · have q3' := zeq0 hv q3
          exact stay (by unfold zPC; cases hb : zleB dom q a b; rfl; exact absurd (zleB_iff.mp hb) q3')
        · have q3' := zeq1 hv q3
          have ta : (iI a).toInt = a := iI_toInt (by omega)
          have tb : (iI b).toInt = b := iI_toInt (by omega)
          have tq : (iI q).toInt = q := iI_toInt (by omega)
          obtain ⟨v2, hv2⟩ := zem (zdom dom (iI q).toInt (iI a).toInt (iI b).toInt)
          refine yR.adv 6 (pc' := 76) (lv' := [(0, .ref 12), (3, .ref 9), (4, .int (iI a)), (5, .int (iI b))]) (st' := [.int (iI b), .int (iI a), .int (M.1 12 1), .int (M.1 12 0)]) (M' := M) rfl ?_
          rw [hG.1]
          rw [hG.2.1]
          refine yR.callK (M1 := M) _ rfl rfl rfl rfl rfl (m_liesIn M dom hdom (iI q) (iI a) (iI b) (by rw [ta]; omega) (by rw [tb]; omega) v2 hv2) ?_
          show yR 6 79 [(0, .ref 12), (3, .ref 9), (4, .int (iI a)), (5, .int (iI b))] [.int v2] M _
          refine yR.if1 .eq _ _ _ _ rfl (fun q4 => ?_) (fun q4 => ?_)
          · have q4' := zeq0 hv2 q4
            rw [ta, tb, tq] at q4'
            exact stay (by unfold zPC; cases hb : zdomB dom q a b; exact Bool.and_false _; exact absurd (zdomB_iff.mp hb) q4')
          · have q4' := zeq1 hv2 q4
            rw [ta, tb, tq] at q4'
            have hP : zPC dom q a b = true := by unfold zPC; rw [zleB_iff.mpr q3', zdomB_iff.mpr q4']; rfl
            refine yR.adv 7 (pc' := 95) (lv' := [(0, .ref 12), (3, .ref 9), (4, .int (iI a)), (5, .int (iI b))]) (st' := [.int (iI b), .int (iI a), .int (M.1 12 1), .int (M.1 12 0), .ref 9]) (M' := M) rfl ?_
            rw [hG.1]
            rw [hG.2.1]
            refine yR.call _ rfl rfl rfl rfl rfl (m_gatherE M (nI dom) (iI q) (iI a) (iI b)) (fun r1 M1 hq => ?_)
            obtain ⟨rfl, o1, e1⟩ := hq
            show yR 6 98 [(0, .ref 12), (3, .ref 9), (4, .int (iI a)), (5, .int (iI b))] [] M1 _
            refine yR.adv 4 (pc' := 104) (lv' := [(0, .ref 12), (3, .ref 9), (4, .int (iI a)), (5, .int (iI b))]) (st' := [.ref 9, .int (iI b), .int (iI a), .ref 12]) (M' := M1) rfl ?_
            have w0 : M1.1 12 0 = nI dom := by rw [(e1 12 0 (by decide) (by decide)).1]; exact hG.1
            have w1 : M1.1 12 1 = iI q := by rw [(e1 12 1 (by decide) (by decide)).1]; exact hG.2.1
            have w2 : M1.1 12 2 = nI l.length := by rw [(e1 12 2 (by decide) (by decide)).1]; exact hG.2.2.1
            refine yR.call _ rfl rfl rfl rfl rfl (m_append M1 l.length (by omega) _ o1 w2 dom hdom q a b w0 w1) (fun r1 M2 hq => ?_)
            obtain ⟨rfl, n2, n3, n4, n5, n6, n7, e2⟩ := hq
            show yR 6 107 [(0, .ref 12), (3, .ref 9), (4, .int (iI a)), (5, .int (iI b))] [] M2 _
            have E : zKp [9, 10, 11, 18 + l.length, 48, 49] [(12, 2), (13, l.length), (14, l.length), (15, l.length), (16, l.length)] M M2 := (e1.mono (by simp) (by simp)).trans (e2.mono (by simp <;> omega) (by simp <;> omega))
            refine next M2 (l ++ [(a, b)]) (by rw [if_pos hP]) (hG.snoc E n2 n3 n4 n5 n6 n7 (by omega)) (hE.trans (E.mono (fun x hx => ?_) (fun x i hx => Or.inl ?_)))
            · simp at hx
              rw [zA1_mem]
              omega
            · simp at hx
              rw [zA1_mem]
              omega
theorem m_grid_out {Q : Option Value → zMm → Prop} (M0 : zMm) (dom : Nat) (hdom : dom < 3) (q : Int) (hq : 1 ≤ q ∧ q ≤ 6) (L : List (Int × Int)) (h28 : L.length ≤ 28) (K : ∀ M', zGr dom q M' L → zKp zA1 [] M0 M' → yR 6 119 [(0, .ref 12)] [] M' Q) :
    ∀ (d : Nat) (a : Int) (M : zMm) (l : List (Int × Int)), a + d = q + 1 → -q ≤ a → zGr dom q M l → zKp zA1 [] M0 M → l ++ zscanC dom q d a = L → yR 6 22 [(0, .ref 12), (3, .ref 9), (4, .int (iI a))] [] M Q := by
  intro d
  induction d using Nat.strongRecOn with
  | ind d ih =>
    intro a M l h hab hG hE hL
    refine yR.adv 3 (pc' := 28) (lv' := [(0, .ref 12), (3, .ref 9), (4, .int (iI a))]) (st' := [.int (M.1 12 1), .int (iI a)]) (M' := M) rfl ?_
    rw [hG.2.1]
    refine yR.if2 .gt _ _ _ _ rfl (fun q1 => ?_) (fun q1 => ?_)
    · have q1' : q < a := zcT q1 (iI_toInt (by omega)) (iI_toInt (by omega))
      have hd : d = 0 := by omega
      subst hd
      have hL' : L = l := by rw [← hL]; simp [zscanC]
      subst hL'
      exact (K M hG hE).drop (by refine ⟨?_, ?_⟩ <;> simp [zget, zwf])
    · have q1' : ¬ q < a := zcF q1 (iI_toInt (by omega)) (iI_toInt (by omega))
      obtain ⟨d', rfl⟩ : ∃ d', d = d' + 1 := ⟨d - 1, by omega⟩
      have hL2 : (l ++ zrowC dom q a (q - a + 1).toNat a) ++ zscanC dom q d' (a + 1) = L := by rw [← hL, List.append_assoc]; rfl
      refine yR.adv 2 (pc' := 35) (lv' := [(5, .int (iI a)), (0, .ref 12), (3, .ref 9), (4, .int (iI a))]) (st' := []) (M' := M) rfl ?_
      refine yR.drop (lv := [(0, .ref 12), (3, .ref 9), (4, .int (iI a)), (5, .int (iI a))]) (by refine ⟨?_, ?_⟩ <;> simp [zget, zwf]) ?_
      refine m_grid_in M0 dom hdom q hq a (by omega) 0 (l ++ zrowC dom q a (q - a + 1).toNat a) (fun M' hG' hE' => ?_) (q - a + 1).toNat a M l (by omega) (by omega) hG hE rfl (by rw [← hL2, List.length_append] at h28; omega)
      refine yR.adv 2 (pc' := 22) (lv' := [(4, .int (iI a + 1)), (0, .ref 12), (3, .ref 9)]) (st' := []) (M' := M') rfl ?_
      exact (ih d' (by omega) (a + 1) M' _ (by omega) (by omega) hG' hE' hL2).drop (by refine ⟨?_, ?_⟩ <;> simp [zget, zwf, nI_succ, iI_1])
