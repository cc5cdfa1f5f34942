/-! ===== of the reference: isIn, farOf, the orbits of a grid ===== -/
theorem r_isIn_0 (M : zMm) (hm : M.1 93 4 = 0) (q x y : Int32) (hx : x.toInt.natAbs ≤ 2 ^ 20) (hy : y.toInt.natAbs ≤ 2 ^ 20) (v : Int32) (hv : (zdom 0 q.toInt x.toInt y.toInt ∧ v = 1) ∨ (¬ zdom 0 q.toInt x.toInt y.toInt ∧ v = 0)) : yOk 120 0 [(0, .ref 93), (1, .int x), (2, .int y), (3, .int q)] [] M (some (.int v)) M := by
  refine yR.ok ?_
  have tx : x.toInt64.toInt = x.toInt := Int32.toInt_toInt64 x
  have ty : y.toInt64.toInt = y.toInt := Int32.toInt_toInt64 y
  have tq : q.toInt64.toInt = q.toInt := Int32.toInt_toInt64 q
  have hv1 : zdom 0 q.toInt x.toInt y.toInt → v = 1 := fun h => hv.elim (fun p => p.2) (fun p => absurd h p.1)
  have hv0 : ¬ zdom 0 q.toInt x.toInt y.toInt → v = 0 := fun h => hv.elim (fun p => absurd p.1 h) (fun p => p.2)
  simp only [zdom] at hv1 hv0
  refine yR.adv 2 (pc' := 4) (lv' := [(0, .ref 93), (1, .int x), (2, .int y), (3, .int q)]) (st' := [.int (M.1 93 4)]) (M' := M) rfl ?_
  rw [hm]
  refine yR.adv 1 (pc' := 32) (lv' := [(0, .ref 93), (1, .int x), (2, .int y), (3, .int q)]) (st' := []) (M' := M) rfl ?_
  refine yR.adv 2 (pc' := 34) (lv' := [(0, .ref 93), (1, .int x), (2, .int y), (3, .int q)]) (st' := [.long x.toInt64]) (M' := M) rfl ?_
  refine yR.callK (M1 := M) _ rfl rfl rfl rfl rfl (r_size M x.toInt64 (by rw [tx]; omega)) ?_
  show yR 120 37 [(0, .ref 93), (1, .int x), (2, .int y), (3, .int q)] [.long (zNl x.toInt64.toInt.natAbs)] M _
  rw [tx]
  refine yR.adv 3 (pc' := 40) (lv' := [(0, .ref 93), (1, .int x), (2, .int y), (3, .int q)]) (st' := [.int (lg_cmp (zNl x.toInt.natAbs) q.toInt64)]) (M' := M) rfl ?_
  refine yR.if1 .gt _ _ _ _ rfl (fun q1 => ?_) (fun q1 => ?_)
  · have q1' : q.toInt < (x.toInt.natAbs : Int) := zlT q1 (zNl_toInt (by omega)) tq
    refine yR.adv 1 (pc' := 59) (lv' := [(0, .ref 93), (1, .int x), (2, .int y), (3, .int q)]) (st' := [.int 0]) (M' := M) rfl ?_
    refine yR.ret _ rfl rfl rfl ?_
    exact ⟨by rw [hv0 (by simp; omega)], rfl⟩
  · have q1' : ¬ q.toInt < (x.toInt.natAbs : Int) := zlF q1 (zNl_toInt (by omega)) tq
    refine yR.adv 2 (pc' := 45) (lv' := [(0, .ref 93), (1, .int x), (2, .int y), (3, .int q)]) (st' := [.long y.toInt64]) (M' := M) rfl ?_
    refine yR.callK (M1 := M) _ rfl rfl rfl rfl rfl (r_size M y.toInt64 (by rw [ty]; omega)) ?_
    show yR 120 48 [(0, .ref 93), (1, .int x), (2, .int y), (3, .int q)] [.long (zNl y.toInt64.toInt.natAbs)] M _
    rw [ty]
    refine yR.adv 3 (pc' := 51) (lv' := [(0, .ref 93), (1, .int x), (2, .int y), (3, .int q)]) (st' := [.int (lg_cmp (zNl y.toInt.natAbs) q.toInt64)]) (M' := M) rfl ?_
    refine yR.if1 .gt _ _ _ _ rfl (fun q2 => ?_) (fun q2 => ?_)
    · have q2' : q.toInt < (y.toInt.natAbs : Int) := zlT q2 (zNl_toInt (by omega)) tq
      refine yR.adv 1 (pc' := 59) (lv' := [(0, .ref 93), (1, .int x), (2, .int y), (3, .int q)]) (st' := [.int 0]) (M' := M) rfl ?_
      refine yR.ret _ rfl rfl rfl ?_
      exact ⟨by rw [hv0 (by simp; omega)], rfl⟩
    · have q2' : ¬ q.toInt < (y.toInt.natAbs : Int) := zlF q2 (zNl_toInt (by omega)) tq
      refine yR.adv 2 (pc' := 59) (lv' := [(0, .ref 93), (1, .int x), (2, .int y), (3, .int q)]) (st' := [.int 1]) (M' := M) rfl ?_
      refine yR.ret _ rfl rfl rfl ?_
      exact ⟨by rw [hv1 (by simp; omega)], rfl⟩
theorem r_isIn_1 (M : zMm) (hm : M.1 93 4 = 1) (q x y : Int32) (hx : x.toInt.natAbs ≤ 2 ^ 20) (hy : y.toInt.natAbs ≤ 2 ^ 20) (v : Int32) (hv : (zdom 1 q.toInt x.toInt y.toInt ∧ v = 1) ∨ (¬ zdom 1 q.toInt x.toInt y.toInt ∧ v = 0)) : yOk 120 0 [(0, .ref 93), (1, .int x), (2, .int y), (3, .int q)] [] M (some (.int v)) M := by
  refine yR.ok ?_
  have tx : x.toInt64.toInt = x.toInt := Int32.toInt_toInt64 x
  have ty : y.toInt64.toInt = y.toInt := Int32.toInt_toInt64 y
  have tq : q.toInt64.toInt = q.toInt := Int32.toInt_toInt64 q
  have hv1 : zdom 1 q.toInt x.toInt y.toInt → v = 1 := fun h => hv.elim (fun p => p.2) (fun p => absurd h p.1)
  have hv0 : ¬ zdom 1 q.toInt x.toInt y.toInt → v = 0 := fun h => hv.elim (fun p => absurd p.1 h) (fun p => p.2)
  simp only [zdom] at hv1 hv0
  refine yR.adv 2 (pc' := 4) (lv' := [(0, .ref 93), (1, .int x), (2, .int y), (3, .int q)]) (st' := [.int (M.1 93 4)]) (M' := M) rfl ?_
  rw [hm]
  refine yR.adv 1 (pc' := 60) (lv' := [(0, .ref 93), (1, .int x), (2, .int y), (3, .int q)]) (st' := []) (M' := M) rfl ?_
  refine yR.adv 1 (pc' := 61) (lv' := [(0, .ref 93), (1, .int x), (2, .int y), (3, .int q)]) (st' := [.int x]) (M' := M) rfl ?_
  refine yR.if1 .lt _ _ _ _ rfl (fun q1 => ?_) (fun q1 => ?_)
  · have q1' : x.toInt < 0 := zcT q1 rfl rfl
    refine yR.adv 1 (pc' := 80) (lv' := [(0, .ref 93), (1, .int x), (2, .int y), (3, .int q)]) (st' := [.int 0]) (M' := M) rfl ?_
    refine yR.ret _ rfl rfl rfl ?_
    exact ⟨by rw [hv0 (by simp; omega)], rfl⟩
  · have q1' : ¬ x.toInt < 0 := zcF q1 rfl rfl
    refine yR.adv 1 (pc' := 65) (lv' := [(0, .ref 93), (1, .int x), (2, .int y), (3, .int q)]) (st' := [.int y]) (M' := M) rfl ?_
    refine yR.if1 .lt _ _ _ _ rfl (fun q2 => ?_) (fun q2 => ?_)
    · have q2' : y.toInt < 0 := zcT q2 rfl rfl
      refine yR.adv 1 (pc' := 80) (lv' := [(0, .ref 93), (1, .int x), (2, .int y), (3, .int q)]) (st' := [.int 0]) (M' := M) rfl ?_
      refine yR.ret _ rfl rfl rfl ?_
      exact ⟨by rw [hv0 (by simp; omega)], rfl⟩
    · have q2' : ¬ y.toInt < 0 := zcF q2 rfl rfl
      have ts : (x + y).toInt = x.toInt + y.toInt := by rw [← iI_of x, ← iI_of y, iI_add, iI_of, iI_of]; exact iI_toInt (by omega)
      refine yR.adv 4 (pc' := 72) (lv' := [(0, .ref 93), (1, .int x), (2, .int y), (3, .int q)]) (st' := [.int q, .int (x + y)]) (M' := M) rfl ?_
      refine yR.if2 .gt _ _ _ _ rfl (fun q3 => ?_) (fun q3 => ?_)
      · have q3' : q.toInt < x.toInt + y.toInt := zcT q3 ts rfl
        refine yR.adv 1 (pc' := 80) (lv' := [(0, .ref 93), (1, .int x), (2, .int y), (3, .int q)]) (st' := [.int 0]) (M' := M) rfl ?_
        refine yR.ret _ rfl rfl rfl ?_
        exact ⟨by rw [hv0 (by simp; omega)], rfl⟩
      · have q3' : ¬ q.toInt < x.toInt + y.toInt := zcF q3 ts rfl
        refine yR.adv 2 (pc' := 80) (lv' := [(0, .ref 93), (1, .int x), (2, .int y), (3, .int q)]) (st' := [.int 1]) (M' := M) rfl ?_
        refine yR.ret _ rfl rfl rfl ?_
        exact ⟨by rw [hv1 (by simp; omega)], rfl⟩
theorem r_isIn_2 (M : zMm) (hm : M.1 93 4 = 2) (q x y : Int32) (hx : x.toInt.natAbs ≤ 2 ^ 20) (hy : y.toInt.natAbs ≤ 2 ^ 20) (v : Int32) (hv : (zdom 2 q.toInt x.toInt y.toInt ∧ v = 1) ∨ (¬ zdom 2 q.toInt x.toInt y.toInt ∧ v = 0)) : yOk 120 0 [(0, .ref 93), (1, .int x), (2, .int y), (3, .int q)] [] M (some (.int v)) M := by
  refine yR.ok ?_
  have tx : x.toInt64.toInt = x.toInt := Int32.toInt_toInt64 x
  have ty : y.toInt64.toInt = y.toInt := Int32.toInt_toInt64 y
  have tq : q.toInt64.toInt = q.toInt := Int32.toInt_toInt64 q
  have hv1 : zdom 2 q.toInt x.toInt y.toInt → v = 1 := fun h => hv.elim (fun p => p.2) (fun p => absurd h p.1)
  have hv0 : ¬ zdom 2 q.toInt x.toInt y.toInt → v = 0 := fun h => hv.elim (fun p => absurd p.1 h) (fun p => p.2)
  simp only [zdom] at hv1 hv0
  refine yR.adv 2 (pc' := 4) (lv' := [(0, .ref 93), (1, .int x), (2, .int y), (3, .int q)]) (st' := [.int (M.1 93 4)]) (M' := M) rfl ?_
  rw [hm]
  refine yR.adv 1 (pc' := 81) (lv' := [(0, .ref 93), (1, .int x), (2, .int y), (3, .int q)]) (st' := []) (M' := M) rfl ?_
  refine yR.adv 2 (pc' := 83) (lv' := [(0, .ref 93), (1, .int x), (2, .int y), (3, .int q)]) (st' := [.long x.toInt64]) (M' := M) rfl ?_
  refine yR.callK (M1 := M) _ rfl rfl rfl rfl rfl (r_size M x.toInt64 (by rw [tx]; omega)) ?_
  show yR 120 86 [(0, .ref 93), (1, .int x), (2, .int y), (3, .int q)] [.long (zNl x.toInt64.toInt.natAbs)] M _
  rw [tx]
  refine yR.adv 2 (pc' := 88) (lv' := [(0, .ref 93), (1, .int x), (2, .int y), (3, .int q)]) (st' := [.long y.toInt64, .long (zNl x.toInt.natAbs)]) (M' := M) rfl ?_
  refine yR.callK (M1 := M) _ rfl rfl rfl rfl rfl (r_size M y.toInt64 (by rw [ty]; omega)) ?_
  show yR 120 91 [(0, .ref 93), (1, .int x), (2, .int y), (3, .int q)] [.long (zNl y.toInt64.toInt.natAbs), .long (zNl x.toInt.natAbs)] M _
  rw [ty]
  have ts : (zNl x.toInt.natAbs + zNl y.toInt.natAbs).toInt = (x.toInt.natAbs : Int) + (y.toInt.natAbs : Int) := by
    have h1 := zadd_ok (x := zNl x.toInt.natAbs) (y := zNl y.toInt.natAbs) (A := 2 ^ 20) (B := 2 ^ 20) (by rw [zNl_toInt (by omega)]; omega) (by rw [zNl_toInt (by omega)]; omega) (by decide)
    rw [h1.1, zNl_toInt (by omega), zNl_toInt (by omega)]
  refine yR.adv 4 (pc' := 95) (lv' := [(0, .ref 93), (1, .int x), (2, .int y), (3, .int q)]) (st' := [.int (lg_cmp ((zNl x.toInt.natAbs) + (zNl y.toInt.natAbs)) q.toInt64)]) (M' := M) rfl ?_
  refine yR.if1 .gt _ _ _ _ rfl (fun q1 => ?_) (fun q1 => ?_)
  · have q1' : q.toInt < (x.toInt.natAbs : Int) + (y.toInt.natAbs : Int) := zlT q1 ts tq
    refine yR.adv 1 (pc' := 103) (lv' := [(0, .ref 93), (1, .int x), (2, .int y), (3, .int q)]) (st' := [.int 0]) (M' := M) rfl ?_
    refine yR.ret _ rfl rfl rfl ?_
    exact ⟨by rw [hv0 (by simp; omega)], rfl⟩
  · have q1' : ¬ q.toInt < (x.toInt.natAbs : Int) + (y.toInt.natAbs : Int) := zlF q1 ts tq
    refine yR.adv 2 (pc' := 103) (lv' := [(0, .ref 93), (1, .int x), (2, .int y), (3, .int q)]) (st' := [.int 1]) (M' := M) rfl ?_
    refine yR.ret _ rfl rfl rfl ?_
    exact ⟨by rw [hv1 (by simp; omega)], rfl⟩
theorem r_isIn (M : zMm) (dom : Nat) (hdom : dom < 3) (hm : M.1 93 4 = nI dom) (q x y : Int32) (hx : x.toInt.natAbs ≤ 2 ^ 20) (hy : y.toInt.natAbs ≤ 2 ^ 20) (v : Int32) (hv : (zdom dom q.toInt x.toInt y.toInt ∧ v = 1) ∨ (¬ zdom dom q.toInt x.toInt y.toInt ∧ v = 0)) : yOk 120 0 [(0, .ref 93), (1, .int x), (2, .int y), (3, .int q)] [] M (some (.int v)) M := by
  have h : dom = 0 ∨ dom = 1 ∨ dom = 2 := by omega
  rcases h with rfl | rfl | rfl
  · exact r_isIn_0 M hm q x y hx hy v hv
  · exact r_isIn_1 M hm q x y hx hy v hv
  · exact r_isIn_2 M hm q x y hx hy v hv
theorem r_farOf (M : zMm) (dom : Nat) (hdom : dom < 3) (hm : M.1 93 4 = nI dom) (q a b : Int) : yOk 141 0 [(0, .ref 93), (1, .int (iI a)), (2, .int (iI b)), (3, .int (iI q))] [] M (some (.int (iI (zfar dom q (a, b))))) M := by
  refine yR.ok ?_
  refine yR.adv 16 (pc' := 19) (lv' := [(4, .int (((iI q) - (iI a)) - (iI b))), (0, .ref 93), (1, .int (iI a)), (2, .int (iI b)), (3, .int (iI q))]) (st' := [.int 1, .int (M.1 93 4), .int (((iI a) * (iI a)) + ((iI b) * (iI b)))]) (M' := M) rfl ?_
  rw [hm]
  refine yR.if2 .ne _ _ _ _ rfl (fun q1 => ?_) (fun q1 => ?_)
  · have q1' : ¬ (dom : Int) = 1 := zcT q1 (nI_toInt (by omega)) rfl
    refine yR.adv 2 (pc' := 32) (lv' := [(4, .int (((iI q) - (iI a)) - (iI b))), (0, .ref 93), (1, .int (iI a)), (2, .int (iI b)), (3, .int (iI q))]) (st' := [.int ((((iI a) * (iI a)) + ((iI b) * (iI b))) + 0)]) (M' := M) rfl ?_
    refine yR.ret _ rfl rfl rfl ?_
    refine ⟨?_, rfl⟩
    rw [show (0 : Int32) = iI 0 from rfl, iI_mul, iI_mul, iI_add, iI_add]
    unfold zfar zz
    rw [if_neg (by omega)]
    simp
  · have q1' : ¬ ¬ (dom : Int) = 1 := zcF q1 (nI_toInt (by omega)) rfl
    refine yR.adv 5 (pc' := 32) (lv' := [(4, .int (((iI q) - (iI a)) - (iI b))), (0, .ref 93), (1, .int (iI a)), (2, .int (iI b)), (3, .int (iI q))]) (st' := [.int ((((iI a) * (iI a)) + ((iI b) * (iI b))) + ((((iI q) - (iI a)) - (iI b)) * (((iI q) - (iI a)) - (iI b))))]) (M' := M) rfl ?_
    refine yR.ret _ rfl rfl rfl ?_
    refine ⟨?_, rfl⟩
    rw [iI_sub, iI_sub, iI_mul, iI_mul, iI_add, iI_mul, iI_add]
    unfold zfar zz
    rw [if_pos (by omega)]
theorem zpsR_len (dom q x y : Int32) : (zpsR dom q x y).length ≤ 8 := by unfold zpsR; split <;> exact Nat.le_of_ble_eq_true rfl
theorem r_orbitE (M : zMm) (dom q x y : Int32) (hm : M.1 93 4 = dom) : yR 119 0 [(0, .ref 93), (1, .int x), (2, .int y), (3, .int q)] [] M (fun r N => r = none ∧ zOrb 93 13 97 98 N (ofold [] (zpsM dom q x y)) ∧ zKp [97, 98] [(93, 13)] M N) := by
  have h := zfold_ok (c := 93) (f := 13) (ax := 97) (ay := 98) (by decide) (by decide) (by decide) (zpsR dom q x y) (zup M 93 13 0) [] (zOrb_nil M) (by have := zpsR_len dom q x y; simpa using this)
  exact yR.of (r_findOrbit M dom q x y hm) ⟨rfl, by rw [zps_same]; exact h.1, ((zKp.refl [97, 98] [(93, 13)] M).up (by simp)).trans h.2.E⟩
def zPR (dom : Nat) (q a b : Int) : Bool := zdomB dom q a b && decide ((zorb dom q (a, b))[0]? = some (iI a, iI b))
def zrowR (dom : Nat) (q a : Int) : Nat → Int → List (Int × Int)
  | 0, _ => []
  | d + 1, b => (if zPR dom q a b = true then [(a, b)] else []) ++ zrowR dom q a d (b + 1)
def zscanR (dom : Nat) (q : Int) (n : Nat) : Nat → Int → List (Int × Int)
  | 0, _ => []
  | d + 1, a => zrowR dom q a n (-q) ++ zscanR dom q n d (a + 1)
theorem zreps_same : ∀ dom, dom < 3 → ∀ q, q < 7 → zscanR dom (q : Nat) (2 * q + 1) (2 * q + 1) (-(q : Nat)) = zreps dom q := by decide +kernel
def zRp (dom : Nat) (q : Int) (M : zMm) (l : List (Int × Int)) : Prop := M.1 93 4 = nI dom ∧ M.1 93 29 = nI l.length ∧ ∀ s p, l[s]? = some p → M.1 110 s = iI p.1 ∧ M.1 111 s = iI p.2 ∧ M.1 112 s = nI (zorb dom q p).length ∧ M.1 113 s = iI (zfar dom q p)
theorem zRp.snoc {dom : Nat} {q : Int} {M N : zMm} {l : List (Int × Int)} {p : Int × Int} (h : zRp dom q M l) (e : zKp [97, 98] [(93, 13), (93, 29), (110, l.length), (111, l.length), (112, l.length), (113, l.length)] M N) (n2 : N.1 93 29 = nI (l.length + 1)) (n3 : N.1 110 l.length = iI p.1) (n4 : N.1 111 l.length = iI p.2) (n5 : N.1 112 l.length = nI (zorb dom q p).length) (n6 : N.1 113 l.length = iI (zfar dom q p)) : zRp dom q N (l ++ [p]) := by
  refine ⟨by rw [(e 93 4 (by decide) (by simp)).1]; exact h.1, by rw [n2, List.length_append]; rfl, fun s p' hs => ?_⟩
  by_cases hlt : s < l.length
  · rw [List.getElem?_append_left hlt] at hs
    obtain ⟨g1, g2, g3, g4⟩ := h.2.2 s p' hs
    have hne : s ≠ l.length := by omega
    refine ⟨?_, ?_, ?_, ?_⟩
    · rw [(e 110 s (by decide) (by simp [hne])).1]; exact g1
    · rw [(e 111 s (by decide) (by simp [hne])).1]; exact g2
    · rw [(e 112 s (by decide) (by simp [hne])).1]; exact g3
    · rw [(e 113 s (by decide) (by simp [hne])).1]; exact g4
  · have h2 : s = l.length := by
      have := (List.getElem?_eq_some_iff.mp hs).1
      rw [List.length_append] at this
      simp at this
      omega
    subst h2
    rw [List.getElem?_append_right (by omega)] at hs
    simp at hs
    subst hs
    exact ⟨n3, n4, n5, n6⟩
theorem r_reps_in {Q : Option Value → zMm → Prop} (M0 : zMm) (dom : Nat) (hdom : dom < 3) (q : Int) (hq : 1 ≤ q ∧ q ≤ 6) (a : Int) (ha : -6 ≤ a ∧ a ≤ 6) (L : List (Int × Int)) (K : ∀ M', zRp dom q M' L → zKp [97, 98, 110, 111, 112, 113] [(93, 13), (93, 29)] M0 M' → yR 142 129 [(0, .ref 93), (1, .int (iI q)), (2, .int (iI a))] [] M' Q) :
    ∀ (d : Nat) (b : Int) (M : zMm) (l : List (Int × Int)), b + d = q + 1 → -q ≤ b → zRp dom q M l → zKp [97, 98, 110, 111, 112, 113] [(93, 13), (93, 29)] M0 M → l ++ zrowR dom q a d b = L → L.length ≤ 28 → yR 142 16 [(0, .ref 93), (1, .int (iI q)), (2, .int (iI a)), (3, .int (iI b))] [] M Q := by
  intro d
  induction d using Nat.strongRecOn with
  | ind d ih =>
    intro b M l h hab hG hE hL h28
    have hlen : l.length ≤ 28 := by rw [← hL, List.length_append] at h28; omega
    have ta : (iI a).toInt = a := iI_toInt (by omega)
    have tb : (iI b).toInt = b := iI_toInt (by omega)
    have tq : (iI q).toInt = q := iI_toInt (by omega)
    refine yR.adv 2 (pc' := 18) (lv' := [(0, .ref 93), (1, .int (iI q)), (2, .int (iI a)), (3, .int (iI b))]) (st' := [.int (iI q), .int (iI b)]) (M' := M) rfl ?_
    refine yR.if2 .gt _ _ _ _ rfl (fun q1 => ?_) (fun q1 => ?_)
    · have q1' : q < b := zcT q1 tb tq
      have hd : d = 0 := by omega
      subst hd
      have hL' : L = l := by rw [← hL]; simp [zrowR]
      subst hL'
      exact (K M hG hE).drop (by refine ⟨?_, ?_⟩ <;> simp [zget, zwf])
    · have q1' : ¬ q < b := zcF q1 tb tq
      obtain ⟨d', rfl⟩ : ∃ d', d = d' + 1 := ⟨d - 1, by omega⟩
      have next : ∀ (M' : zMm) (l' : List (Int × Int)), l' = l ++ (if zPR dom q a b = true then [(a, b)] else []) → zRp dom q M' l' → zKp [97, 98, 110, 111, 112, 113] [(93, 13), (93, 29)] M0 M' → yR 142 123 [(0, .ref 93), (1, .int (iI q)), (2, .int (iI a)), (3, .int (iI b))] [] M' Q := by
        intro M' l' hl' hG' hE'
        refine yR.adv 2 (pc' := 16) (lv' := [(3, .int (iI b + 1)), (0, .ref 93), (1, .int (iI q)), (2, .int (iI a))]) (st' := []) (M' := M') rfl ?_
        exact (ih d' (by omega) (b + 1) M' l' (by omega) (by omega) hG' hE' (by rw [hl', ← hL, List.append_assoc]; rfl) h28).drop (by refine ⟨?_, ?_⟩ <;> simp [zget, zwf, nI_succ, iI_1])
      obtain ⟨v, hv⟩ := zem (zdom dom (iI q).toInt (iI a).toInt (iI b).toInt)
      refine yR.adv 4 (pc' := 25) (lv' := [(0, .ref 93), (1, .int (iI q)), (2, .int (iI a)), (3, .int (iI b))]) (st' := [.int (iI q), .int (iI b), .int (iI a), .ref 93]) (M' := M) rfl ?_
      refine yR.callK (M1 := M) _ rfl rfl rfl rfl rfl (r_isIn M dom hdom hG.1 (iI q) (iI a) (iI b) (by rw [ta]; omega) (by rw [tb]; omega) v hv) ?_
      show yR 142 28 [(0, .ref 93), (1, .int (iI q)), (2, .int (iI a)), (3, .int (iI b))] [.int v] M _
      refine yR.if1 .ne _ _ _ _ rfl (fun q2 => ?_) (fun q2 => ?_)
      · have q2' := zne0 hv q2
        rw [ta, tb, tq] at q2'
        have hD := zdomB_iff.mpr q2'
        refine yR.adv 4 (pc' := 38) (lv' := [(0, .ref 93), (1, .int (iI q)), (2, .int (iI a)), (3, .int (iI b))]) (st' := [.int (iI q), .int (iI b), .int (iI a), .ref 93]) (M' := M) rfl ?_
        refine yR.call _ rfl rfl rfl rfl rfl (r_orbitE M (nI dom) (iI q) (iI a) (iI b) hG.1) (fun r1 M1 hq => ?_)
        obtain ⟨rfl, o1, e1⟩ := hq
        show yR 142 41 [(0, .ref 93), (1, .int (iI q)), (2, .int (iI a)), (3, .int (iI b))] [] M1 _
        have ho : ofold [] (zpsM (nI dom) (iI q) (iI a) (iI b)) = zorb dom q (a, b) := rfl
        rw [ho] at o1
        obtain ⟨p, hp1, hp2, hp3⟩ := o1.at (show 0 < (zorb dom q (a, b)).length from (zorb_len dom q (a, b)).1)
        have E1 : zKp [97, 98, 110, 111, 112, 113] [(93, 13), (93, 29)] M M1 := e1.mono (by simp <;> omega) (by simp <;> omega)
        have G1 : zRp dom q M1 l := ⟨by rw [(e1 93 4 (by decide) (by decide)).1]; exact hG.1, by rw [(e1 93 29 (by decide) (by decide)).1]; exact hG.2.1, fun s p hs => by rw [(e1 110 s (by decide) (by simp)).1, (e1 111 s (by decide) (by simp)).1, (e1 112 s (by decide) (by simp)).1, (e1 113 s (by decide) (by simp)).1]; exact hG.2.2 s p hs⟩
        have stay : ¬ p = (iI a, iI b) → yR 142 123 [(0, .ref 93), (1, .int (iI q)), (2, .int (iI a)), (3, .int (iI b))] [] M1 Q := fun hn => next M1 l (by
          have : zPR dom q a b = false := by unfold zPR; rw [hp1]; simp [hn]
          rw [this]; simp) G1 (hE.trans E1)
        refine yR.adv 5 (pc' := 48) (lv' := [(0, .ref 93), (1, .int (iI q)), (2, .int (iI a)), (3, .int (iI b))]) (st' := [.int (iI a), .int (M1.1 97 0)]) (M' := M1) rfl ?_
        rw [hp2]
        refine yR.if2 .ne _ _ _ _ rfl (fun q3 => ?_) (fun q3 => ?_)
        · exact stay (fun e => zne_t q3 (by rw [e]))
        · have q3' := zne_f q3
          refine yR.adv 5 (pc' := 58) (lv' := [(0, .ref 93), (1, .int (iI q)), (2, .int (iI a)), (3, .int (iI b))]) (st' := [.int (iI b), .int (M1.1 98 0)]) (M' := M1) rfl ?_
          rw [hp3]
          refine yR.if2 .eq _ _ _ _ rfl (fun q4 => ?_) (fun q4 => ?_)
          · have q4' := zeq_t q4
            have hpe : p = (iI a, iI b) := Prod.ext q3' q4'
            have hP : zPR dom q a b = true := by unfold zPR; rw [hp1, hD, hpe]; simp
            have h27 : l.length < 28 := by
              rw [← hL, List.length_append, zrowR, List.length_append, if_pos hP] at h28
              simp at h28
              omega
            have hx : M1.1 93 29 = nI l.length := G1.2.1
            refine yR.adv 5 (pc' := 73) (lv' := [(0, .ref 93), (1, .int (iI q)), (2, .int (iI a)), (3, .int (iI b))]) (st' := [.int (iI a), .int (M1.1 93 29), .ref 110]) (M' := M1) rfl ?_
            refine yR.iast l.length _ _ _ rfl rfl (by decide) (hx) (by omega) ?_
            generalize g2 : zup M1 110 l.length (iI a) = M2
            have s2 : M2.1 93 29 = nI l.length := by rw [← g2, zup_i, if_neg (by omega)]; exact hx
            refine yR.adv 5 (pc' := 83) (lv' := [(0, .ref 93), (1, .int (iI q)), (2, .int (iI a)), (3, .int (iI b))]) (st' := [.int (iI b), .int (M2.1 93 29), .ref 111]) (M' := M2) rfl ?_
            refine yR.iast l.length _ _ _ rfl rfl (by decide) (s2) (by omega) ?_
            generalize g3 : zup M2 111 l.length (iI b) = M3
            have s3 : M3.1 93 29 = nI l.length := by rw [← g3, zup_i, if_neg (by omega)]; exact s2
            have o3 : M3.1 93 13 = nI (zorb dom q (a, b)).length := by rw [← g3, ← g2, zup_i, if_neg (by omega), zup_i, if_neg (by omega)]; exact o1.1
            refine yR.adv 6 (pc' := 96) (lv' := [(0, .ref 93), (1, .int (iI q)), (2, .int (iI a)), (3, .int (iI b))]) (st' := [.int (M3.1 93 13), .int (M3.1 93 29), .ref 112]) (M' := M3) rfl ?_
            rw [o3]
            refine yR.iast l.length _ _ _ rfl rfl (by decide) (s3) (by omega) ?_
            generalize g4 : zup M3 112 l.length (nI (zorb dom q (a, b)).length) = M4
            have s4 : M4.1 93 29 = nI l.length := by rw [← g4, zup_i, if_neg (by omega)]; exact s3
            have m4 : M4.1 93 4 = nI dom := by rw [← g4, ← g3, ← g2, zup_i, if_neg (by omega), zup_i, if_neg (by omega), zup_i, if_neg (by omega)]; exact G1.1
            refine yR.adv 8 (pc' := 109) (lv' := [(0, .ref 93), (1, .int (iI q)), (2, .int (iI a)), (3, .int (iI b))]) (st' := [.int (iI q), .int (iI b), .int (iI a), .ref 93, .int (M4.1 93 29), .ref 113]) (M' := M4) rfl ?_
            refine yR.callK (M1 := M4) _ rfl rfl rfl rfl rfl (r_farOf M4 dom hdom m4 q a b) ?_
            show yR 142 112 [(0, .ref 93), (1, .int (iI q)), (2, .int (iI a)), (3, .int (iI b))] [.int (iI (zfar dom q (a, b))), .int (M4.1 93 29), .ref 113] M4 _
            refine yR.iast l.length _ _ _ rfl rfl (by decide) (s4) (by omega) ?_
            generalize g5 : zup M4 113 l.length (iI (zfar dom q (a, b))) = M5
            have s5 : M5.1 93 29 = nI l.length := by rw [← g5, zup_i, if_neg (by omega)]; exact s4
            refine yR.adv 6 (pc' := 123) (lv' := [(0, .ref 93), (1, .int (iI q)), (2, .int (iI a)), (3, .int (iI b))]) (st' := []) (M' := zup M5 93 29 ((M5.1 93 29) + 1)) rfl ?_
            rw [s5]
            generalize g6 : zup M5 93 29 (((nI l.length)) + 1) = M6
            have E6 : zKp [97, 98] [(93, 13), (93, 29), (110, l.length), (111, l.length), (112, l.length), (113, l.length)] M M6 := by
              rw [← g6, ← g5, ← g4, ← g3, ← g2]
              exact (((((e1.mono (by simp) (by simp)).up (by simp)).up (by simp)).up (by simp)).up (by simp)).up (by simp)
            have F6 : zKp [97, 98, 110, 111, 112, 113] [(93, 13), (93, 29)] M M6 := E6.mono (by simp <;> omega) (by simp <;> omega)
            refine next M6 (l ++ [(a, b)]) (by rw [if_pos hP]) (hG.snoc E6 ?_ ?_ ?_ ?_ ?_) (hE.trans F6)
            · rw [← g6, zup_i, if_pos ⟨rfl, rfl⟩, nI_succ]
            · rw [← g6, ← g5, ← g4, ← g3, ← g2]; simp [zup_i]
            · rw [← g6, ← g5, ← g4, ← g3]; simp [zup_i]
            · rw [← g6, ← g5, ← g4]; simp [zup_i]
            · rw [← g6, ← g5]; simp [zup_i]
          · have q4' := zeq_f q4
            refine yR.adv 1 (pc' := 123) (lv' := [(0, .ref 93), (1, .int (iI q)), (2, .int (iI a)), (3, .int (iI b))]) (st' := []) (M' := M1) rfl ?_
            exact stay (fun e => q4' (by rw [e]))
      · have q2' := zne1 hv q2
        rw [ta, tb, tq] at q2'
        refine yR.adv 1 (pc' := 123) (lv' := [(0, .ref 93), (1, .int (iI q)), (2, .int (iI a)), (3, .int (iI b))]) (st' := []) (M' := M) rfl ?_
        refine next M l ?_ hG hE
        have : zPR dom q a b = false := by unfold zPR; cases hb : zdomB dom q a b; rfl; exact absurd (zdomB_iff.mp hb) q2'
        rw [this]
        simp
theorem r_reps_out {Q : Option Value → zMm → Prop} (M0 : zMm) (dom : Nat) (hdom : dom < 3) (q : Int) (hq : 1 ≤ q ∧ q ≤ 6) (n : Nat) (hn : (n : Int) = 2 * q + 1) (L : List (Int × Int)) (h28 : L.length ≤ 28) (K : ∀ M', zRp dom q M' L → zKp [97, 98, 110, 111, 112, 113] [(93, 13), (93, 29)] M0 M' → yR 142 135 [(0, .ref 93)] [] M' Q) :
    ∀ (d : Nat) (a : Int) (M : zMm) (l : List (Int × Int)), a + d = q + 1 → -q ≤ a → zRp dom q M l → zKp [97, 98, 110, 111, 112, 113] [(93, 13), (93, 29)] M0 M → l ++ zscanR dom q n d a = L → yR 142 8 [(0, .ref 93), (1, .int (iI q)), (2, .int (iI a))] [] M Q := by
  intro d
  induction d using Nat.strongRecOn with
  | ind d ih =>
    intro a M l h hab hG hE hL
    refine yR.adv 2 (pc' := 10) (lv' := [(0, .ref 93), (1, .int (iI q)), (2, .int (iI a))]) (st' := [.int (iI q), .int (iI a)]) (M' := M) rfl ?_
    refine yR.if2 .gt _ _ _ _ rfl (fun q1 => ?_) (fun q1 => ?_)
    · have q1' : q < a := zcT q1 (iI_toInt (by omega)) (iI_toInt (by omega))
      have hd : d = 0 := by omega
      subst hd
      have hL' : L = l := by rw [← hL]; simp [zscanR]
      subst hL'
      exact (K M hG hE).drop (by refine ⟨?_, ?_⟩ <;> simp [zget, zwf])
    · have q1' : ¬ q < a := zcF q1 (iI_toInt (by omega)) (iI_toInt (by omega))
      obtain ⟨d', rfl⟩ : ∃ d', d = d' + 1 := ⟨d - 1, by omega⟩
      have hL2 : (l ++ zrowR dom q a n (-q)) ++ zscanR dom q n d' (a + 1) = L := by rw [← hL, List.append_assoc]; rfl
      refine yR.adv 3 (pc' := 16) (lv' := [(3, .int (-(iI q))), (0, .ref 93), (1, .int (iI q)), (2, .int (iI a))]) (st' := []) (M' := M) rfl ?_
      rw [iI_neg]
      refine yR.drop (lv := [(0, .ref 93), (1, .int (iI q)), (2, .int (iI a)), (3, .int (iI (-q)))]) (by refine ⟨?_, ?_⟩ <;> simp [zget, zwf]) ?_
      refine r_reps_in M0 dom hdom q hq a (by omega) (l ++ zrowR dom q a n (-q)) (fun M' hG' hE' => ?_) n (-q) M l (by omega) (by omega) hG hE rfl (by rw [← hL2, List.length_append] at h28; omega)
      refine yR.adv 2 (pc' := 8) (lv' := [(2, .int (iI a + 1)), (0, .ref 93), (1, .int (iI q))]) (st' := []) (M' := M') rfl ?_
      exact (ih d' (by omega) (a + 1) M' _ (by omega) (by omega) hG' hE' hL2).drop (by refine ⟨?_, ?_⟩ <;> simp [zget, zwf, nI_succ, iI_1])
theorem r_reps (M : zMm) (dom : Nat) (hdom : dom < 3) (q : Nat) (hq : 1 ≤ q ∧ q ≤ 6) (hm : M.1 93 4 = nI dom) : yR 142 0 [(0, .ref 93), (1, .int (iI q))] [] M (fun r N => r = none ∧ zRp dom q N (zreps dom q) ∧ zKp [97, 98, 110, 111, 112, 113] [(93, 13), (93, 29)] M N) := by
  refine yR.adv 3 (pc' := 5) (lv' := [(0, .ref 93), (1, .int (iI q))]) (st' := []) (M' := zup M 93 29 0) rfl ?_
  generalize g1 : zup M 93 29 0 = M1
  have E1 : zKp [97, 98, 110, 111, 112, 113] [(93, 13), (93, 29)] M M1 := by rw [← g1]; exact (zKp.refl _ _ M).up (by simp)
  have w1 : M1.1 93 29 = nI 0 := by rw [← g1]; simp [zup_i]; rfl
  have w0 : M1.1 93 4 = nI dom := by rw [← g1, zup_i, if_neg (by omega)]; exact hm
  refine yR.adv 3 (pc' := 8) (lv' := [(2, .int (-(iI q))), (0, .ref 93), (1, .int (iI q))]) (st' := []) (M' := M1) rfl ?_
  rw [iI_neg]
  have hl := zreps_len dom hdom q (by omega)
  refine yR.drop (lv := [(0, .ref 93), (1, .int (iI q)), (2, .int (iI (-(q : Int))))]) (by refine ⟨?_, ?_⟩ <;> simp [zget, zwf]) ?_
  refine r_reps_out M dom hdom q (by omega) (2 * q + 1) (by omega) (zreps dom q) hl (fun M' hG hE => ?_) (2 * q + 1) (-(q : Int)) M1 [] (by omega) (by omega) ⟨w0, w1, fun s p h => by simp at h⟩ E1 (by rw [List.nil_append]; exact zreps_same dom hdom q (by omega))
  refine yR.ret _ rfl rfl rfl ?_
  exact ⟨rfl, hG, hE⟩
