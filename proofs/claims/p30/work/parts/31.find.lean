/-! ===== which place it is: numberOf, placeAt; has, isPlace ===== -/
def zfnd (X Y : Nat → Int32) (x y : Int32) : Nat → Nat → Option Nat
  | 0, _ => none
  | d + 1, i => if X i = x ∧ Y i = y then some i else zfnd X Y x y d (i + 1)
def zfv (none' : Int32) (o : Option Nat) : Int32 := match o with
  | none => none'
  | some i => nI i
theorem zfnd_some {X Y : Nat → Int32} {x y : Int32} : ∀ {d i p : Nat}, zfnd X Y x y d i = some p → i ≤ p ∧ p < i + d ∧ X p = x ∧ Y p = y
  | 0, _, _, h => by cases h
  | d + 1, i, p, h => by
    unfold zfnd at h
    split at h
    · next hc =>
      obtain rfl := Option.some.inj h
      exact ⟨Nat.le_refl _, by omega, hc.1, hc.2⟩
    · obtain ⟨a1, a2, a3⟩ := zfnd_some h
      exact ⟨by omega, by omega, a3⟩
theorem m_numberOf_1_loop (M : zMm) (n : Nat) (hs : M.1 1 3 = nI n) (hn : n ≤ 24) (x y : Int32) : ∀ (d i : Nat), i + d = n → yOk 24 2 [(0, .ref 1), (1, .int x), (2, .int y), (3, .int (nI i))] [] M (some (.int (zfv (-1) (zfnd (M.1 2) (M.1 3) x y d i)))) M
  | 0, i, h => by
    refine yOk.adv 3 (pc' := 7) (lv' := [(0, .ref 1), (1, .int x), (2, .int y), (3, .int (nI i))]) (st' := [.int (M.1 1 3), .int (nI i)]) (M' := M) rfl ?_
    rw [hs]
    refine yOk.if2 .ge _ _ _ _ rfl (fun c1 => ?_) (fun c1 => ?_)
    · refine yOk.adv 1 (pc' := 39) (lv' := [(0, .ref 1), (1, .int x), (2, .int y), (3, .int (nI i))]) (st' := [.int (-1)]) (M' := M) rfl ?_
      exact yOk.ret _ rfl rfl rfl
    · exact absurd (zge_f c1) (nI_nlt (by omega) (by omega))
  | d + 1, i, h => by
    have ck : (nI i).toNatClampNeg = i := nI_clamp (by omega)
    have hin : zin (nI i) 24 = true := zin_nI (by omega) (by omega)
    have on : ¬ (M.1 2 i = x ∧ M.1 3 i = y) → yOk 24 32 [(0, .ref 1), (1, .int x), (2, .int y), (3, .int (nI i))] [] M (some (.int (zfv (-1) (zfnd (M.1 2) (M.1 3) x y (d + 1) i)))) M := by
      intro hn1
      unfold zfnd
      rw [if_neg hn1]
      refine yOk.adv 2 (pc' := 2) (lv' := [(3, .int (nI i + 1)), (0, .ref 1), (1, .int x), (2, .int y)]) (st' := []) (M' := M) rfl ?_
      have ih := m_numberOf_1_loop M n hs hn x y d (i + 1) (by omega)
      rw [nI_succ] at ih
      exact ih.drop (by refine ⟨?_, ?_⟩ <;> simp [zget, zwf])
    refine yOk.adv 3 (pc' := 7) (lv' := [(0, .ref 1), (1, .int x), (2, .int y), (3, .int (nI i))]) (st' := [.int (M.1 1 3), .int (nI i)]) (M' := M) rfl ?_
    rw [hs]
    refine yOk.if2 .ge _ _ _ _ rfl (fun c1 => ?_) (fun c1 => ?_)
    · exact absurd (nI_lt (show i < n by omega) (by omega)) (zge_t c1)
    · refine yOk.adv 3 (pc' := 15) (lv' := [(0, .ref 1), (1, .int x), (2, .int y), (3, .int (nI i))]) (st' := [.int (nI i), .ref 2]) (M' := M) rfl ?_
      refine yOk.iald _ _ _ rfl rfl (hin) ?_
      rw [ck]
      refine yOk.adv 1 (pc' := 17) (lv' := [(0, .ref 1), (1, .int x), (2, .int y), (3, .int (nI i))]) (st' := [.int x, .int (M.1 2 i)]) (M' := M) rfl ?_
      refine yOk.if2 .ne _ _ _ _ rfl (fun c2 => ?_) (fun c2 => ?_)
      · exact on (fun h => zne_t c2 h.1)
      · refine yOk.adv 3 (pc' := 25) (lv' := [(0, .ref 1), (1, .int x), (2, .int y), (3, .int (nI i))]) (st' := [.int (nI i), .ref 3]) (M' := M) rfl ?_
        refine yOk.iald _ _ _ rfl rfl (hin) ?_
        rw [ck]
        refine yOk.adv 1 (pc' := 27) (lv' := [(0, .ref 1), (1, .int x), (2, .int y), (3, .int (nI i))]) (st' := [.int y, .int (M.1 3 i)]) (M' := M) rfl ?_
        refine yOk.if2 .ne _ _ _ _ rfl (fun c3 => ?_) (fun c3 => ?_)
        · exact on (fun h => zne_t c3 h.2)
        · unfold zfnd
          rw [if_pos ⟨zne_f c2, zne_f c3⟩]
          refine yOk.adv 1 (pc' := 31) (lv' := [(0, .ref 1), (1, .int x), (2, .int y), (3, .int (nI i))]) (st' := [.int (nI i)]) (M' := M) rfl ?_
          exact yOk.ret _ rfl rfl rfl
theorem m_numberOf_1 (M : zMm) (n : Nat) (hs : M.1 1 3 = nI n) (hn : n ≤ 24) (x y : Int32) : yOk 24 0 [(0, .ref 1), (1, .int x), (2, .int y)] [] M (some (.int (zfv (-1) (zfnd (M.1 2) (M.1 3) x y n 0)))) M := by
  refine yOk.adv 2 (pc' := 2) (lv' := [(3, .int 0), (0, .ref 1), (1, .int x), (2, .int y)]) (st' := []) (M' := M) rfl ?_
  exact (m_numberOf_1_loop M n hs hn x y n 0 (by omega)).drop (by refine ⟨?_, ?_⟩ <;> simp [zget, zwf, nI])
theorem m_numberOf_5_loop (M : zMm) (n : Nat) (hs : M.1 5 3 = nI n) (hn : n ≤ 24) (x y : Int32) : ∀ (d i : Nat), i + d = n → yOk 24 2 [(0, .ref 5), (1, .int x), (2, .int y), (3, .int (nI i))] [] M (some (.int (zfv (-1) (zfnd (M.1 6) (M.1 7) x y d i)))) M
  | 0, i, h => by
    refine yOk.adv 3 (pc' := 7) (lv' := [(0, .ref 5), (1, .int x), (2, .int y), (3, .int (nI i))]) (st' := [.int (M.1 5 3), .int (nI i)]) (M' := M) rfl ?_
    rw [hs]
    refine yOk.if2 .ge _ _ _ _ rfl (fun c1 => ?_) (fun c1 => ?_)
    · refine yOk.adv 1 (pc' := 39) (lv' := [(0, .ref 5), (1, .int x), (2, .int y), (3, .int (nI i))]) (st' := [.int (-1)]) (M' := M) rfl ?_
      exact yOk.ret _ rfl rfl rfl
    · exact absurd (zge_f c1) (nI_nlt (by omega) (by omega))
  | d + 1, i, h => by
    have ck : (nI i).toNatClampNeg = i := nI_clamp (by omega)
    have hin : zin (nI i) 24 = true := zin_nI (by omega) (by omega)
    have on : ¬ (M.1 6 i = x ∧ M.1 7 i = y) → yOk 24 32 [(0, .ref 5), (1, .int x), (2, .int y), (3, .int (nI i))] [] M (some (.int (zfv (-1) (zfnd (M.1 6) (M.1 7) x y (d + 1) i)))) M := by
      intro hn1
      unfold zfnd
      rw [if_neg hn1]
      refine yOk.adv 2 (pc' := 2) (lv' := [(3, .int (nI i + 1)), (0, .ref 5), (1, .int x), (2, .int y)]) (st' := []) (M' := M) rfl ?_
      have ih := m_numberOf_5_loop M n hs hn x y d (i + 1) (by omega)
      rw [nI_succ] at ih
      exact ih.drop (by refine ⟨?_, ?_⟩ <;> simp [zget, zwf])
    refine yOk.adv 3 (pc' := 7) (lv' := [(0, .ref 5), (1, .int x), (2, .int y), (3, .int (nI i))]) (st' := [.int (M.1 5 3), .int (nI i)]) (M' := M) rfl ?_
    rw [hs]
    refine yOk.if2 .ge _ _ _ _ rfl (fun c1 => ?_) (fun c1 => ?_)
    · exact absurd (nI_lt (show i < n by omega) (by omega)) (zge_t c1)
    · refine yOk.adv 3 (pc' := 15) (lv' := [(0, .ref 5), (1, .int x), (2, .int y), (3, .int (nI i))]) (st' := [.int (nI i), .ref 6]) (M' := M) rfl ?_
      refine yOk.iald _ _ _ rfl rfl (hin) ?_
      rw [ck]
      refine yOk.adv 1 (pc' := 17) (lv' := [(0, .ref 5), (1, .int x), (2, .int y), (3, .int (nI i))]) (st' := [.int x, .int (M.1 6 i)]) (M' := M) rfl ?_
      refine yOk.if2 .ne _ _ _ _ rfl (fun c2 => ?_) (fun c2 => ?_)
      · exact on (fun h => zne_t c2 h.1)
      · refine yOk.adv 3 (pc' := 25) (lv' := [(0, .ref 5), (1, .int x), (2, .int y), (3, .int (nI i))]) (st' := [.int (nI i), .ref 7]) (M' := M) rfl ?_
        refine yOk.iald _ _ _ rfl rfl (hin) ?_
        rw [ck]
        refine yOk.adv 1 (pc' := 27) (lv' := [(0, .ref 5), (1, .int x), (2, .int y), (3, .int (nI i))]) (st' := [.int y, .int (M.1 7 i)]) (M' := M) rfl ?_
        refine yOk.if2 .ne _ _ _ _ rfl (fun c3 => ?_) (fun c3 => ?_)
        · exact on (fun h => zne_t c3 h.2)
        · unfold zfnd
          rw [if_pos ⟨zne_f c2, zne_f c3⟩]
          refine yOk.adv 1 (pc' := 31) (lv' := [(0, .ref 5), (1, .int x), (2, .int y), (3, .int (nI i))]) (st' := [.int (nI i)]) (M' := M) rfl ?_
          exact yOk.ret _ rfl rfl rfl
theorem m_numberOf_5 (M : zMm) (n : Nat) (hs : M.1 5 3 = nI n) (hn : n ≤ 24) (x y : Int32) : yOk 24 0 [(0, .ref 5), (1, .int x), (2, .int y)] [] M (some (.int (zfv (-1) (zfnd (M.1 6) (M.1 7) x y n 0)))) M := by
  refine yOk.adv 2 (pc' := 2) (lv' := [(3, .int 0), (0, .ref 5), (1, .int x), (2, .int y)]) (st' := []) (M' := M) rfl ?_
  exact (m_numberOf_5_loop M n hs hn x y n 0 (by omega)).drop (by refine ⟨?_, ?_⟩ <;> simp [zget, zwf, nI])
theorem r_placeAt_loop (M : zMm) (n : Nat) (hs : M.1 93 7 = nI n) (hn : n ≤ 24) (x y : Int32) : ∀ (d i : Nat), i + d = n → yOk 121 2 [(0, .ref 93), (1, .int x), (2, .int y), (3, .int (nI i))] [] M (some (.int (zfv (-9) (zfnd (M.1 94) (M.1 95) x y d i)))) M
  | 0, i, h => by
    refine yOk.adv 3 (pc' := 7) (lv' := [(0, .ref 93), (1, .int x), (2, .int y), (3, .int (nI i))]) (st' := [.int (M.1 93 7), .int (nI i)]) (M' := M) rfl ?_
    rw [hs]
    refine yOk.if2 .ge _ _ _ _ rfl (fun c1 => ?_) (fun c1 => ?_)
    · refine yOk.adv 1 (pc' := 40) (lv' := [(0, .ref 93), (1, .int x), (2, .int y), (3, .int (nI i))]) (st' := [.int (-9)]) (M' := M) rfl ?_
      exact yOk.ret _ rfl rfl rfl
    · exact absurd (zge_f c1) (nI_nlt (by omega) (by omega))
  | d + 1, i, h => by
    have ck : (nI i).toNatClampNeg = i := nI_clamp (by omega)
    have hin : zin (nI i) 24 = true := zin_nI (by omega) (by omega)
    have on : ¬ (M.1 94 i = x ∧ M.1 95 i = y) → yOk 121 32 [(0, .ref 93), (1, .int x), (2, .int y), (3, .int (nI i))] [] M (some (.int (zfv (-9) (zfnd (M.1 94) (M.1 95) x y (d + 1) i)))) M := by
      intro hn1
      unfold zfnd
      rw [if_neg hn1]
      refine yOk.adv 2 (pc' := 2) (lv' := [(3, .int (nI i + 1)), (0, .ref 93), (1, .int x), (2, .int y)]) (st' := []) (M' := M) rfl ?_
      have ih := r_placeAt_loop M n hs hn x y d (i + 1) (by omega)
      rw [nI_succ] at ih
      exact ih.drop (by refine ⟨?_, ?_⟩ <;> simp [zget, zwf])
    refine yOk.adv 3 (pc' := 7) (lv' := [(0, .ref 93), (1, .int x), (2, .int y), (3, .int (nI i))]) (st' := [.int (M.1 93 7), .int (nI i)]) (M' := M) rfl ?_
    rw [hs]
    refine yOk.if2 .ge _ _ _ _ rfl (fun c1 => ?_) (fun c1 => ?_)
    · exact absurd (nI_lt (show i < n by omega) (by omega)) (zge_t c1)
    · refine yOk.adv 3 (pc' := 15) (lv' := [(0, .ref 93), (1, .int x), (2, .int y), (3, .int (nI i))]) (st' := [.int (nI i), .ref 94]) (M' := M) rfl ?_
      refine yOk.iald _ _ _ rfl rfl (hin) ?_
      rw [ck]
      refine yOk.adv 1 (pc' := 17) (lv' := [(0, .ref 93), (1, .int x), (2, .int y), (3, .int (nI i))]) (st' := [.int x, .int (M.1 94 i)]) (M' := M) rfl ?_
      refine yOk.if2 .ne _ _ _ _ rfl (fun c2 => ?_) (fun c2 => ?_)
      · exact on (fun h => zne_t c2 h.1)
      · refine yOk.adv 3 (pc' := 25) (lv' := [(0, .ref 93), (1, .int x), (2, .int y), (3, .int (nI i))]) (st' := [.int (nI i), .ref 95]) (M' := M) rfl ?_
        refine yOk.iald _ _ _ rfl rfl (hin) ?_
        rw [ck]
        refine yOk.adv 1 (pc' := 27) (lv' := [(0, .ref 93), (1, .int x), (2, .int y), (3, .int (nI i))]) (st' := [.int y, .int (M.1 95 i)]) (M' := M) rfl ?_
        refine yOk.if2 .ne _ _ _ _ rfl (fun c3 => ?_) (fun c3 => ?_)
        · exact on (fun h => zne_t c3 h.2)
        · unfold zfnd
          rw [if_pos ⟨zne_f c2, zne_f c3⟩]
          refine yOk.adv 1 (pc' := 31) (lv' := [(0, .ref 93), (1, .int x), (2, .int y), (3, .int (nI i))]) (st' := [.int (nI i)]) (M' := M) rfl ?_
          exact yOk.ret _ rfl rfl rfl
theorem r_placeAt (M : zMm) (n : Nat) (hs : M.1 93 7 = nI n) (hn : n ≤ 24) (x y : Int32) : yOk 121 0 [(0, .ref 93), (1, .int x), (2, .int y)] [] M (some (.int (zfv (-9) (zfnd (M.1 94) (M.1 95) x y n 0)))) M := by
  refine yOk.adv 2 (pc' := 2) (lv' := [(3, .int 0), (0, .ref 93), (1, .int x), (2, .int y)]) (st' := []) (M' := M) rfl ?_
  exact (r_placeAt_loop M n hs hn x y n 0 (by omega)).drop (by refine ⟨?_, ?_⟩ <;> simp [zget, zwf, nI])
theorem m_has (M : zMm) (n : Nat) (hs : M.1 1 3 = nI n) (hn : n ≤ 24) (p : Int32) (v : Int32) (hv : ((0 ≤ p.toInt ∧ p.toInt < n) ∧ v = 1) ∨ (¬ (0 ≤ p.toInt ∧ p.toInt < n) ∧ v = 0)) : yOk 22 0 [(0, .ref 1), (1, .int p)] [] M (some (.int v)) M := by
  have no : ¬ (0 ≤ p.toInt ∧ p.toInt < n) → yOk 22 16 [(0, .ref 1), (1, .int p)] [] M (some (.int v)) M := by
    intro h
    have : v = 0 := hv.elim (fun z => absurd z.1 h) (fun z => z.2)
    subst this
    refine yOk.adv 1 (pc' := 17) (lv' := [(0, .ref 1), (1, .int p)]) (st' := [.int 0]) (M' := M) rfl ?_
    exact yOk.ret _ rfl rfl rfl
  refine yOk.adv 1 (pc' := 1) (lv' := [(0, .ref 1), (1, .int p)]) (st' := [.int p]) (M' := M) rfl ?_
  refine yOk.if1 .lt _ _ _ _ rfl (fun c1 => ?_) (fun c1 => ?_)
  · exact no (fun h => by have := i32_lt.mp (zlt_t c1); have e : (0 : Int32).toInt = 0 := rfl; omega)
  · have h0 : 0 ≤ p.toInt := Classical.byContradiction fun hh => zlt_f c1 (i32_lt.mpr (by have e : (0 : Int32).toInt = 0 := rfl; omega))
    have hnt : (nI n).toInt = n := nI_toInt (by omega)
    refine yOk.adv 3 (pc' := 9) (lv' := [(0, .ref 1), (1, .int p)]) (st' := [.int (M.1 1 3), .int p]) (M' := M) rfl ?_
    rw [hs]
    refine yOk.if2 .ge _ _ _ _ rfl (fun c2 => ?_) (fun c2 => ?_)
    · exact no (fun h => zge_t c2 (i32_lt.mpr (by omega)))
    · have h1 := i32_lt.mp (zge_f c2)
      have : v = 1 := hv.elim (fun z => z.2) (fun z => absurd ⟨h0, by omega⟩ z.1)
      subst this
      refine yOk.adv 2 (pc' := 17) (lv' := [(0, .ref 1), (1, .int p)]) (st' := [.int 1]) (M' := M) rfl ?_
      exact yOk.ret _ rfl rfl rfl
theorem r_isPlace (M : zMm) (n : Nat) (hs : M.1 93 7 = nI n) (hn : n ≤ 24) (p : Int32) (v : Int32) (hv : ((0 ≤ p.toInt ∧ p.toInt < n) ∧ v = 1) ∨ (¬ (0 ≤ p.toInt ∧ p.toInt < n) ∧ v = 0)) : yOk 108 0 [(0, .ref 93), (1, .int p)] [] M (some (.int v)) M := by
  have no : ¬ (0 ≤ p.toInt ∧ p.toInt < n) → yOk 108 16 [(0, .ref 93), (1, .int p)] [] M (some (.int v)) M := by
    intro h
    have : v = 0 := hv.elim (fun z => absurd z.1 h) (fun z => z.2)
    subst this
    refine yOk.adv 1 (pc' := 17) (lv' := [(0, .ref 93), (1, .int p)]) (st' := [.int 0]) (M' := M) rfl ?_
    exact yOk.ret _ rfl rfl rfl
  refine yOk.adv 1 (pc' := 1) (lv' := [(0, .ref 93), (1, .int p)]) (st' := [.int p]) (M' := M) rfl ?_
  refine yOk.if1 .lt _ _ _ _ rfl (fun c1 => ?_) (fun c1 => ?_)
  · exact no (fun h => by have := i32_lt.mp (zlt_t c1); have e : (0 : Int32).toInt = 0 := rfl; omega)
  · have h0 : 0 ≤ p.toInt := Classical.byContradiction fun hh => zlt_f c1 (i32_lt.mpr (by have e : (0 : Int32).toInt = 0 := rfl; omega))
    have hnt : (nI n).toInt = n := nI_toInt (by omega)
    refine yOk.adv 3 (pc' := 9) (lv' := [(0, .ref 93), (1, .int p)]) (st' := [.int (M.1 93 7), .int p]) (M' := M) rfl ?_
    rw [hs]
    refine yOk.if2 .ge _ _ _ _ rfl (fun c2 => ?_) (fun c2 => ?_)
    · exact no (fun h => zge_t c2 (i32_lt.mpr (by omega)))
    · have h1 := i32_lt.mp (zge_f c2)
      have : v = 1 := hv.elim (fun z => z.2) (fun z => absurd ⟨h0, by omega⟩ z.1)
      subst this
      refine yOk.adv 2 (pc' := 17) (lv' := [(0, .ref 93), (1, .int p)]) (st' := [.int 1]) (M' := M) rfl ?_
      exact yOk.ret _ rfl rfl rfl
