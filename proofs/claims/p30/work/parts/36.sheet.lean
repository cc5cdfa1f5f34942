/-! ===== sheets: the small methods ===== -/
def zfil (M : zMm) (a n : Nat) (x : Int32) : zMm := (fun a' i' => if a' = a ∧ i' < n then x else M.1 a' i', M.2)
theorem zfil_0 (M : zMm) (a : Nat) (x : Int32) : zfil M a 0 x = M := by
  unfold zfil
  have : (fun a' i' => if a' = a ∧ i' < 0 then x else M.1 a' i') = M.1 := by
    funext a' i'
    rw [if_neg (by omega)]
  rw [this]
theorem zfil_s (M : zMm) (a n : Nat) (x : Int32) : zup (zfil M a n x) a n x = zfil M a (n + 1) x := by
  unfold zup zfil
  congr 1
  funext a' i'
  dsimp only
  by_cases h1 : a' = a ∧ i' = n
  · rw [if_pos h1, if_pos ⟨h1.1, by omega⟩]
  · rw [if_neg h1]
    by_cases h2 : a' = a ∧ i' < n
    · rw [if_pos h2, if_pos ⟨h2.1, by omega⟩]
    · rw [if_neg h2, if_neg (fun q => h2 ⟨q.1, Classical.byContradiction fun hh => h1 ⟨q.1, by omega⟩⟩)]
theorem m_failed (M : zMm) (f : Int32) : yOk 73 0 [(0, .ref 0), (1, .int f)] [] M (some (.int (-10 - f))) (zup M 0 14 f) := by
  refine yOk.adv 6 (pc' := 9) (lv' := [(0, .ref 0), (1, .int f)]) (st' := [.int ((-10) - f)]) (M' := zup M 0 14 f) rfl ?_
  exact yOk.ret _ rfl rfl rfl
theorem r_fails (M : zMm) (f : Int32) : yOk 98 0 [(0, .ref 93), (1, .int f)] [] M (some (.int (-10 - f))) (zup M 93 0 f) := by
  refine yOk.adv 6 (pc' := 9) (lv' := [(0, .ref 93), (1, .int f)]) (st' := [.int ((-10) - f)]) (M' := zup M 93 0 f) rfl ?_
  exact yOk.ret _ rfl rfl rfl
theorem r_lost (M : zMm) (f : Int32) : yOk 99 0 [(0, .ref 93), (1, .int f)] [] M (some (.long zlost)) (zup M 93 0 f) := by
  refine yOk.adv 4 (pc' := 8) (lv' := [(0, .ref 93), (1, .int f)]) (st' := [.long (-9223372036854775808)]) (M' := zup M 93 0 f) rfl ?_
  exact yOk.ret _ rfl rfl rfl
theorem m_fill_86_loop (M : zMm) (x : Int32) : ∀ (d i : Nat), i + d = 72 → yOk 165 5 [(0, .ref 86), (1, .int x), (2, .int (nI i)), (3, .int 72)] [] (zfil M 86 i x) none (zfil M 86 72 x)
  | 0, i, h => by
    have : i = 72 := by omega
    subst this
    refine yOk.adv 2 (pc' := 7) (lv' := [(0, .ref 86), (1, .int x), (2, .int (nI 72)), (3, .int 72)]) (st' := [.int 72, .int (nI 72)]) (M' := zfil M 86 72 x) rfl ?_
    refine yOk.if2 .ge _ _ _ _ rfl (fun c1 => ?_) (fun c1 => ?_)
    · exact yOk.ret _ rfl rfl rfl
    · exact absurd c1 (by decide)
  | d + 1, i, h => by
    have ck : (nI i).toNatClampNeg = i := nI_clamp (by omega)
    have hin : zin (nI i) 72 = true := zin_nI (by omega) (by omega)
    refine yOk.adv 2 (pc' := 7) (lv' := [(0, .ref 86), (1, .int x), (2, .int (nI i)), (3, .int 72)]) (st' := [.int 72, .int (nI i)]) (M' := zfil M 86 i x) rfl ?_
    refine yOk.if2 .ge _ _ _ _ rfl (fun c1 => ?_) (fun c1 => ?_)
    · exact absurd (nI_lt (show i < 72 by omega) (by omega)) (zge_t c1)
    · refine yOk.adv 3 (pc' := 13) (lv' := [(0, .ref 86), (1, .int x), (2, .int (nI i)), (3, .int 72)]) (st' := [.int x, .int (nI i), .ref 86]) (M' := zfil M 86 i x) rfl ?_
      refine yOk.iast _ _ _ rfl rfl (hin) ?_
      rw [ck, zfil_s]
      refine yOk.adv 2 (pc' := 5) (lv' := [(2, .int (nI i + 1)), (0, .ref 86), (1, .int x), (3, .int 72)]) (st' := []) (M' := zfil M 86 (i + 1) x) rfl ?_
      have ih := m_fill_86_loop M x d (i + 1) (by omega)
      rw [nI_succ] at ih
      exact ih.drop (by refine ⟨?_, ?_⟩ <;> simp [zget, zwf])
theorem m_fill_86 (M : zMm) (x : Int32) : yOk 165 0 [(0, .ref 86), (1, .int x)] [] M none (zfil M 86 72 x) := by
  refine yOk.adv 5 (pc' := 5) (lv' := [(3, .int 72), (2, .int 0), (0, .ref 86), (1, .int x)]) (st' := []) (M' := M) rfl ?_
  have h := m_fill_86_loop M x 72 0 rfl
  rw [zfil_0] at h
  exact h.drop (by refine ⟨?_, ?_⟩ <;> simp [zget, zwf, nI])
theorem m_renew_85 (M : zMm) (l n : Int32) : yOk 31 0 [(0, .ref 85), (1, .int l), (2, .int n)] [] M none (zfil (zup (zup M 85 0 l) 85 1 n) 86 72 0) := by
  refine yOk.adv 9 (pc' := 15) (lv' := [(0, .ref 85), (1, .int l), (2, .int n)]) (st' := [.int 0, .ref 86]) (M' := zup (zup M 85 0 l) 85 1 n) rfl ?_
  refine yOk.call (M1 := zfil (zup (zup M 85 0 l) 85 1 n) 86 72 0) _ rfl rfl rfl rfl rfl (m_fill_86 (zup (zup M 85 0 l) 85 1 n) 0) ?_
  show yOk 31 18 [(0, .ref 85), (1, .int l), (2, .int n)] [] (zfil (zup (zup M 85 0 l) 85 1 n) 86 72 0) _ _
  exact yOk.ret _ rfl rfl rfl
theorem m_empty_85 (M : zMm) : yOk 32 0 [(0, .ref 85)] [] M none (zup (zup M 85 0 (-1)) 85 1 0) := by
  refine yOk.adv 6 (pc' := 10) (lv' := [(0, .ref 85)]) (st' := []) (M' := zup (zup M 85 0 (-1)) 85 1 0) rfl ?_
  exact yOk.ret _ rfl rfl rfl
theorem m_hasNothing_85 (M : zMm) (v : Int32) (hv : (M.1 85 0 = -1 ∧ v = 1) ∨ (¬ M.1 85 0 = -1 ∧ v = 0)) : yOk 33 0 [(0, .ref 85)] [] M (some (.int v)) M := by
  refine yOk.adv 3 (pc' := 5) (lv' := [(0, .ref 85)]) (st' := [.int (-1), .int (M.1 85 0)]) (M' := M) rfl ?_
  refine yOk.if2 .ne _ _ _ _ rfl (fun c1 => ?_) (fun c1 => ?_)
  · have : v = 0 := hv.elim (fun z => absurd z.1 (zne_t c1)) (fun z => z.2)
    subst this
    refine yOk.adv 1 (pc' := 13) (lv' := [(0, .ref 85)]) (st' := [.int 0]) (M' := M) rfl ?_
    exact yOk.ret _ rfl rfl rfl
  · have : v = 1 := hv.elim (fun z => z.2) (fun z => absurd (zne_f c1) z.1)
    subst this
    refine yOk.adv 2 (pc' := 13) (lv' := [(0, .ref 85)]) (st' := [.int 1]) (M' := M) rfl ?_
    exact yOk.ret _ rfl rfl rfl
theorem m_otherLane_85 (M : zMm) (l : Int32) (v : Int32) (hv : ((¬ M.1 85 0 = -1 ∧ ¬ M.1 85 0 = l) ∧ v = 1) ∨ (¬ (¬ M.1 85 0 = -1 ∧ ¬ M.1 85 0 = l) ∧ v = 0)) : yOk 34 0 [(0, .ref 85), (1, .int l)] [] M (some (.int v)) M := by
  have no : ¬ (¬ M.1 85 0 = -1 ∧ ¬ M.1 85 0 = l) → yOk 34 20 [(0, .ref 85), (1, .int l)] [] M (some (.int v)) M := by
    intro h
    have : v = 0 := hv.elim (fun z => absurd z.1 h) (fun z => z.2)
    subst this
    refine yOk.adv 1 (pc' := 21) (lv' := [(0, .ref 85), (1, .int l)]) (st' := [.int 0]) (M' := M) rfl ?_
    exact yOk.ret _ rfl rfl rfl
  refine yOk.adv 3 (pc' := 5) (lv' := [(0, .ref 85), (1, .int l)]) (st' := [.int (-1), .int (M.1 85 0)]) (M' := M) rfl ?_
  refine yOk.if2 .eq _ _ _ _ rfl (fun c1 => ?_) (fun c1 => ?_)
  · exact no (fun h => h.1 (zeq_t c1))
  · refine yOk.adv 3 (pc' := 13) (lv' := [(0, .ref 85), (1, .int l)]) (st' := [.int l, .int (M.1 85 0)]) (M' := M) rfl ?_
    refine yOk.if2 .eq _ _ _ _ rfl (fun c2 => ?_) (fun c2 => ?_)
    · exact no (fun h => h.2 (zeq_t c2))
    · have : v = 1 := hv.elim (fun z => z.2) (fun z => absurd ⟨zeq_f c1, zeq_f c2⟩ z.1)
      subst this
      refine yOk.adv 2 (pc' := 21) (lv' := [(0, .ref 85), (1, .int l)]) (st' := [.int 1]) (M' := M) rfl ?_
      exact yOk.ret _ rfl rfl rfl
theorem m_hasCells_85 (M : zMm) (i : Int32) (m : Int64) (h1 : -2 ^ 40 ≤ m.toInt) (h2 : m.toInt ≤ 2 ^ 40) (v : Int32) (hv : ((m.toInt = 0 ∨ (0 ≤ i.toInt ∧ i.toInt + m.toInt ≤ (M.1 85 1).toInt)) ∧ v = 1) ∨ (¬ (m.toInt = 0 ∨ (0 ≤ i.toInt ∧ i.toInt + m.toInt ≤ (M.1 85 1).toInt)) ∧ v = 0)) : yOk 35 0 [(0, .ref 85), (1, .int i), (2, .long m)] [] M (some (.int v)) M := by
  have ei : i.toInt64.toInt = i.toInt := Kit.i64_of_i32 i
  have el : (M.1 85 1).toInt64.toInt = (M.1 85 1).toInt := Kit.i64_of_i32 _
  have i1 : i.toInt < 2 ^ 31 := Int32.toInt_lt i
  have i2 : -2 ^ 31 ≤ i.toInt := Int32.le_toInt i
  have es : (i.toInt64 + m).toInt = i.toInt + m.toInt := by rw [Kit.i64_add (by rw [ei]; omega) (by rw [ei]; omega), ei]
  have e0 : ((0 : Int32)).toInt = 0 := rfl
  have e00 : ((0 : Int64)).toInt = 0 := rfl
  have yes : (m.toInt = 0 ∨ (0 ≤ i.toInt ∧ i.toInt + m.toInt ≤ (M.1 85 1).toInt)) → yOk 35 23 [(0, .ref 85), (1, .int i), (2, .long m)] [] M (some (.int v)) M := by
    intro h
    have : v = 1 := hv.elim (fun z => z.2) (fun z => absurd h z.1)
    subst this
    refine yOk.adv 2 (pc' := 28) (lv' := [(0, .ref 85), (1, .int i), (2, .long m)]) (st' := [.int 1]) (M' := M) rfl ?_
    exact yOk.ret _ rfl rfl rfl
  have no : ¬ (m.toInt = 0 ∨ (0 ≤ i.toInt ∧ i.toInt + m.toInt ≤ (M.1 85 1).toInt)) → yOk 35 27 [(0, .ref 85), (1, .int i), (2, .long m)] [] M (some (.int v)) M := by
    intro h
    have : v = 0 := hv.elim (fun z => absurd z.1 h) (fun z => z.2)
    subst this
    refine yOk.adv 1 (pc' := 28) (lv' := [(0, .ref 85), (1, .int i), (2, .long m)]) (st' := [.int 0]) (M' := M) rfl ?_
    exact yOk.ret _ rfl rfl rfl
  have hz : lg_cmp m 0 = 0 ↔ m.toInt = 0 := by
    unfold lg_cmp
    constructor
    · intro h
      split at h
      · exact absurd h (by decide)
      · split at h
        · next hh => rw [hh]; rfl
        · exact absurd h (by decide)
    · intro h
      have : m = 0 := Int64.toInt_inj.mp (by rw [h]; rfl)
      subst this
      decide
  refine yOk.adv 3 (pc' := 3) (lv' := [(0, .ref 85), (1, .int i), (2, .long m)]) (st' := [.int (lg_cmp m 0)]) (M' := M) rfl ?_
  refine yOk.if1 .eq _ _ _ _ rfl (fun c1 => ?_) (fun c1 => ?_)
  · exact yes (Or.inl (hz.mp (zeq_t c1)))
  · have hm : ¬ m.toInt = 0 := fun h => zeq_f c1 (hz.mpr h)
    refine yOk.adv 1 (pc' := 7) (lv' := [(0, .ref 85), (1, .int i), (2, .long m)]) (st' := [.int i]) (M' := M) rfl ?_
    refine yOk.if1 .lt _ _ _ _ rfl (fun c2 => ?_) (fun c2 => ?_)
    · exact no (fun h => by have := i32_lt.mp (zlt_t c2); omega)
    · have hi : 0 ≤ i.toInt := Classical.byContradiction fun hh => zlt_f c2 (i32_lt.mpr (by omega))
      refine yOk.adv 8 (pc' := 20) (lv' := [(0, .ref 85), (1, .int i), (2, .long m)]) (st' := [.int (lg_cmp (i.toInt64 + m) ((M.1 85 1).toInt64))]) (M' := M) rfl ?_
      refine yOk.if1 .gt _ _ _ _ rfl (fun c3 => ?_) (fun c3 => ?_)
      · rw [zlc_gt] at c3
        have h3 := of_decide_eq_true c3
        rw [Int64.lt_iff_toInt_lt, es, el] at h3
        exact no (fun h => by omega)
      · rw [zlc_gt] at c3
        have h3 := of_decide_eq_false c3
        rw [Int64.lt_iff_toInt_lt, es, el] at h3
        exact yes (Or.inr ⟨hi, by omega⟩)
theorem m_fill_88_loop (M : zMm) (x : Int32) : ∀ (d i : Nat), i + d = 72 → yOk 165 5 [(0, .ref 88), (1, .int x), (2, .int (nI i)), (3, .int 72)] [] (zfil M 88 i x) none (zfil M 88 72 x)
  | 0, i, h => by
    have : i = 72 := by omega
    subst this
    refine yOk.adv 2 (pc' := 7) (lv' := [(0, .ref 88), (1, .int x), (2, .int (nI 72)), (3, .int 72)]) (st' := [.int 72, .int (nI 72)]) (M' := zfil M 88 72 x) rfl ?_
    refine yOk.if2 .ge _ _ _ _ rfl (fun c1 => ?_) (fun c1 => ?_)
    · exact yOk.ret _ rfl rfl rfl
    · exact absurd c1 (by decide)
  | d + 1, i, h => by
    have ck : (nI i).toNatClampNeg = i := nI_clamp (by omega)
    have hin : zin (nI i) 72 = true := zin_nI (by omega) (by omega)
    refine yOk.adv 2 (pc' := 7) (lv' := [(0, .ref 88), (1, .int x), (2, .int (nI i)), (3, .int 72)]) (st' := [.int 72, .int (nI i)]) (M' := zfil M 88 i x) rfl ?_
    refine yOk.if2 .ge _ _ _ _ rfl (fun c1 => ?_) (fun c1 => ?_)
    · exact absurd (nI_lt (show i < 72 by omega) (by omega)) (zge_t c1)
    · refine yOk.adv 3 (pc' := 13) (lv' := [(0, .ref 88), (1, .int x), (2, .int (nI i)), (3, .int 72)]) (st' := [.int x, .int (nI i), .ref 88]) (M' := zfil M 88 i x) rfl ?_
      refine yOk.iast _ _ _ rfl rfl (hin) ?_
      rw [ck, zfil_s]
      refine yOk.adv 2 (pc' := 5) (lv' := [(2, .int (nI i + 1)), (0, .ref 88), (1, .int x), (3, .int 72)]) (st' := []) (M' := zfil M 88 (i + 1) x) rfl ?_
      have ih := m_fill_88_loop M x d (i + 1) (by omega)
      rw [nI_succ] at ih
      exact ih.drop (by refine ⟨?_, ?_⟩ <;> simp [zget, zwf])
theorem m_fill_88 (M : zMm) (x : Int32) : yOk 165 0 [(0, .ref 88), (1, .int x)] [] M none (zfil M 88 72 x) := by
  refine yOk.adv 5 (pc' := 5) (lv' := [(3, .int 72), (2, .int 0), (0, .ref 88), (1, .int x)]) (st' := []) (M' := M) rfl ?_
  have h := m_fill_88_loop M x 72 0 rfl
  rw [zfil_0] at h
  exact h.drop (by refine ⟨?_, ?_⟩ <;> simp [zget, zwf, nI])
theorem m_renew_87 (M : zMm) (l n : Int32) : yOk 31 0 [(0, .ref 87), (1, .int l), (2, .int n)] [] M none (zfil (zup (zup M 87 0 l) 87 1 n) 88 72 0) := by
  refine yOk.adv 9 (pc' := 15) (lv' := [(0, .ref 87), (1, .int l), (2, .int n)]) (st' := [.int 0, .ref 88]) (M' := zup (zup M 87 0 l) 87 1 n) rfl ?_
  refine yOk.call (M1 := zfil (zup (zup M 87 0 l) 87 1 n) 88 72 0) _ rfl rfl rfl rfl rfl (m_fill_88 (zup (zup M 87 0 l) 87 1 n) 0) ?_
  show yOk 31 18 [(0, .ref 87), (1, .int l), (2, .int n)] [] (zfil (zup (zup M 87 0 l) 87 1 n) 88 72 0) _ _
  exact yOk.ret _ rfl rfl rfl
theorem m_empty_87 (M : zMm) : yOk 32 0 [(0, .ref 87)] [] M none (zup (zup M 87 0 (-1)) 87 1 0) := by
  refine yOk.adv 6 (pc' := 10) (lv' := [(0, .ref 87)]) (st' := []) (M' := zup (zup M 87 0 (-1)) 87 1 0) rfl ?_
  exact yOk.ret _ rfl rfl rfl
theorem m_hasNothing_87 (M : zMm) (v : Int32) (hv : (M.1 87 0 = -1 ∧ v = 1) ∨ (¬ M.1 87 0 = -1 ∧ v = 0)) : yOk 33 0 [(0, .ref 87)] [] M (some (.int v)) M := by
  refine yOk.adv 3 (pc' := 5) (lv' := [(0, .ref 87)]) (st' := [.int (-1), .int (M.1 87 0)]) (M' := M) rfl ?_
  refine yOk.if2 .ne _ _ _ _ rfl (fun c1 => ?_) (fun c1 => ?_)
  · have : v = 0 := hv.elim (fun z => absurd z.1 (zne_t c1)) (fun z => z.2)
    subst this
    refine yOk.adv 1 (pc' := 13) (lv' := [(0, .ref 87)]) (st' := [.int 0]) (M' := M) rfl ?_
    exact yOk.ret _ rfl rfl rfl
  · have : v = 1 := hv.elim (fun z => z.2) (fun z => absurd (zne_f c1) z.1)
    subst this
    refine yOk.adv 2 (pc' := 13) (lv' := [(0, .ref 87)]) (st' := [.int 1]) (M' := M) rfl ?_
    exact yOk.ret _ rfl rfl rfl
theorem m_otherLane_87 (M : zMm) (l : Int32) (v : Int32) (hv : ((¬ M.1 87 0 = -1 ∧ ¬ M.1 87 0 = l) ∧ v = 1) ∨ (¬ (¬ M.1 87 0 = -1 ∧ ¬ M.1 87 0 = l) ∧ v = 0)) : yOk 34 0 [(0, .ref 87), (1, .int l)] [] M (some (.int v)) M := by
  have no : ¬ (¬ M.1 87 0 = -1 ∧ ¬ M.1 87 0 = l) → yOk 34 20 [(0, .ref 87), (1, .int l)] [] M (some (.int v)) M := by
    intro h
    have : v = 0 := hv.elim (fun z => absurd z.1 h) (fun z => z.2)
    subst this
    refine yOk.adv 1 (pc' := 21) (lv' := [(0, .ref 87), (1, .int l)]) (st' := [.int 0]) (M' := M) rfl ?_
    exact yOk.ret _ rfl rfl rfl
  refine yOk.adv 3 (pc' := 5) (lv' := [(0, .ref 87), (1, .int l)]) (st' := [.int (-1), .int (M.1 87 0)]) (M' := M) rfl ?_
  refine yOk.if2 .eq _ _ _ _ rfl (fun c1 => ?_) (fun c1 => ?_)
  · exact no (fun h => h.1 (zeq_t c1))
  · refine yOk.adv 3 (pc' := 13) (lv' := [(0, .ref 87), (1, .int l)]) (st' := [.int l, .int (M.1 87 0)]) (M' := M) rfl ?_
    refine yOk.if2 .eq _ _ _ _ rfl (fun c2 => ?_) (fun c2 => ?_)
    · exact no (fun h => h.2 (zeq_t c2))
    · have : v = 1 := hv.elim (fun z => z.2) (fun z => absurd ⟨zeq_f c1, zeq_f c2⟩ z.1)
      subst this
      refine yOk.adv 2 (pc' := 21) (lv' := [(0, .ref 87), (1, .int l)]) (st' := [.int 1]) (M' := M) rfl ?_
      exact yOk.ret _ rfl rfl rfl
theorem m_hasCells_87 (M : zMm) (i : Int32) (m : Int64) (h1 : -2 ^ 40 ≤ m.toInt) (h2 : m.toInt ≤ 2 ^ 40) (v : Int32) (hv : ((m.toInt = 0 ∨ (0 ≤ i.toInt ∧ i.toInt + m.toInt ≤ (M.1 87 1).toInt)) ∧ v = 1) ∨ (¬ (m.toInt = 0 ∨ (0 ≤ i.toInt ∧ i.toInt + m.toInt ≤ (M.1 87 1).toInt)) ∧ v = 0)) : yOk 35 0 [(0, .ref 87), (1, .int i), (2, .long m)] [] M (some (.int v)) M := by
  have ei : i.toInt64.toInt = i.toInt := Kit.i64_of_i32 i
  have el : (M.1 87 1).toInt64.toInt = (M.1 87 1).toInt := Kit.i64_of_i32 _
  have i1 : i.toInt < 2 ^ 31 := Int32.toInt_lt i
  have i2 : -2 ^ 31 ≤ i.toInt := Int32.le_toInt i
  have es : (i.toInt64 + m).toInt = i.toInt + m.toInt := by rw [Kit.i64_add (by rw [ei]; omega) (by rw [ei]; omega), ei]
  have e0 : ((0 : Int32)).toInt = 0 := rfl
  have e00 : ((0 : Int64)).toInt = 0 := rfl
  have yes : (m.toInt = 0 ∨ (0 ≤ i.toInt ∧ i.toInt + m.toInt ≤ (M.1 87 1).toInt)) → yOk 35 23 [(0, .ref 87), (1, .int i), (2, .long m)] [] M (some (.int v)) M := by
    intro h
    have : v = 1 := hv.elim (fun z => z.2) (fun z => absurd h z.1)
    subst this
    refine yOk.adv 2 (pc' := 28) (lv' := [(0, .ref 87), (1, .int i), (2, .long m)]) (st' := [.int 1]) (M' := M) rfl ?_
    exact yOk.ret _ rfl rfl rfl
  have no : ¬ (m.toInt = 0 ∨ (0 ≤ i.toInt ∧ i.toInt + m.toInt ≤ (M.1 87 1).toInt)) → yOk 35 27 [(0, .ref 87), (1, .int i), (2, .long m)] [] M (some (.int v)) M := by
    intro h
    have : v = 0 := hv.elim (fun z => absurd z.1 h) (fun z => z.2)
    subst this
    refine yOk.adv 1 (pc' := 28) (lv' := [(0, .ref 87), (1, .int i), (2, .long m)]) (st' := [.int 0]) (M' := M) rfl ?_
    exact yOk.ret _ rfl rfl rfl
  have hz : lg_cmp m 0 = 0 ↔ m.toInt = 0 := by
    unfold lg_cmp
    constructor
    · intro h
      split at h
      · exact absurd h (by decide)
      · split at h
        · next hh => rw [hh]; rfl
        · exact absurd h (by decide)
    · intro h
      have : m = 0 := Int64.toInt_inj.mp (by rw [h]; rfl)
      subst this
      decide
  refine yOk.adv 3 (pc' := 3) (lv' := [(0, .ref 87), (1, .int i), (2, .long m)]) (st' := [.int (lg_cmp m 0)]) (M' := M) rfl ?_
  refine yOk.if1 .eq _ _ _ _ rfl (fun c1 => ?_) (fun c1 => ?_)
  · exact yes (Or.inl (hz.mp (zeq_t c1)))
  · have hm : ¬ m.toInt = 0 := fun h => zeq_f c1 (hz.mpr h)
    refine yOk.adv 1 (pc' := 7) (lv' := [(0, .ref 87), (1, .int i), (2, .long m)]) (st' := [.int i]) (M' := M) rfl ?_
    refine yOk.if1 .lt _ _ _ _ rfl (fun c2 => ?_) (fun c2 => ?_)
    · exact no (fun h => by have := i32_lt.mp (zlt_t c2); omega)
    · have hi : 0 ≤ i.toInt := Classical.byContradiction fun hh => zlt_f c2 (i32_lt.mpr (by omega))
      refine yOk.adv 8 (pc' := 20) (lv' := [(0, .ref 87), (1, .int i), (2, .long m)]) (st' := [.int (lg_cmp (i.toInt64 + m) ((M.1 87 1).toInt64))]) (M' := M) rfl ?_
      refine yOk.if1 .gt _ _ _ _ rfl (fun c3 => ?_) (fun c3 => ?_)
      · rw [zlc_gt] at c3
        have h3 := of_decide_eq_true c3
        rw [Int64.lt_iff_toInt_lt, es, el] at h3
        exact no (fun h => by omega)
      · rw [zlc_gt] at c3
        have h3 := of_decide_eq_false c3
        rw [Int64.lt_iff_toInt_lt, es, el] at h3
        exact yes (Or.inr ⟨hi, by omega⟩)
theorem m_fill_90_loop (M : zMm) (x : Int32) : ∀ (d i : Nat), i + d = 72 → yOk 165 5 [(0, .ref 90), (1, .int x), (2, .int (nI i)), (3, .int 72)] [] (zfil M 90 i x) none (zfil M 90 72 x)
  | 0, i, h => by
    have : i = 72 := by omega
    subst this
    refine yOk.adv 2 (pc' := 7) (lv' := [(0, .ref 90), (1, .int x), (2, .int (nI 72)), (3, .int 72)]) (st' := [.int 72, .int (nI 72)]) (M' := zfil M 90 72 x) rfl ?_
    refine yOk.if2 .ge _ _ _ _ rfl (fun c1 => ?_) (fun c1 => ?_)
    · exact yOk.ret _ rfl rfl rfl
    · exact absurd c1 (by decide)
  | d + 1, i, h => by
    have ck : (nI i).toNatClampNeg = i := nI_clamp (by omega)
    have hin : zin (nI i) 72 = true := zin_nI (by omega) (by omega)
    refine yOk.adv 2 (pc' := 7) (lv' := [(0, .ref 90), (1, .int x), (2, .int (nI i)), (3, .int 72)]) (st' := [.int 72, .int (nI i)]) (M' := zfil M 90 i x) rfl ?_
    refine yOk.if2 .ge _ _ _ _ rfl (fun c1 => ?_) (fun c1 => ?_)
    · exact absurd (nI_lt (show i < 72 by omega) (by omega)) (zge_t c1)
    · refine yOk.adv 3 (pc' := 13) (lv' := [(0, .ref 90), (1, .int x), (2, .int (nI i)), (3, .int 72)]) (st' := [.int x, .int (nI i), .ref 90]) (M' := zfil M 90 i x) rfl ?_
      refine yOk.iast _ _ _ rfl rfl (hin) ?_
      rw [ck, zfil_s]
      refine yOk.adv 2 (pc' := 5) (lv' := [(2, .int (nI i + 1)), (0, .ref 90), (1, .int x), (3, .int 72)]) (st' := []) (M' := zfil M 90 (i + 1) x) rfl ?_
      have ih := m_fill_90_loop M x d (i + 1) (by omega)
      rw [nI_succ] at ih
      exact ih.drop (by refine ⟨?_, ?_⟩ <;> simp [zget, zwf])
theorem m_fill_90 (M : zMm) (x : Int32) : yOk 165 0 [(0, .ref 90), (1, .int x)] [] M none (zfil M 90 72 x) := by
  refine yOk.adv 5 (pc' := 5) (lv' := [(3, .int 72), (2, .int 0), (0, .ref 90), (1, .int x)]) (st' := []) (M' := M) rfl ?_
  have h := m_fill_90_loop M x 72 0 rfl
  rw [zfil_0] at h
  exact h.drop (by refine ⟨?_, ?_⟩ <;> simp [zget, zwf, nI])
theorem m_renew_89 (M : zMm) (l n : Int32) : yOk 31 0 [(0, .ref 89), (1, .int l), (2, .int n)] [] M none (zfil (zup (zup M 89 0 l) 89 1 n) 90 72 0) := by
  refine yOk.adv 9 (pc' := 15) (lv' := [(0, .ref 89), (1, .int l), (2, .int n)]) (st' := [.int 0, .ref 90]) (M' := zup (zup M 89 0 l) 89 1 n) rfl ?_
  refine yOk.call (M1 := zfil (zup (zup M 89 0 l) 89 1 n) 90 72 0) _ rfl rfl rfl rfl rfl (m_fill_90 (zup (zup M 89 0 l) 89 1 n) 0) ?_
  show yOk 31 18 [(0, .ref 89), (1, .int l), (2, .int n)] [] (zfil (zup (zup M 89 0 l) 89 1 n) 90 72 0) _ _
  exact yOk.ret _ rfl rfl rfl
theorem m_empty_89 (M : zMm) : yOk 32 0 [(0, .ref 89)] [] M none (zup (zup M 89 0 (-1)) 89 1 0) := by
  refine yOk.adv 6 (pc' := 10) (lv' := [(0, .ref 89)]) (st' := []) (M' := zup (zup M 89 0 (-1)) 89 1 0) rfl ?_
  exact yOk.ret _ rfl rfl rfl
theorem m_hasNothing_89 (M : zMm) (v : Int32) (hv : (M.1 89 0 = -1 ∧ v = 1) ∨ (¬ M.1 89 0 = -1 ∧ v = 0)) : yOk 33 0 [(0, .ref 89)] [] M (some (.int v)) M := by
  refine yOk.adv 3 (pc' := 5) (lv' := [(0, .ref 89)]) (st' := [.int (-1), .int (M.1 89 0)]) (M' := M) rfl ?_
  refine yOk.if2 .ne _ _ _ _ rfl (fun c1 => ?_) (fun c1 => ?_)
  · have : v = 0 := hv.elim (fun z => absurd z.1 (zne_t c1)) (fun z => z.2)
    subst this
    refine yOk.adv 1 (pc' := 13) (lv' := [(0, .ref 89)]) (st' := [.int 0]) (M' := M) rfl ?_
    exact yOk.ret _ rfl rfl rfl
  · have : v = 1 := hv.elim (fun z => z.2) (fun z => absurd (zne_f c1) z.1)
    subst this
    refine yOk.adv 2 (pc' := 13) (lv' := [(0, .ref 89)]) (st' := [.int 1]) (M' := M) rfl ?_
    exact yOk.ret _ rfl rfl rfl
theorem m_otherLane_89 (M : zMm) (l : Int32) (v : Int32) (hv : ((¬ M.1 89 0 = -1 ∧ ¬ M.1 89 0 = l) ∧ v = 1) ∨ (¬ (¬ M.1 89 0 = -1 ∧ ¬ M.1 89 0 = l) ∧ v = 0)) : yOk 34 0 [(0, .ref 89), (1, .int l)] [] M (some (.int v)) M := by
  have no : ¬ (¬ M.1 89 0 = -1 ∧ ¬ M.1 89 0 = l) → yOk 34 20 [(0, .ref 89), (1, .int l)] [] M (some (.int v)) M := by
    intro h
    have : v = 0 := hv.elim (fun z => absurd z.1 h) (fun z => z.2)
    subst this
    refine yOk.adv 1 (pc' := 21) (lv' := [(0, .ref 89), (1, .int l)]) (st' := [.int 0]) (M' := M) rfl ?_
    exact yOk.ret _ rfl rfl rfl
  refine yOk.adv 3 (pc' := 5) (lv' := [(0, .ref 89), (1, .int l)]) (st' := [.int (-1), .int (M.1 89 0)]) (M' := M) rfl ?_
  refine yOk.if2 .eq _ _ _ _ rfl (fun c1 => ?_) (fun c1 => ?_)
  · exact no (fun h => h.1 (zeq_t c1))
  · refine yOk.adv 3 (pc' := 13) (lv' := [(0, .ref 89), (1, .int l)]) (st' := [.int l, .int (M.1 89 0)]) (M' := M) rfl ?_
    refine yOk.if2 .eq _ _ _ _ rfl (fun c2 => ?_) (fun c2 => ?_)
    · exact no (fun h => h.2 (zeq_t c2))
    · have : v = 1 := hv.elim (fun z => z.2) (fun z => absurd ⟨zeq_f c1, zeq_f c2⟩ z.1)
      subst this
      refine yOk.adv 2 (pc' := 21) (lv' := [(0, .ref 89), (1, .int l)]) (st' := [.int 1]) (M' := M) rfl ?_
      exact yOk.ret _ rfl rfl rfl
theorem m_hasCells_89 (M : zMm) (i : Int32) (m : Int64) (h1 : -2 ^ 40 ≤ m.toInt) (h2 : m.toInt ≤ 2 ^ 40) (v : Int32) (hv : ((m.toInt = 0 ∨ (0 ≤ i.toInt ∧ i.toInt + m.toInt ≤ (M.1 89 1).toInt)) ∧ v = 1) ∨ (¬ (m.toInt = 0 ∨ (0 ≤ i.toInt ∧ i.toInt + m.toInt ≤ (M.1 89 1).toInt)) ∧ v = 0)) : yOk 35 0 [(0, .ref 89), (1, .int i), (2, .long m)] [] M (some (.int v)) M := by
  have ei : i.toInt64.toInt = i.toInt := Kit.i64_of_i32 i
  have el : (M.1 89 1).toInt64.toInt = (M.1 89 1).toInt := Kit.i64_of_i32 _
  have i1 : i.toInt < 2 ^ 31 := Int32.toInt_lt i
  have i2 : -2 ^ 31 ≤ i.toInt := Int32.le_toInt i
  have es : (i.toInt64 + m).toInt = i.toInt + m.toInt := by rw [Kit.i64_add (by rw [ei]; omega) (by rw [ei]; omega), ei]
  have e0 : ((0 : Int32)).toInt = 0 := rfl
  have e00 : ((0 : Int64)).toInt = 0 := rfl
  have yes : (m.toInt = 0 ∨ (0 ≤ i.toInt ∧ i.toInt + m.toInt ≤ (M.1 89 1).toInt)) → yOk 35 23 [(0, .ref 89), (1, .int i), (2, .long m)] [] M (some (.int v)) M := by
    intro h
    have : v = 1 := hv.elim (fun z => z.2) (fun z => absurd h z.1)
    subst this
    refine yOk.adv 2 (pc' := 28) (lv' := [(0, .ref 89), (1, .int i), (2, .long m)]) (st' := [.int 1]) (M' := M) rfl ?_
    exact yOk.ret _ rfl rfl rfl
  have no : ¬ (m.toInt = 0 ∨ (0 ≤ i.toInt ∧ i.toInt + m.toInt ≤ (M.1 89 1).toInt)) → yOk 35 27 [(0, .ref 89), (1, .int i), (2, .long m)] [] M (some (.int v)) M := by
    intro h
    have : v = 0 := hv.elim (fun z => absurd z.1 h) (fun z => z.2)
    subst this
    refine yOk.adv 1 (pc' := 28) (lv' := [(0, .ref 89), (1, .int i), (2, .long m)]) (st' := [.int 0]) (M' := M) rfl ?_
    exact yOk.ret _ rfl rfl rfl
  have hz : lg_cmp m 0 = 0 ↔ m.toInt = 0 := by
    unfold lg_cmp
    constructor
    · intro h
      split at h
      · exact absurd h (by decide)
      · split at h
        · next hh => rw [hh]; rfl
        · exact absurd h (by decide)
    · intro h
      have : m = 0 := Int64.toInt_inj.mp (by rw [h]; rfl)
      subst this
      decide
  refine yOk.adv 3 (pc' := 3) (lv' := [(0, .ref 89), (1, .int i), (2, .long m)]) (st' := [.int (lg_cmp m 0)]) (M' := M) rfl ?_
  refine yOk.if1 .eq _ _ _ _ rfl (fun c1 => ?_) (fun c1 => ?_)
  · exact yes (Or.inl (hz.mp (zeq_t c1)))
  · have hm : ¬ m.toInt = 0 := fun h => zeq_f c1 (hz.mpr h)
    refine yOk.adv 1 (pc' := 7) (lv' := [(0, .ref 89), (1, .int i), (2, .long m)]) (st' := [.int i]) (M' := M) rfl ?_
    refine yOk.if1 .lt _ _ _ _ rfl (fun c2 => ?_) (fun c2 => ?_)
    · exact no (fun h => by have := i32_lt.mp (zlt_t c2); omega)
    · have hi : 0 ≤ i.toInt := Classical.byContradiction fun hh => zlt_f c2 (i32_lt.mpr (by omega))
      refine yOk.adv 8 (pc' := 20) (lv' := [(0, .ref 89), (1, .int i), (2, .long m)]) (st' := [.int (lg_cmp (i.toInt64 + m) ((M.1 89 1).toInt64))]) (M' := M) rfl ?_
      refine yOk.if1 .gt _ _ _ _ rfl (fun c3 => ?_) (fun c3 => ?_)
      · rw [zlc_gt] at c3
        have h3 := of_decide_eq_true c3
        rw [Int64.lt_iff_toInt_lt, es, el] at h3
        exact no (fun h => by omega)
      · rw [zlc_gt] at c3
        have h3 := of_decide_eq_false c3
        rw [Int64.lt_iff_toInt_lt, es, el] at h3
        exact yes (Or.inr ⟨hi, by omega⟩)
theorem m_fill_92_loop (M : zMm) (x : Int32) : ∀ (d i : Nat), i + d = 72 → yOk 165 5 [(0, .ref 92), (1, .int x), (2, .int (nI i)), (3, .int 72)] [] (zfil M 92 i x) none (zfil M 92 72 x)
  | 0, i, h => by
    have : i = 72 := by omega
    subst this
    refine yOk.adv 2 (pc' := 7) (lv' := [(0, .ref 92), (1, .int x), (2, .int (nI 72)), (3, .int 72)]) (st' := [.int 72, .int (nI 72)]) (M' := zfil M 92 72 x) rfl ?_
    refine yOk.if2 .ge _ _ _ _ rfl (fun c1 => ?_) (fun c1 => ?_)
    · exact yOk.ret _ rfl rfl rfl
    · exact absurd c1 (by decide)
  | d + 1, i, h => by
    have ck : (nI i).toNatClampNeg = i := nI_clamp (by omega)
    have hin : zin (nI i) 72 = true := zin_nI (by omega) (by omega)
    refine yOk.adv 2 (pc' := 7) (lv' := [(0, .ref 92), (1, .int x), (2, .int (nI i)), (3, .int 72)]) (st' := [.int 72, .int (nI i)]) (M' := zfil M 92 i x) rfl ?_
    refine yOk.if2 .ge _ _ _ _ rfl (fun c1 => ?_) (fun c1 => ?_)
    · exact absurd (nI_lt (show i < 72 by omega) (by omega)) (zge_t c1)
    · refine yOk.adv 3 (pc' := 13) (lv' := [(0, .ref 92), (1, .int x), (2, .int (nI i)), (3, .int 72)]) (st' := [.int x, .int (nI i), .ref 92]) (M' := zfil M 92 i x) rfl ?_
      refine yOk.iast _ _ _ rfl rfl (hin) ?_
      rw [ck, zfil_s]
      refine yOk.adv 2 (pc' := 5) (lv' := [(2, .int (nI i + 1)), (0, .ref 92), (1, .int x), (3, .int 72)]) (st' := []) (M' := zfil M 92 (i + 1) x) rfl ?_
      have ih := m_fill_92_loop M x d (i + 1) (by omega)
      rw [nI_succ] at ih
      exact ih.drop (by refine ⟨?_, ?_⟩ <;> simp [zget, zwf])
theorem m_fill_92 (M : zMm) (x : Int32) : yOk 165 0 [(0, .ref 92), (1, .int x)] [] M none (zfil M 92 72 x) := by
  refine yOk.adv 5 (pc' := 5) (lv' := [(3, .int 72), (2, .int 0), (0, .ref 92), (1, .int x)]) (st' := []) (M' := M) rfl ?_
  have h := m_fill_92_loop M x 72 0 rfl
  rw [zfil_0] at h
  exact h.drop (by refine ⟨?_, ?_⟩ <;> simp [zget, zwf, nI])
theorem m_renew_91 (M : zMm) (l n : Int32) : yOk 31 0 [(0, .ref 91), (1, .int l), (2, .int n)] [] M none (zfil (zup (zup M 91 0 l) 91 1 n) 92 72 0) := by
  refine yOk.adv 9 (pc' := 15) (lv' := [(0, .ref 91), (1, .int l), (2, .int n)]) (st' := [.int 0, .ref 92]) (M' := zup (zup M 91 0 l) 91 1 n) rfl ?_
  refine yOk.call (M1 := zfil (zup (zup M 91 0 l) 91 1 n) 92 72 0) _ rfl rfl rfl rfl rfl (m_fill_92 (zup (zup M 91 0 l) 91 1 n) 0) ?_
  show yOk 31 18 [(0, .ref 91), (1, .int l), (2, .int n)] [] (zfil (zup (zup M 91 0 l) 91 1 n) 92 72 0) _ _
  exact yOk.ret _ rfl rfl rfl
theorem m_empty_91 (M : zMm) : yOk 32 0 [(0, .ref 91)] [] M none (zup (zup M 91 0 (-1)) 91 1 0) := by
  refine yOk.adv 6 (pc' := 10) (lv' := [(0, .ref 91)]) (st' := []) (M' := zup (zup M 91 0 (-1)) 91 1 0) rfl ?_
  exact yOk.ret _ rfl rfl rfl
theorem m_hasNothing_91 (M : zMm) (v : Int32) (hv : (M.1 91 0 = -1 ∧ v = 1) ∨ (¬ M.1 91 0 = -1 ∧ v = 0)) : yOk 33 0 [(0, .ref 91)] [] M (some (.int v)) M := by
  refine yOk.adv 3 (pc' := 5) (lv' := [(0, .ref 91)]) (st' := [.int (-1), .int (M.1 91 0)]) (M' := M) rfl ?_
  refine yOk.if2 .ne _ _ _ _ rfl (fun c1 => ?_) (fun c1 => ?_)
  · have : v = 0 := hv.elim (fun z => absurd z.1 (zne_t c1)) (fun z => z.2)
    subst this
    refine yOk.adv 1 (pc' := 13) (lv' := [(0, .ref 91)]) (st' := [.int 0]) (M' := M) rfl ?_
    exact yOk.ret _ rfl rfl rfl
  · have : v = 1 := hv.elim (fun z => z.2) (fun z => absurd (zne_f c1) z.1)
    subst this
    refine yOk.adv 2 (pc' := 13) (lv' := [(0, .ref 91)]) (st' := [.int 1]) (M' := M) rfl ?_
    exact yOk.ret _ rfl rfl rfl
theorem m_otherLane_91 (M : zMm) (l : Int32) (v : Int32) (hv : ((¬ M.1 91 0 = -1 ∧ ¬ M.1 91 0 = l) ∧ v = 1) ∨ (¬ (¬ M.1 91 0 = -1 ∧ ¬ M.1 91 0 = l) ∧ v = 0)) : yOk 34 0 [(0, .ref 91), (1, .int l)] [] M (some (.int v)) M := by
  have no : ¬ (¬ M.1 91 0 = -1 ∧ ¬ M.1 91 0 = l) → yOk 34 20 [(0, .ref 91), (1, .int l)] [] M (some (.int v)) M := by
    intro h
    have : v = 0 := hv.elim (fun z => absurd z.1 h) (fun z => z.2)
    subst this
    refine yOk.adv 1 (pc' := 21) (lv' := [(0, .ref 91), (1, .int l)]) (st' := [.int 0]) (M' := M) rfl ?_
    exact yOk.ret _ rfl rfl rfl
  refine yOk.adv 3 (pc' := 5) (lv' := [(0, .ref 91), (1, .int l)]) (st' := [.int (-1), .int (M.1 91 0)]) (M' := M) rfl ?_
  refine yOk.if2 .eq _ _ _ _ rfl (fun c1 => ?_) (fun c1 => ?_)
  · exact no (fun h => h.1 (zeq_t c1))
  · refine yOk.adv 3 (pc' := 13) (lv' := [(0, .ref 91), (1, .int l)]) (st' := [.int l, .int (M.1 91 0)]) (M' := M) rfl ?_
    refine yOk.if2 .eq _ _ _ _ rfl (fun c2 => ?_) (fun c2 => ?_)
    · exact no (fun h => h.2 (zeq_t c2))
    · have : v = 1 := hv.elim (fun z => z.2) (fun z => absurd ⟨zeq_f c1, zeq_f c2⟩ z.1)
      subst this
      refine yOk.adv 2 (pc' := 21) (lv' := [(0, .ref 91), (1, .int l)]) (st' := [.int 1]) (M' := M) rfl ?_
      exact yOk.ret _ rfl rfl rfl
theorem m_hasCells_91 (M : zMm) (i : Int32) (m : Int64) (h1 : -2 ^ 40 ≤ m.toInt) (h2 : m.toInt ≤ 2 ^ 40) (v : Int32) (hv : ((m.toInt = 0 ∨ (0 ≤ i.toInt ∧ i.toInt + m.toInt ≤ (M.1 91 1).toInt)) ∧ v = 1) ∨ (¬ (m.toInt = 0 ∨ (0 ≤ i.toInt ∧ i.toInt + m.toInt ≤ (M.1 91 1).toInt)) ∧ v = 0)) : yOk 35 0 [(0, .ref 91), (1, .int i), (2, .long m)] [] M (some (.int v)) M := by
  have ei : i.toInt64.toInt = i.toInt := Kit.i64_of_i32 i
  have el : (M.1 91 1).toInt64.toInt = (M.1 91 1).toInt := Kit.i64_of_i32 _
  have i1 : i.toInt < 2 ^ 31 := Int32.toInt_lt i
  have i2 : -2 ^ 31 ≤ i.toInt := Int32.le_toInt i
  have es : (i.toInt64 + m).toInt = i.toInt + m.toInt := by rw [Kit.i64_add (by rw [ei]; omega) (by rw [ei]; omega), ei]
  have e0 : ((0 : Int32)).toInt = 0 := rfl
  have e00 : ((0 : Int64)).toInt = 0 := rfl
  have yes : (m.toInt = 0 ∨ (0 ≤ i.toInt ∧ i.toInt + m.toInt ≤ (M.1 91 1).toInt)) → yOk 35 23 [(0, .ref 91), (1, .int i), (2, .long m)] [] M (some (.int v)) M := by
    intro h
    have : v = 1 := hv.elim (fun z => z.2) (fun z => absurd h z.1)
    subst this
    refine yOk.adv 2 (pc' := 28) (lv' := [(0, .ref 91), (1, .int i), (2, .long m)]) (st' := [.int 1]) (M' := M) rfl ?_
    exact yOk.ret _ rfl rfl rfl
  have no : ¬ (m.toInt = 0 ∨ (0 ≤ i.toInt ∧ i.toInt + m.toInt ≤ (M.1 91 1).toInt)) → yOk 35 27 [(0, .ref 91), (1, .int i), (2, .long m)] [] M (some (.int v)) M := by
    intro h
    have : v = 0 := hv.elim (fun z => absurd z.1 h) (fun z => z.2)
    subst this
    refine yOk.adv 1 (pc' := 28) (lv' := [(0, .ref 91), (1, .int i), (2, .long m)]) (st' := [.int 0]) (M' := M) rfl ?_
    exact yOk.ret _ rfl rfl rfl
  have hz : lg_cmp m 0 = 0 ↔ m.toInt = 0 := by
    unfold lg_cmp
    constructor
    · intro h
      split at h
      · exact absurd h (by decide)
      · split at h
        · next hh => rw [hh]; rfl
        · exact absurd h (by decide)
    · intro h
      have : m = 0 := Int64.toInt_inj.mp (by rw [h]; rfl)
      subst this
      decide
  refine yOk.adv 3 (pc' := 3) (lv' := [(0, .ref 91), (1, .int i), (2, .long m)]) (st' := [.int (lg_cmp m 0)]) (M' := M) rfl ?_
  refine yOk.if1 .eq _ _ _ _ rfl (fun c1 => ?_) (fun c1 => ?_)
  · exact yes (Or.inl (hz.mp (zeq_t c1)))
  · have hm : ¬ m.toInt = 0 := fun h => zeq_f c1 (hz.mpr h)
    refine yOk.adv 1 (pc' := 7) (lv' := [(0, .ref 91), (1, .int i), (2, .long m)]) (st' := [.int i]) (M' := M) rfl ?_
    refine yOk.if1 .lt _ _ _ _ rfl (fun c2 => ?_) (fun c2 => ?_)
    · exact no (fun h => by have := i32_lt.mp (zlt_t c2); omega)
    · have hi : 0 ≤ i.toInt := Classical.byContradiction fun hh => zlt_f c2 (i32_lt.mpr (by omega))
      refine yOk.adv 8 (pc' := 20) (lv' := [(0, .ref 91), (1, .int i), (2, .long m)]) (st' := [.int (lg_cmp (i.toInt64 + m) ((M.1 91 1).toInt64))]) (M' := M) rfl ?_
      refine yOk.if1 .gt _ _ _ _ rfl (fun c3 => ?_) (fun c3 => ?_)
      · rw [zlc_gt] at c3
        have h3 := of_decide_eq_true c3
        rw [Int64.lt_iff_toInt_lt, es, el] at h3
        exact no (fun h => by omega)
      · rw [zlc_gt] at c3
        have h3 := of_decide_eq_false c3
        rw [Int64.lt_iff_toInt_lt, es, el] at h3
        exact yes (Or.inr ⟨hi, by omega⟩)
