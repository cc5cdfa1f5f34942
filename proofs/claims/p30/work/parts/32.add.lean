/-! ===== a place comes: refusals, add, lay ===== -/
theorem m_fromV (M : zMm) (v : Int32) (lo hi : Int) (lo' hi' : Int32) (h1 : lo'.toInt = lo) (h2 : hi'.toInt = hi) (r : Int32) (hr : ((lo ≤ v.toInt ∧ v.toInt ≤ hi) ∧ r = 1) ∨ (¬ (lo ≤ v.toInt ∧ v.toInt ≤ hi) ∧ r = 0)) : yOk 67 0 [(0, .int v), (1, .int lo'), (2, .int hi')] [] M (some (.int r)) M := by
  have h := m_isFromI M v lo hi lo' hi' h1 h2
  rcases hr with ⟨a, rfl⟩ | ⟨a, rfl⟩
  · rw [if_pos a] at h; exact h
  · rw [if_neg a] at h; exact h
theorem r_withinV (M : zMm) (v : Int64) (lo hi : Int) (lo' hi' : Int64) (h1 : lo'.toInt = lo) (h2 : hi'.toInt = hi) (r : Int32) (hr : ((lo ≤ v.toInt ∧ v.toInt ≤ hi) ∧ r = 1) ∨ (¬ (lo ≤ v.toInt ∧ v.toInt ≤ hi) ∧ r = 0)) : yOk 100 0 [(0, .long v), (2, .long lo'), (4, .long hi')] [] M (some (.int r)) M := by
  have h := r_within M v lo' hi'
  have e : (lo' ≤ v ∧ v ≤ hi') ↔ (lo ≤ v.toInt ∧ v.toInt ≤ hi) := by rw [Int64.le_iff_toInt_le, Int64.le_iff_toInt_le, h1, h2]
  rcases hr with ⟨a, rfl⟩ | ⟨a, rfl⟩
  · rw [if_pos (e.mpr a)] at h; exact h
  · rw [if_neg (fun q => a (e.mp q))] at h; exact h
def zgr (x : Int32) : Prop := -24 ≤ x.toInt ∧ x.toInt ≤ 24
def zwr (w : Int) : Prop := -10000 ≤ w ∧ w ≤ 10000
theorem zem (p : Prop) : ∃ r : Int32, (p ∧ r = 1) ∨ (¬ p ∧ r = 0) := (Classical.em p).elim (fun h => ⟨1, Or.inl ⟨h, rfl⟩⟩) (fun h => ⟨0, Or.inr ⟨h, rfl⟩⟩)
/-- whether it is refused as OUTSIDE -/
def zbad (X Y W : Nat → Int32) (n : Nat) (x y w : Int32) : Prop := ¬ (zgr x ∧ zgr y ∧ zwr w.toInt) ∨ ∃ p, zfnd X Y x y n 0 = some p ∧ ¬ zwr ((W p).toInt + w.toInt)
theorem zne0 {p : Prop} {r : Int32} (hr : (p ∧ r = 1) ∨ (¬ p ∧ r = 0)) (h : zcB .ne r 0 = true) : p := hr.elim (fun z => z.1) (fun z => by rw [z.2] at h; exact absurd h (by decide))
theorem zne1 {p : Prop} {r : Int32} (hr : (p ∧ r = 1) ∨ (¬ p ∧ r = 0)) (h : zcB .ne r 0 = false) : ¬ p := hr.elim (fun z => by rw [z.2] at h; exact absurd h (by decide)) (fun z => z.1)
theorem zeq0 {p : Prop} {r : Int32} (hr : (p ∧ r = 1) ∨ (¬ p ∧ r = 0)) (h : zcB .eq r 0 = true) : ¬ p := hr.elim (fun z => by rw [z.2] at h; exact absurd h (by decide)) (fun z => z.1)
theorem zeq1 {p : Prop} {r : Int32} (hr : (p ∧ r = 1) ∨ (¬ p ∧ r = 0)) (h : zcB .eq r 0 = false) : p := hr.elim (fun z => z.1) (fun z => by rw [z.2] at h; exact absurd h (by decide))
theorem nI_nm1 (p : Nat) (h : p < 2 ^ 31) : ¬ nI p = -1 := fun e => by
  have := congrArg Int32.toInt e
  rw [nI_toInt h] at this
  have e1 : ((-1 : Int32)).toInt = -1 := rfl
  omega
theorem nI_nm9 (p : Nat) (h : p < 2 ^ 31) : ¬ nI p = -9 := fun e => by
  have := congrArg Int32.toInt e
  rw [nI_toInt h] at this
  have e1 : ((-9 : Int32)).toInt = -9 := rfl
  omega
theorem m_refusal_1 (M : zMm) (n : Nat) (hs : M.1 1 3 = nI n) (hn : n ≤ 24) (hW : ∀ p, p < n → zwr (M.1 4 p).toInt) (x y w : Int32) (v : Int32) (hv : (zbad (M.1 2) (M.1 3) (M.1 4) n x y w ∧ v = -2) ∨ (¬ zbad (M.1 2) (M.1 3) (M.1 4) n x y w ∧ v = 0)) : yOk 25 0 [(0, .ref 1), (1, .int x), (2, .int y), (3, .int w)] [] M (some (.int v)) M := by
  have yes : zbad (M.1 2) (M.1 3) (M.1 4) n x y w → v = -2 := fun h => hv.elim (fun z => z.2) (fun z => absurd h z.1)
  have no : ¬ zbad (M.1 2) (M.1 3) (M.1 4) n x y w → v = 0 := fun h => hv.elim (fun z => absurd z.1 h) (fun z => z.2)
  obtain ⟨r1, g1⟩ := zem (-24 ≤ x.toInt ∧ x.toInt ≤ 24)
  obtain ⟨r2, g2⟩ := zem (-24 ≤ y.toInt ∧ y.toInt ≤ 24)
  obtain ⟨r3, g3⟩ := zem (-10000 ≤ w.toInt ∧ w.toInt ≤ 10000)
  have out1 : zbad (M.1 2) (M.1 3) (M.1 4) n x y w → yOk 25 22 [(0, .ref 1), (1, .int x), (2, .int y), (3, .int w)] [] M (some (.int v)) M := by
    intro h
    rw [yes h]
    refine yOk.adv 1 (pc' := 24) (lv' := [(0, .ref 1), (1, .int x), (2, .int y), (3, .int w)]) (st' := [.int (-2)]) (M' := M) rfl ?_
    exact yOk.ret _ rfl rfl rfl
  refine yOk.adv 3 (pc' := 5) (lv' := [(0, .ref 1), (1, .int x), (2, .int y), (3, .int w)]) (st' := [.int 24, .int (-24), .int x]) (M' := M) rfl ?_
  refine yOk.call (M1 := M) _ rfl rfl rfl rfl rfl (m_fromV M x (-24) 24 (-24) 24 rfl rfl r1 g1) ?_
  show yOk 25 8 [(0, .ref 1), (1, .int x), (2, .int y), (3, .int w)] [.int r1] M _ _
  refine yOk.if1 .eq _ _ _ _ rfl (fun c1 => ?_) (fun c1 => ?_)
  · exact out1 (Or.inl fun h => zeq0 g1 c1 h.1)
  · refine yOk.adv 3 (pc' := 16) (lv' := [(0, .ref 1), (1, .int x), (2, .int y), (3, .int w)]) (st' := [.int 24, .int (-24), .int y]) (M' := M) rfl ?_
    refine yOk.call (M1 := M) _ rfl rfl rfl rfl rfl (m_fromV M y (-24) 24 (-24) 24 rfl rfl r2 g2) ?_
    show yOk 25 19 [(0, .ref 1), (1, .int x), (2, .int y), (3, .int w)] [.int r2] M _ _
    refine yOk.if1 .ne _ _ _ _ rfl (fun c2 => ?_) (fun c2 => ?_)
    · refine yOk.adv 3 (pc' := 32) (lv' := [(0, .ref 1), (1, .int x), (2, .int y), (3, .int w)]) (st' := [.int 10000, .int (-10000), .int w]) (M' := M) rfl ?_
      refine yOk.call (M1 := M) _ rfl rfl rfl rfl rfl (m_fromV M w (-10000) 10000 (-10000) 10000 rfl rfl r3 g3) ?_
      show yOk 25 35 [(0, .ref 1), (1, .int x), (2, .int y), (3, .int w)] [.int r3] M _ _
      refine yOk.if1 .ne _ _ _ _ rfl (fun c3 => ?_) (fun c3 => ?_)
      · have hx := zeq1 g1 c1
        have hy := zne0 g2 c2
        have hw := zne0 g3 c3
        refine yOk.adv 3 (pc' := 44) (lv' := [(0, .ref 1), (1, .int x), (2, .int y), (3, .int w)]) (st' := [.int y, .int x, .ref 1]) (M' := M) rfl ?_
        refine yOk.call (M1 := M) _ rfl rfl rfl rfl rfl (m_numberOf_1 M n hs hn x y) ?_
        show yOk 25 47 [(0, .ref 1), (1, .int x), (2, .int y), (3, .int w)] [.int (zfv (-1) (zfnd (M.1 2) (M.1 3) x y n 0))] M _ _
        have fin : ∀ (u : Int32) (lv : zL), zwfl 118 lv = true → ((¬ zwr u.toInt ∧ v = -2) ∨ (zwr u.toInt ∧ v = 0)) → zget lv 0 = some (.ref 1) → yOk 25 68 lv [.int u] M (some (.int v)) M := by
          intro u lv hlw hu h0
          have K : yOk 25 68 [] [.int u] M (some (.int v)) M := by
            obtain ⟨r4, g4⟩ := zem (-10000 ≤ u.toInt ∧ u.toInt ≤ 10000)
            refine yOk.adv 4 (pc' := 78) (lv' := [(5, .int u)]) (st' := [.int 10000, .int (-10000), .int u]) (M' := M) rfl ?_
            refine yOk.call (M1 := M) _ rfl rfl rfl rfl rfl (m_fromV M u (-10000) 10000 (-10000) 10000 rfl rfl r4 g4) ?_
            show yOk 25 81 [(5, .int u)] [.int r4] M _ _
            refine yOk.if1 .eq _ _ _ _ rfl (fun c4 => ?_) (fun c4 => ?_)
            · have : v = -2 := hu.elim (fun z => z.2) (fun z => absurd z.1 (zeq0 g4 c4))
              subst this
              refine yOk.adv 1 (pc' := 90) (lv' := [(5, .int u)]) (st' := [.int (-2)]) (M' := M) rfl ?_
              exact yOk.ret _ rfl rfl rfl
            · have : v = 0 := hu.elim (fun z => absurd (zeq1 g4 c4) z.1) (fun z => z.2)
              subst this
              refine yOk.adv 2 (pc' := 90) (lv' := [(5, .int u)]) (st' := [.int 0]) (M' := M) rfl ?_
              exact yOk.ret _ rfl rfl rfl
          exact K.drop ⟨fun q hq => (by cases hq), fun q hq => Or.inr (List.all_eq_true.mp hlw q hq)⟩
        cases hf : zfnd (M.1 2) (M.1 3) x y n 0 with
        | none =>
          show yOk 25 47 [(0, .ref 1), (1, .int x), (2, .int y), (3, .int w)] [.int (-1)] M _ _
          refine yOk.adv 3 (pc' := 52) (lv' := [(4, .int (-1)), (0, .ref 1), (1, .int x), (2, .int y), (3, .int w)]) (st' := [.int (-1), .int (-1)]) (M' := M) rfl ?_
          refine yOk.if2 .ne _ _ _ _ rfl (fun c4 => ?_) (fun c4 => ?_)
          · exact absurd c4 (by decide)
          · refine yOk.adv 2 (pc' := 68) (lv' := [(4, .int (-1)), (0, .ref 1), (1, .int x), (2, .int y), (3, .int w)]) (st' := [.int w]) (M' := M) rfl ?_
            refine fin w _ rfl (Or.inr ⟨hw, no fun h => ?_⟩) rfl
            rcases h with h | ⟨p, hp, -⟩
            · exact h ⟨hx, hy, hw⟩
            · rw [hf] at hp; cases hp
        | some p =>
          obtain ⟨p1, p2, p3⟩ := zfnd_some hf
          have hWp := hW p (by omega)
          have ck : (nI p).toNatClampNeg = p := nI_clamp (by omega)
          have hin : zin (nI p) 24 = true := zin_nI (by omega) (by omega)
          show yOk 25 47 [(0, .ref 1), (1, .int x), (2, .int y), (3, .int w)] [.int (nI p)] M _ _
          refine yOk.adv 3 (pc' := 52) (lv' := [(4, .int (nI p)), (0, .ref 1), (1, .int x), (2, .int y), (3, .int w)]) (st' := [.int (-1), .int (nI p)]) (M' := M) rfl ?_
          refine yOk.if2 .ne _ _ _ _ rfl (fun c4 => ?_) (fun c4 => ?_)
          · refine yOk.adv 3 (pc' := 65) (lv' := [(4, .int (nI p)), (0, .ref 1), (1, .int x), (2, .int y), (3, .int w)]) (st' := [.int (nI p), .ref 4]) (M' := M) rfl ?_
            refine yOk.iald _ _ _ rfl rfl (hin) ?_
            rw [ck]
            refine yOk.adv 2 (pc' := 68) (lv' := [(4, .int (nI p)), (0, .ref 1), (1, .int x), (2, .int y), (3, .int w)]) (st' := [.int ((M.1 4 p) + w)]) (M' := M) rfl ?_
            unfold zwr at hWp
            have e : (M.1 4 p + w).toInt = (M.1 4 p).toInt + w.toInt := Kit.i32_add (by omega) (by omega)
            refine fin _ _ rfl ?_ rfl
            rw [e]
            by_cases hz : zwr ((M.1 4 p).toInt + w.toInt)
            · refine Or.inr ⟨hz, no fun h => ?_⟩
              rcases h with h | ⟨p', hp', hb⟩
              · exact h ⟨hx, hy, hw⟩
              · rw [hf] at hp'
                obtain rfl := Option.some.inj hp'
                exact hb hz
            · exact Or.inl ⟨hz, yes (Or.inr ⟨p, hf, hz⟩)⟩
          · exact absurd (zne_f c4) (nI_nm1 p (by omega))
      · rw [yes (Or.inl fun h => zne1 g3 c3 h.2.2)]
        refine yOk.adv 1 (pc' := 40) (lv' := [(0, .ref 1), (1, .int x), (2, .int y), (3, .int w)]) (st' := [.int (-2)]) (M' := M) rfl ?_
        exact yOk.ret _ rfl rfl rfl
    · exact out1 (Or.inl fun h => zne1 g2 c2 h.2.1)
theorem m_refusal_5 (M : zMm) (n : Nat) (hs : M.1 5 3 = nI n) (hn : n ≤ 24) (hW : ∀ p, p < n → zwr (M.1 8 p).toInt) (x y w : Int32) (v : Int32) (hv : (zbad (M.1 6) (M.1 7) (M.1 8) n x y w ∧ v = -2) ∨ (¬ zbad (M.1 6) (M.1 7) (M.1 8) n x y w ∧ v = 0)) : yOk 25 0 [(0, .ref 5), (1, .int x), (2, .int y), (3, .int w)] [] M (some (.int v)) M := by
  have yes : zbad (M.1 6) (M.1 7) (M.1 8) n x y w → v = -2 := fun h => hv.elim (fun z => z.2) (fun z => absurd h z.1)
  have no : ¬ zbad (M.1 6) (M.1 7) (M.1 8) n x y w → v = 0 := fun h => hv.elim (fun z => absurd z.1 h) (fun z => z.2)
  obtain ⟨r1, g1⟩ := zem (-24 ≤ x.toInt ∧ x.toInt ≤ 24)
  obtain ⟨r2, g2⟩ := zem (-24 ≤ y.toInt ∧ y.toInt ≤ 24)
  obtain ⟨r3, g3⟩ := zem (-10000 ≤ w.toInt ∧ w.toInt ≤ 10000)
  have out1 : zbad (M.1 6) (M.1 7) (M.1 8) n x y w → yOk 25 22 [(0, .ref 5), (1, .int x), (2, .int y), (3, .int w)] [] M (some (.int v)) M := by
    intro h
    rw [yes h]
    refine yOk.adv 1 (pc' := 24) (lv' := [(0, .ref 5), (1, .int x), (2, .int y), (3, .int w)]) (st' := [.int (-2)]) (M' := M) rfl ?_
    exact yOk.ret _ rfl rfl rfl
  refine yOk.adv 3 (pc' := 5) (lv' := [(0, .ref 5), (1, .int x), (2, .int y), (3, .int w)]) (st' := [.int 24, .int (-24), .int x]) (M' := M) rfl ?_
  refine yOk.call (M1 := M) _ rfl rfl rfl rfl rfl (m_fromV M x (-24) 24 (-24) 24 rfl rfl r1 g1) ?_
  show yOk 25 8 [(0, .ref 5), (1, .int x), (2, .int y), (3, .int w)] [.int r1] M _ _
  refine yOk.if1 .eq _ _ _ _ rfl (fun c1 => ?_) (fun c1 => ?_)
  · exact out1 (Or.inl fun h => zeq0 g1 c1 h.1)
  · refine yOk.adv 3 (pc' := 16) (lv' := [(0, .ref 5), (1, .int x), (2, .int y), (3, .int w)]) (st' := [.int 24, .int (-24), .int y]) (M' := M) rfl ?_
    refine yOk.call (M1 := M) _ rfl rfl rfl rfl rfl (m_fromV M y (-24) 24 (-24) 24 rfl rfl r2 g2) ?_
    show yOk 25 19 [(0, .ref 5), (1, .int x), (2, .int y), (3, .int w)] [.int r2] M _ _
    refine yOk.if1 .ne _ _ _ _ rfl (fun c2 => ?_) (fun c2 => ?_)
    · refine yOk.adv 3 (pc' := 32) (lv' := [(0, .ref 5), (1, .int x), (2, .int y), (3, .int w)]) (st' := [.int 10000, .int (-10000), .int w]) (M' := M) rfl ?_
      refine yOk.call (M1 := M) _ rfl rfl rfl rfl rfl (m_fromV M w (-10000) 10000 (-10000) 10000 rfl rfl r3 g3) ?_
      show yOk 25 35 [(0, .ref 5), (1, .int x), (2, .int y), (3, .int w)] [.int r3] M _ _
      refine yOk.if1 .ne _ _ _ _ rfl (fun c3 => ?_) (fun c3 => ?_)
      · have hx := zeq1 g1 c1
        have hy := zne0 g2 c2
        have hw := zne0 g3 c3
        refine yOk.adv 3 (pc' := 44) (lv' := [(0, .ref 5), (1, .int x), (2, .int y), (3, .int w)]) (st' := [.int y, .int x, .ref 5]) (M' := M) rfl ?_
        refine yOk.call (M1 := M) _ rfl rfl rfl rfl rfl (m_numberOf_5 M n hs hn x y) ?_
        show yOk 25 47 [(0, .ref 5), (1, .int x), (2, .int y), (3, .int w)] [.int (zfv (-1) (zfnd (M.1 6) (M.1 7) x y n 0))] M _ _
        have fin : ∀ (u : Int32) (lv : zL), zwfl 118 lv = true → ((¬ zwr u.toInt ∧ v = -2) ∨ (zwr u.toInt ∧ v = 0)) → zget lv 0 = some (.ref 5) → yOk 25 68 lv [.int u] M (some (.int v)) M := by
          intro u lv hlw hu h0
          have K : yOk 25 68 [] [.int u] M (some (.int v)) M := by
            obtain ⟨r4, g4⟩ := zem (-10000 ≤ u.toInt ∧ u.toInt ≤ 10000)
            refine yOk.adv 4 (pc' := 78) (lv' := [(5, .int u)]) (st' := [.int 10000, .int (-10000), .int u]) (M' := M) rfl ?_
            refine yOk.call (M1 := M) _ rfl rfl rfl rfl rfl (m_fromV M u (-10000) 10000 (-10000) 10000 rfl rfl r4 g4) ?_
            show yOk 25 81 [(5, .int u)] [.int r4] M _ _
            refine yOk.if1 .eq _ _ _ _ rfl (fun c4 => ?_) (fun c4 => ?_)
            · have : v = -2 := hu.elim (fun z => z.2) (fun z => absurd z.1 (zeq0 g4 c4))
              subst this
              refine yOk.adv 1 (pc' := 90) (lv' := [(5, .int u)]) (st' := [.int (-2)]) (M' := M) rfl ?_
              exact yOk.ret _ rfl rfl rfl
            · have : v = 0 := hu.elim (fun z => absurd (zeq1 g4 c4) z.1) (fun z => z.2)
              subst this
              refine yOk.adv 2 (pc' := 90) (lv' := [(5, .int u)]) (st' := [.int 0]) (M' := M) rfl ?_
              exact yOk.ret _ rfl rfl rfl
          exact K.drop ⟨fun q hq => (by cases hq), fun q hq => Or.inr (List.all_eq_true.mp hlw q hq)⟩
        cases hf : zfnd (M.1 6) (M.1 7) x y n 0 with
        | none =>
          show yOk 25 47 [(0, .ref 5), (1, .int x), (2, .int y), (3, .int w)] [.int (-1)] M _ _
          refine yOk.adv 3 (pc' := 52) (lv' := [(4, .int (-1)), (0, .ref 5), (1, .int x), (2, .int y), (3, .int w)]) (st' := [.int (-1), .int (-1)]) (M' := M) rfl ?_
          refine yOk.if2 .ne _ _ _ _ rfl (fun c4 => ?_) (fun c4 => ?_)
          · exact absurd c4 (by decide)
          · refine yOk.adv 2 (pc' := 68) (lv' := [(4, .int (-1)), (0, .ref 5), (1, .int x), (2, .int y), (3, .int w)]) (st' := [.int w]) (M' := M) rfl ?_
            refine fin w _ rfl (Or.inr ⟨hw, no fun h => ?_⟩) rfl
            rcases h with h | ⟨p, hp, -⟩
            · exact h ⟨hx, hy, hw⟩
            · rw [hf] at hp; cases hp
        | some p =>
          obtain ⟨p1, p2, p3⟩ := zfnd_some hf
          have hWp := hW p (by omega)
          have ck : (nI p).toNatClampNeg = p := nI_clamp (by omega)
          have hin : zin (nI p) 24 = true := zin_nI (by omega) (by omega)
          show yOk 25 47 [(0, .ref 5), (1, .int x), (2, .int y), (3, .int w)] [.int (nI p)] M _ _
          refine yOk.adv 3 (pc' := 52) (lv' := [(4, .int (nI p)), (0, .ref 5), (1, .int x), (2, .int y), (3, .int w)]) (st' := [.int (-1), .int (nI p)]) (M' := M) rfl ?_
          refine yOk.if2 .ne _ _ _ _ rfl (fun c4 => ?_) (fun c4 => ?_)
          · refine yOk.adv 3 (pc' := 65) (lv' := [(4, .int (nI p)), (0, .ref 5), (1, .int x), (2, .int y), (3, .int w)]) (st' := [.int (nI p), .ref 8]) (M' := M) rfl ?_
            refine yOk.iald _ _ _ rfl rfl (hin) ?_
            rw [ck]
            refine yOk.adv 2 (pc' := 68) (lv' := [(4, .int (nI p)), (0, .ref 5), (1, .int x), (2, .int y), (3, .int w)]) (st' := [.int ((M.1 8 p) + w)]) (M' := M) rfl ?_
            unfold zwr at hWp
            have e : (M.1 8 p + w).toInt = (M.1 8 p).toInt + w.toInt := Kit.i32_add (by omega) (by omega)
            refine fin _ _ rfl ?_ rfl
            rw [e]
            by_cases hz : zwr ((M.1 8 p).toInt + w.toInt)
            · refine Or.inr ⟨hz, no fun h => ?_⟩
              rcases h with h | ⟨p', hp', hb⟩
              · exact h ⟨hx, hy, hw⟩
              · rw [hf] at hp'
                obtain rfl := Option.some.inj hp'
                exact hb hz
            · exact Or.inl ⟨hz, yes (Or.inr ⟨p, hf, hz⟩)⟩
          · exact absurd (zne_f c4) (nI_nm1 p (by omega))
      · rw [yes (Or.inl fun h => zne1 g3 c3 h.2.2)]
        refine yOk.adv 1 (pc' := 40) (lv' := [(0, .ref 5), (1, .int x), (2, .int y), (3, .int w)]) (st' := [.int (-2)]) (M' := M) rfl ?_
        exact yOk.ret _ rfl rfl rfl
    · exact out1 (Or.inl fun h => zne1 g2 c2 h.2.1)
