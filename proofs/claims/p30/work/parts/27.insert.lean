/-! ===== Orbit.insert of the class ===== -/
theorem m_isAhead (M : zMm) (l : List zPt) (hO : zOrb 9 2 10 11 M l) (i : Nat) (hi : i < l.length) (q p : zPt) (hq : l[i]? = some q) (v : Int32) (hv : (zpl q p ∧ v = 1) ∨ (¬ zpl q p ∧ v = 0)) : yOk 18 0 [(0, .ref 9), (1, .int (nI i)), (2, .int p.1), (3, .int p.2)] [] M (some (.int v)) M := by
  have hx := (hO.2.2 i q hq).1
  have hy := (hO.2.2 i q hq).2
  have hl := hO.2.1
  have ck : (nI i).toNatClampNeg = i := nI_clamp (by omega)
  have hin : zin (nI i) 8 = true := zin_nI (by omega) (by omega)
  have yes : zpl q p → yOk 18 30 [(0, .ref 9), (1, .int (nI i)), (2, .int p.1), (3, .int p.2)] [] M (some (.int v)) M := by
    intro h
    have : v = 1 := hv.elim (fun z => z.2) (fun z => absurd h z.1)
    subst this
    refine yOk.adv 2 (pc' := 35) (lv' := [(0, .ref 9), (1, .int (nI i)), (2, .int p.1), (3, .int p.2)]) (st' := [.int 1]) (M' := M) rfl ?_
    exact yOk.ret _ rfl rfl rfl
  have no : ¬ zpl q p → yOk 18 34 [(0, .ref 9), (1, .int (nI i)), (2, .int p.1), (3, .int p.2)] [] M (some (.int v)) M := by
    intro h
    have : v = 0 := hv.elim (fun z => absurd z.1 h) (fun z => z.2)
    subst this
    refine yOk.adv 1 (pc' := 35) (lv' := [(0, .ref 9), (1, .int (nI i)), (2, .int p.1), (3, .int p.2)]) (st' := [.int 0]) (M' := M) rfl ?_
    exact yOk.ret _ rfl rfl rfl
  refine yOk.adv 3 (pc' := 5) (lv' := [(0, .ref 9), (1, .int (nI i)), (2, .int p.1), (3, .int p.2)]) (st' := [.int (nI i), .ref 10]) (M' := M) rfl ?_
  refine yOk.iald _ _ _ rfl rfl (hin) ?_
  rw [ck, hx]
  refine yOk.adv 1 (pc' := 7) (lv' := [(0, .ref 9), (1, .int (nI i)), (2, .int p.1), (3, .int p.2)]) (st' := [.int p.1, .int q.1]) (M' := M) rfl ?_
  refine yOk.if2 .lt _ _ _ _ rfl (fun c1 => ?_) (fun c1 => ?_)
  · exact yes (Or.inl (zlt_t c1))
  · refine yOk.adv 3 (pc' := 15) (lv' := [(0, .ref 9), (1, .int (nI i)), (2, .int p.1), (3, .int p.2)]) (st' := [.int (nI i), .ref 10]) (M' := M) rfl ?_
    refine yOk.iald _ _ _ rfl rfl (hin) ?_
    rw [ck, hx]
    refine yOk.adv 1 (pc' := 17) (lv' := [(0, .ref 9), (1, .int (nI i)), (2, .int p.1), (3, .int p.2)]) (st' := [.int p.1, .int q.1]) (M' := M) rfl ?_
    refine yOk.if2 .ne _ _ _ _ rfl (fun c2 => ?_) (fun c2 => ?_)
    · exact no (fun h => h.elim (zlt_f c1) (fun h => zne_t c2 h.1))
    · refine yOk.adv 3 (pc' := 25) (lv' := [(0, .ref 9), (1, .int (nI i)), (2, .int p.1), (3, .int p.2)]) (st' := [.int (nI i), .ref 11]) (M' := M) rfl ?_
      refine yOk.iald _ _ _ rfl rfl (hin) ?_
      rw [ck, hy]
      refine yOk.adv 1 (pc' := 27) (lv' := [(0, .ref 9), (1, .int (nI i)), (2, .int p.1), (3, .int p.2)]) (st' := [.int p.2, .int q.2]) (M' := M) rfl ?_
      refine yOk.if2 .ge _ _ _ _ rfl (fun c3 => ?_) (fun c3 => ?_)
      · exact no (fun h => h.elim (zlt_f c1) (fun h => zge_t c3 h.2))
      · exact yes (Or.inr ⟨zne_f c2, zge_f c3⟩)
/-- the way to the place -/
theorem m_insert_find (M N : zMm) (r : Option Value) (l : List zPt) (hO : zOrb 9 2 10 11 M l) (p : zPt) (K : yOk 17 26 [(0, .ref 9), (1, .int p.1), (2, .int p.2), (3, .int (nI (zspot l p)))] [] M r N) : ∀ (d i : Nat), i + d = zspot l p → yOk 17 2 [(0, .ref 9), (1, .int p.1), (2, .int p.2), (3, .int (nI i))] [] M r N
  | d, i, h => by
    have hs := zspot_le l p
    have h8 := hO.2.1
    refine yOk.adv 3 (pc' := 7) (lv' := [(0, .ref 9), (1, .int p.1), (2, .int p.2), (3, .int (nI i))]) (st' := [.int (M.1 9 2), .int (nI i)]) (M' := M) rfl ?_
    rw [hO.1]
    refine yOk.if2 .ge _ _ _ _ rfl (fun c1 => ?_) (fun c1 => ?_)
    · have hge : ¬ i < l.length := fun hh => zge_t c1 (nI_lt hh (by omega))
      have : i = zspot l p := by omega
      subst this
      exact K
    · have hlt : i < l.length := Classical.byContradiction fun hh => absurd (zge_f c1) (nI_nlt (by omega) (by omega))
      obtain ⟨q, hq, -, -⟩ := hO.at hlt
      refine yOk.adv 4 (pc' := 14) (lv' := [(0, .ref 9), (1, .int p.1), (2, .int p.2), (3, .int (nI i))]) (st' := [.int p.2, .int p.1, .int (nI i), .ref 9]) (M' := M) rfl ?_
      match d, h with
      | 0, h =>
        have hi : i = zspot l p := by omega
        have hn : ¬ zpl q p := zspot_at l p q (by rw [← hi]; exact hq)
        refine yOk.call (M1 := M) _ rfl rfl rfl rfl rfl (m_isAhead M l hO i hlt q p hq 0 (Or.inr ⟨hn, rfl⟩)) ?_
        show yOk 17 17 [(0, .ref 9), (1, .int p.1), (2, .int p.2), (3, .int (nI i))] [.int 0] M _ _
        refine yOk.if1 .eq _ _ _ _ rfl (fun c2 => ?_) (fun c2 => ?_)
        · rw [hi]; exact K
        · exact absurd c2 (by decide)
      | d + 1, h =>
        have hp : zpl q p := zspot_lt l p i q (by omega) hq
        refine yOk.call (M1 := M) _ rfl rfl rfl rfl rfl (m_isAhead M l hO i hlt q p hq 1 (Or.inl ⟨hp, rfl⟩)) ?_
        show yOk 17 17 [(0, .ref 9), (1, .int p.1), (2, .int p.2), (3, .int (nI i))] [.int 1] M _ _
        refine yOk.if1 .eq _ _ _ _ rfl (fun c2 => ?_) (fun c2 => ?_)
        · exact absurd c2 (by decide)
        · refine yOk.adv 2 (pc' := 2) (lv' := [(3, .int (nI i + 1)), (0, .ref 9), (1, .int p.1), (2, .int p.2)]) (st' := []) (M' := M) rfl ?_
          have ih := m_insert_find M N r l hO p K d (i + 1) (by omega)
          rw [nI_succ] at ih
          exact ih.drop (by refine ⟨?_, ?_⟩ <;> simp [zget, zwf])
theorem m_insert_shift (M : zMm) (l : List zPt) (hO : zOrb 9 2 10 11 M l) (hlt : l.length < 8) (p : zPt) : ∀ (d i : Nat), zspot l p + d = i → i ≤ l.length → yOk 17 82 [(0, .ref 9), (1, .int p.1), (2, .int p.2), (3, .int (nI (zspot l p))), (5, .int (nI i))] [] (zshf M 10 11 i l.length) none (zinsM 9 2 10 11 M (zspot l p) l.length p)
  | 0, i, h, hi => by
    have : i = zspot l p := by omega
    subst this
    have ck : (nI (zspot l p)).toNatClampNeg = zspot l p := nI_clamp (by omega)
    have hin : zin (nI (zspot l p)) 8 = true := zin_nI (by omega) (by omega)
    refine yOk.adv 2 (pc' := 85) (lv' := [(0, .ref 9), (1, .int p.1), (2, .int p.2), (3, .int (nI (zspot l p))), (5, .int (nI (zspot l p)))]) (st' := [.int (nI (zspot l p)), .int (nI (zspot l p))]) (M' := zshf M 10 11 (zspot l p) l.length) rfl ?_
    refine yOk.if2 .le _ _ _ _ rfl (fun c1 => ?_) (fun c1 => ?_)
    · refine yOk.adv 4 (pc' := 132) (lv' := [(0, .ref 9), (1, .int p.1), (2, .int p.2), (3, .int (nI (zspot l p))), (5, .int (nI (zspot l p)))]) (st' := [.int p.1, .int (nI (zspot l p)), .ref 10]) (M' := zshf M 10 11 (zspot l p) l.length) rfl ?_
      refine yOk.iast _ _ _ rfl rfl (hin) ?_
      rw [ck]
      refine yOk.adv 4 (pc' := 139) (lv' := [(0, .ref 9), (1, .int p.1), (2, .int p.2), (3, .int (nI (zspot l p))), (5, .int (nI (zspot l p)))]) (st' := [.int p.2, .int (nI (zspot l p)), .ref 11]) (M' := zup (zshf M 10 11 (zspot l p) l.length) 10 (zspot l p) p.1) rfl ?_
      refine yOk.iast _ _ _ rfl rfl (hin) ?_
      rw [ck]
      refine yOk.adv 3 (pc' := 145) (lv' := [(0, .ref 9), (1, .int p.1), (2, .int p.2), (3, .int (nI (zspot l p))), (5, .int (nI (zspot l p)))]) (st' := [.int ((zup (zup (zshf M 10 11 (zspot l p) l.length) 10 (zspot l p) p.1) 11 (zspot l p) p.2).1 9 2), .ref 9]) (M' := zup (zup (zshf M 10 11 (zspot l p) l.length) 10 (zspot l p) p.1) 11 (zspot l p) p.2) rfl ?_
      have e : (zup (zup (zshf M 10 11 (zspot l p) l.length) 10 (zspot l p) p.1) 11 (zspot l p) p.2).1 9 2 = nI l.length := by
        rw [← hO.1]
        unfold zup zshf
        simp
      rw [e]
      refine yOk.adv 2 (pc' := 147) (lv' := [(0, .ref 9), (1, .int p.1), (2, .int p.2), (3, .int (nI (zspot l p))), (5, .int (nI (zspot l p)))]) (st' := [.int ((nI l.length) + 1), .ref 9]) (M' := zup (zup (zshf M 10 11 (zspot l p) l.length) 10 (zspot l p) p.1) 11 (zspot l p) p.2) rfl ?_
      rw [← nI_succ]
      refine yOk.adv 1 (pc' := 150) (lv' := [(0, .ref 9), (1, .int p.1), (2, .int p.2), (3, .int (nI (zspot l p))), (5, .int (nI (zspot l p)))]) (st' := []) (M' := zup (zup (zup (zshf M 10 11 (zspot l p) l.length) 10 (zspot l p) p.1) 11 (zspot l p) p.2) 9 2 (nI (l.length + 1))) rfl ?_
      exact yOk.ret _ rfl rfl rfl
    · exact absurd (zle_f c1) (nI_nlt (Nat.le_refl _) (by omega))
  | d + 1, i, h, hi => by
    obtain ⟨j, rfl⟩ : ∃ j, i = j + 1 := ⟨i - 1, by omega⟩
    have ck : (nI (j + 1)).toNatClampNeg = j + 1 := nI_clamp (by omega)
    have ck2 : (nI j).toNatClampNeg = j := nI_clamp (by omega)
    have hin : zin (nI (j + 1)) 8 = true := zin_nI (by omega) (by omega)
    have hin2 : zin (nI j) 8 = true := zin_nI (by omega) (by omega)
    have hsub : nI (j + 1) - 1 = nI j := by rw [nI_succ, Int32.add_sub_cancel]
    refine yOk.adv 2 (pc' := 85) (lv' := [(0, .ref 9), (1, .int p.1), (2, .int p.2), (3, .int (nI (zspot l p))), (5, .int (nI (j + 1)))]) (st' := [.int (nI (zspot l p)), .int (nI (j + 1))]) (M' := zshf M 10 11 (j + 1) l.length) rfl ?_
    refine yOk.if2 .le _ _ _ _ rfl (fun c1 => ?_) (fun c1 => ?_)
    · exact absurd (nI_lt (show zspot l p < j + 1 by omega) (by omega)) (zle_t c1)
    · refine yOk.adv 8 (pc' := 102) (lv' := [(0, .ref 9), (1, .int p.1), (2, .int p.2), (3, .int (nI (zspot l p))), (5, .int (nI (j + 1)))]) (st' := [.int ((nI (j + 1)) - 1), .ref 10, .int (nI (j + 1)), .ref 10]) (M' := zshf M 10 11 (j + 1) l.length) rfl ?_
      rw [hsub]
      refine yOk.iald _ _ _ rfl rfl (hin2) ?_
      rw [ck2, zshf_at M 10 11 (j + 1) l.length 10 (by omega)]
      refine yOk.iast _ _ _ rfl rfl (hin) ?_
      rw [ck]
      refine yOk.adv 8 (pc' := 118) (lv' := [(0, .ref 9), (1, .int p.1), (2, .int p.2), (3, .int (nI (zspot l p))), (5, .int (nI (j + 1)))]) (st' := [.int ((nI (j + 1)) - 1), .ref 11, .int (nI (j + 1)), .ref 11]) (M' := zup (zshf M 10 11 (j + 1) l.length) 10 (j + 1) (M.1 10 j)) rfl ?_
      rw [hsub]
      refine yOk.iald _ _ _ rfl rfl (hin2) ?_
      have e : (zup (zshf M 10 11 (j + 1) l.length) 10 (j + 1) (M.1 10 j)).1 11 (nI j).toNatClampNeg = M.1 11 j := by
        rw [ck2]
        unfold zup
        dsimp only
        rw [if_neg (by omega)]
        exact zshf_at M 10 11 (j + 1) l.length 11 (by omega)
      rw [e]
      refine yOk.iast _ _ _ rfl rfl (hin) ?_
      rw [ck, zshf_step M (by decide) hi]
      refine yOk.adv 2 (pc' := 82) (lv' := [(5, .int (nI (j + 1) + (-1))), (0, .ref 9), (1, .int p.1), (2, .int p.2), (3, .int (nI (zspot l p)))]) (st' := []) (M' := zshf M 10 11 j l.length) rfl ?_
      rw [show nI (j + 1) + (-1) = nI j from (Int32.sub_eq_add_neg (nI (j + 1)) 1).symm.trans hsub]
      have ih := m_insert_shift M l hO hlt p d j (by omega) (by omega)
      exact ih.drop (by refine ⟨?_, ?_⟩ <;> simp [zget, zwf])
/-- the numbers behind an insertion, whether the place was there or not -/
def zinsR (c f ax ay : Nat) (M : zMm) (l : List zPt) (p : zPt) : zMm := if l[zspot l p]? = some p then M else zinsM c f ax ay M (zspot l p) l.length p
theorem zinsR_ok {c f ax ay : Nat} {M : zMm} {l : List zPt} {p : zPt} (hcx : c ≠ ax) (hcy : c ≠ ay) (hxy : ax ≠ ay) (hO : zOrb c f ax ay M l) (hlt : (oins l p).length ≤ 8) : zOrb c f ax ay (zinsR c f ax ay M l p) (oins l p) ∧ zFr c f ax ay M (zinsR c f ax ay M l p) := by
  unfold zinsR
  by_cases h : l[zspot l p]? = some p
  · rw [if_pos h, oins_eq, if_pos h]
    exact ⟨hO, fun _ _ _ _ _ => rfl, rfl⟩
  · rw [if_neg h]
    have : (oins l p).length = l.length + 1 := by
      have hs := zspot_le l p
      rw [oins_eq, if_neg h]; simp; omega
    exact ⟨zinsM_orb hcx hcy hxy hO (by omega) h, zinsM_fr M _ _ p⟩
theorem m_insert (M : zMm) (l : List zPt) (hO : zOrb 9 2 10 11 M l) (p : zPt) (hlt : (oins l p).length ≤ 8) : yOk 17 0 [(0, .ref 9), (1, .int p.1), (2, .int p.2)] [] M none (zinsR 9 2 10 11 M l p) := by
  have hs := zspot_le l p
  have h8 := hO.2.1
  have ck : (nI (zspot l p)).toNatClampNeg = zspot l p := nI_clamp (by omega)
  refine yOk.adv 2 (pc' := 2) (lv' := [(3, .int 0), (0, .ref 9), (1, .int p.1), (2, .int p.2)]) (st' := []) (M' := M) rfl ?_
  refine (m_insert_find M (zinsR 9 2 10 11 M l p) none l hO p ?_ (zspot l p) 0 (by omega)).drop (by refine ⟨?_, ?_⟩ <;> simp [zget, zwf, nI])
  -- at the place
  have K : ∀ v : Int32, (l[zspot l p]? = some p ∧ v = 1) ∨ (¬ l[zspot l p]? = some p ∧ v = 0) → yOk 17 59 [(0, .ref 9), (1, .int p.1), (2, .int p.2), (3, .int (nI (zspot l p)))] [.int v] M none (zinsR 9 2 10 11 M l p) := by
    intro v hv
    refine yOk.adv 2 (pc' := 63) (lv' := [(4, .int v), (0, .ref 9), (1, .int p.1), (2, .int p.2), (3, .int (nI (zspot l p)))]) (st' := [.int v]) (M' := M) rfl ?_
    refine yOk.if1 .ne _ _ _ _ rfl (fun c1 => ?_) (fun c1 => ?_)
    · have hy : l[zspot l p]? = some p := hv.elim (fun z => z.1) (fun z => by rw [z.2] at c1; exact absurd c1 (by decide))
      unfold zinsR
      rw [if_pos hy]
      exact yOk.ret _ rfl rfl rfl
    · have hn : ¬ l[zspot l p]? = some p := hv.elim (fun z => by rw [z.2] at c1; exact absurd c1 (by decide)) (fun z => z.1)
      have hl8 : l.length < 8 := by
        have : (oins l p).length = l.length + 1 := by rw [oins_eq, if_neg hn]; simp; omega
        omega
      unfold zinsR
      rw [if_neg hn]
      refine yOk.adv 3 (pc' := 72) (lv' := [(4, .int v), (0, .ref 9), (1, .int p.1), (2, .int p.2), (3, .int (nI (zspot l p)))]) (st' := [.int 8, .int (M.1 9 2)]) (M' := M) rfl ?_
      rw [hO.1]
      refine yOk.if2 .lt _ _ _ _ rfl (fun c2 => ?_) (fun c2 => ?_)
      · refine yOk.adv 2 (pc' := 80) (lv' := [(4, .int v), (0, .ref 9), (1, .int p.1), (2, .int p.2), (3, .int (nI (zspot l p)))]) (st' := [.int (M.1 9 2)]) (M' := M) rfl ?_
        rw [hO.1]
        refine yOk.adv 1 (pc' := 82) (lv' := [(5, .int (nI l.length)), (4, .int v), (0, .ref 9), (1, .int p.1), (2, .int p.2), (3, .int (nI (zspot l p)))]) (st' := []) (M' := M) rfl ?_
        have h := m_insert_shift M l hO hl8 p (l.length - zspot l p) l.length (by omega) (Nat.le_refl _)
        rw [zshf_n] at h
        exact h.drop (by refine ⟨?_, ?_⟩ <;> simp [zget, zwf])
      · exact absurd (nI_lt (show l.length < 8 by omega) (by omega)) (zlt_f c2)
  have no : ¬ l[zspot l p]? = some p → yOk 17 58 [(0, .ref 9), (1, .int p.1), (2, .int p.2), (3, .int (nI (zspot l p)))] [] M none (zinsR 9 2 10 11 M l p) := by
    intro h
    refine yOk.adv 1 (pc' := 59) (lv' := [(0, .ref 9), (1, .int p.1), (2, .int p.2), (3, .int (nI (zspot l p)))]) (st' := [.int 0]) (M' := M) rfl ?_
    exact K 0 (Or.inr ⟨h, rfl⟩)
  refine yOk.adv 3 (pc' := 31) (lv' := [(0, .ref 9), (1, .int p.1), (2, .int p.2), (3, .int (nI (zspot l p)))]) (st' := [.int (M.1 9 2), .int (nI (zspot l p))]) (M' := M) rfl ?_
  rw [hO.1]
  refine yOk.if2 .ge _ _ _ _ rfl (fun c1 => ?_) (fun c1 => ?_)
  · refine no (fun h => zge_t c1 (nI_lt ((List.getElem?_eq_some_iff.mp h).1) (by omega)))
  · have hlt2 : zspot l p < l.length := Classical.byContradiction fun hh => absurd (zge_f c1) (nI_nlt (by omega) (by omega))
    obtain ⟨q, hq, hx, hy⟩ := hO.at hlt2
    have hin : zin (nI (zspot l p)) 8 = true := zin_nI (by omega) (by omega)
    refine yOk.adv 3 (pc' := 39) (lv' := [(0, .ref 9), (1, .int p.1), (2, .int p.2), (3, .int (nI (zspot l p)))]) (st' := [.int (nI (zspot l p)), .ref 10]) (M' := M) rfl ?_
    refine yOk.iald _ _ _ rfl rfl (hin) ?_
    rw [ck, hx]
    refine yOk.adv 1 (pc' := 41) (lv' := [(0, .ref 9), (1, .int p.1), (2, .int p.2), (3, .int (nI (zspot l p)))]) (st' := [.int p.1, .int q.1]) (M' := M) rfl ?_
    refine yOk.if2 .ne _ _ _ _ rfl (fun c2 => ?_) (fun c2 => ?_)
    · refine no (fun h => zne_t c2 ?_)
      rw [hq] at h
      rw [Option.some.inj h]
    · refine yOk.adv 3 (pc' := 49) (lv' := [(0, .ref 9), (1, .int p.1), (2, .int p.2), (3, .int (nI (zspot l p)))]) (st' := [.int (nI (zspot l p)), .ref 11]) (M' := M) rfl ?_
      refine yOk.iald _ _ _ rfl rfl (hin) ?_
      rw [ck, hy]
      refine yOk.adv 1 (pc' := 51) (lv' := [(0, .ref 9), (1, .int p.1), (2, .int p.2), (3, .int (nI (zspot l p)))]) (st' := [.int p.2, .int q.2]) (M' := M) rfl ?_
      refine yOk.if2 .ne _ _ _ _ rfl (fun c3 => ?_) (fun c3 => ?_)
      · refine no (fun h => zne_t c3 ?_)
        rw [hq] at h
        rw [Option.some.inj h]
      · refine yOk.adv 2 (pc' := 59) (lv' := [(0, .ref 9), (1, .int p.1), (2, .int p.2), (3, .int (nI (zspot l p)))]) (st' := [.int 1]) (M' := M) rfl ?_
        exact K 1 (Or.inl ⟨by rw [hq]; exact congrArg some (Prod.ext (zne_f c2) (zne_f c3)), rfl⟩)
