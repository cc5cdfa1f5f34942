/-! ===== take of the reference ===== -/
theorem r_take_find (M N : zMm) (r : Option Value) (l : List zPt) (hO : zOrb 93 13 97 98 M l) (p : zPt) (K : yOk 118 46 [(0, .ref 93), (1, .int p.1), (2, .int p.2), (3, .int (nI (zspot l p)))] [] M r N) : ∀ (d i : Nat), i + d = zspot l p → yOk 118 2 [(0, .ref 93), (1, .int p.1), (2, .int p.2), (3, .int (nI i))] [] M r N
  | d, i, h => by
    have hs := zspot_le l p
    have h8 := hO.2.1
    refine yOk.adv 3 (pc' := 7) (lv' := [(0, .ref 93), (1, .int p.1), (2, .int p.2), (3, .int (nI i))]) (st' := [.int (M.1 93 13), .int (nI i)]) (M' := M) rfl ?_
    rw [hO.1]
    refine yOk.if2 .ge _ _ _ _ rfl (fun c1 => ?_) (fun c1 => ?_)
    · have hge : ¬ i < l.length := fun hh => zge_t c1 (nI_lt hh (by omega))
      have : i = zspot l p := by omega
      subst this
      exact K
    · have hlt : i < l.length := Classical.byContradiction fun hh => absurd (zge_f c1) (nI_nlt (by omega) (by omega))
      obtain ⟨q, hq, hx, hy⟩ := hO.at hlt
      have ck : (nI i).toNatClampNeg = i := nI_clamp (by omega)
      have hin : zin (nI i) 8 = true := zin_nI (by omega) (by omega)
      have stop : ¬ zpl q p → yOk 118 46 [(0, .ref 93), (1, .int p.1), (2, .int p.2), (3, .int (nI i))] [] M r N := by
        intro hn
        have hi : i = zspot l p := by
          rcases Nat.lt_or_ge i (zspot l p) with hh | hh
          · exact absurd (zspot_lt l p i q hh hq) hn
          · omega
        rw [hi]
        exact K
      have on : zpl q p → yOk 118 40 [(0, .ref 93), (1, .int p.1), (2, .int p.2), (3, .int (nI i))] [] M r N := by
        intro hp
        match d, h with
        | 0, h =>
          have hi : i = zspot l p := by omega
          exact absurd hp (zspot_at l p q (by rw [← hi]; exact hq))
        | d + 1, h =>
          refine yOk.adv 2 (pc' := 2) (lv' := [(3, .int (nI i + 1)), (0, .ref 93), (1, .int p.1), (2, .int p.2)]) (st' := []) (M' := M) rfl ?_
          have ih := r_take_find M N r l hO p K d (i + 1) (by omega)
          rw [nI_succ] at ih
          exact ih.drop (by refine ⟨?_, ?_⟩ <;> simp [zget, zwf])
      refine yOk.adv 3 (pc' := 15) (lv' := [(0, .ref 93), (1, .int p.1), (2, .int p.2), (3, .int (nI i))]) (st' := [.int (nI i), .ref 97]) (M' := M) rfl ?_
      refine yOk.iald _ _ _ rfl rfl (hin) ?_
      rw [ck, hx]
      refine yOk.adv 1 (pc' := 17) (lv' := [(0, .ref 93), (1, .int p.1), (2, .int p.2), (3, .int (nI i))]) (st' := [.int p.1, .int q.1]) (M' := M) rfl ?_
      refine yOk.if2 .lt _ _ _ _ rfl (fun c2 => ?_) (fun c2 => ?_)
      · exact on (Or.inl (zlt_t c2))
      · refine yOk.adv 3 (pc' := 25) (lv' := [(0, .ref 93), (1, .int p.1), (2, .int p.2), (3, .int (nI i))]) (st' := [.int (nI i), .ref 97]) (M' := M) rfl ?_
        refine yOk.iald _ _ _ rfl rfl (hin) ?_
        rw [ck, hx]
        refine yOk.adv 1 (pc' := 27) (lv' := [(0, .ref 93), (1, .int p.1), (2, .int p.2), (3, .int (nI i))]) (st' := [.int p.1, .int q.1]) (M' := M) rfl ?_
        refine yOk.if2 .ne _ _ _ _ rfl (fun c3 => ?_) (fun c3 => ?_)
        · exact stop (fun h => h.elim (zlt_f c2) (fun h => zne_t c3 h.1))
        · refine yOk.adv 3 (pc' := 35) (lv' := [(0, .ref 93), (1, .int p.1), (2, .int p.2), (3, .int (nI i))]) (st' := [.int (nI i), .ref 98]) (M' := M) rfl ?_
          refine yOk.iald _ _ _ rfl rfl (hin) ?_
          rw [ck, hy]
          refine yOk.adv 1 (pc' := 37) (lv' := [(0, .ref 93), (1, .int p.1), (2, .int p.2), (3, .int (nI i))]) (st' := [.int p.2, .int q.2]) (M' := M) rfl ?_
          refine yOk.if2 .ge _ _ _ _ rfl (fun c4 => ?_) (fun c4 => ?_)
          · exact stop (fun h => h.elim (zlt_f c2) (fun h => zge_t c4 h.2))
          · exact on (Or.inr ⟨zne_f c3, zge_f c4⟩)
theorem r_take_shift (M : zMm) (l : List zPt) (hO : zOrb 93 13 97 98 M l) (hlt : l.length < 8) (p : zPt) : ∀ (d i : Nat), zspot l p + d = i → i ≤ l.length → yOk 118 81 [(0, .ref 93), (1, .int p.1), (2, .int p.2), (3, .int (nI (zspot l p))), (4, .int (nI i))] [] (zshf M 97 98 i l.length) none (zinsM 93 13 97 98 M (zspot l p) l.length p)
  | 0, i, h, hi => by
    have : i = zspot l p := by omega
    subst this
    have ck : (nI (zspot l p)).toNatClampNeg = zspot l p := nI_clamp (by omega)
    have hin : zin (nI (zspot l p)) 8 = true := zin_nI (by omega) (by omega)
    refine yOk.adv 2 (pc' := 84) (lv' := [(0, .ref 93), (1, .int p.1), (2, .int p.2), (3, .int (nI (zspot l p))), (4, .int (nI (zspot l p)))]) (st' := [.int (nI (zspot l p)), .int (nI (zspot l p))]) (M' := zshf M 97 98 (zspot l p) l.length) rfl ?_
    refine yOk.if2 .le _ _ _ _ rfl (fun c1 => ?_) (fun c1 => ?_)
    · refine yOk.adv 4 (pc' := 131) (lv' := [(0, .ref 93), (1, .int p.1), (2, .int p.2), (3, .int (nI (zspot l p))), (4, .int (nI (zspot l p)))]) (st' := [.int p.1, .int (nI (zspot l p)), .ref 97]) (M' := zshf M 97 98 (zspot l p) l.length) rfl ?_
      refine yOk.iast _ _ _ rfl rfl (hin) ?_
      rw [ck]
      refine yOk.adv 4 (pc' := 138) (lv' := [(0, .ref 93), (1, .int p.1), (2, .int p.2), (3, .int (nI (zspot l p))), (4, .int (nI (zspot l p)))]) (st' := [.int p.2, .int (nI (zspot l p)), .ref 98]) (M' := zup (zshf M 97 98 (zspot l p) l.length) 97 (zspot l p) p.1) rfl ?_
      refine yOk.iast _ _ _ rfl rfl (hin) ?_
      rw [ck]
      refine yOk.adv 3 (pc' := 144) (lv' := [(0, .ref 93), (1, .int p.1), (2, .int p.2), (3, .int (nI (zspot l p))), (4, .int (nI (zspot l p)))]) (st' := [.int ((zup (zup (zshf M 97 98 (zspot l p) l.length) 97 (zspot l p) p.1) 98 (zspot l p) p.2).1 93 13), .ref 93]) (M' := zup (zup (zshf M 97 98 (zspot l p) l.length) 97 (zspot l p) p.1) 98 (zspot l p) p.2) rfl ?_
      have e : (zup (zup (zshf M 97 98 (zspot l p) l.length) 97 (zspot l p) p.1) 98 (zspot l p) p.2).1 93 13 = nI l.length := by
        rw [← hO.1]
        unfold zup zshf
        simp
      rw [e]
      refine yOk.adv 2 (pc' := 146) (lv' := [(0, .ref 93), (1, .int p.1), (2, .int p.2), (3, .int (nI (zspot l p))), (4, .int (nI (zspot l p)))]) (st' := [.int ((nI l.length) + 1), .ref 93]) (M' := zup (zup (zshf M 97 98 (zspot l p) l.length) 97 (zspot l p) p.1) 98 (zspot l p) p.2) rfl ?_
      rw [← nI_succ]
      refine yOk.adv 1 (pc' := 149) (lv' := [(0, .ref 93), (1, .int p.1), (2, .int p.2), (3, .int (nI (zspot l p))), (4, .int (nI (zspot l p)))]) (st' := []) (M' := zup (zup (zup (zshf M 97 98 (zspot l p) l.length) 97 (zspot l p) p.1) 98 (zspot l p) p.2) 93 13 (nI (l.length + 1))) rfl ?_
      exact yOk.ret _ rfl rfl rfl
    · exact absurd (zle_f c1) (nI_nlt (Nat.le_refl _) (by omega))
  | d + 1, i, h, hi => by
    obtain ⟨j, rfl⟩ : ∃ j, i = j + 1 := ⟨i - 1, by omega⟩
    have ck : (nI (j + 1)).toNatClampNeg = j + 1 := nI_clamp (by omega)
    have ck2 : (nI j).toNatClampNeg = j := nI_clamp (by omega)
    have hin : zin (nI (j + 1)) 8 = true := zin_nI (by omega) (by omega)
    have hin2 : zin (nI j) 8 = true := zin_nI (by omega) (by omega)
    have hsub : nI (j + 1) - 1 = nI j := by rw [nI_succ, Int32.add_sub_cancel]
    refine yOk.adv 2 (pc' := 84) (lv' := [(0, .ref 93), (1, .int p.1), (2, .int p.2), (3, .int (nI (zspot l p))), (4, .int (nI (j + 1)))]) (st' := [.int (nI (zspot l p)), .int (nI (j + 1))]) (M' := zshf M 97 98 (j + 1) l.length) rfl ?_
    refine yOk.if2 .le _ _ _ _ rfl (fun c1 => ?_) (fun c1 => ?_)
    · exact absurd (nI_lt (show zspot l p < j + 1 by omega) (by omega)) (zle_t c1)
    · refine yOk.adv 8 (pc' := 101) (lv' := [(0, .ref 93), (1, .int p.1), (2, .int p.2), (3, .int (nI (zspot l p))), (4, .int (nI (j + 1)))]) (st' := [.int ((nI (j + 1)) - 1), .ref 97, .int (nI (j + 1)), .ref 97]) (M' := zshf M 97 98 (j + 1) l.length) rfl ?_
      rw [hsub]
      refine yOk.iald _ _ _ rfl rfl (hin2) ?_
      rw [ck2, zshf_at M 97 98 (j + 1) l.length 97 (by omega)]
      refine yOk.iast _ _ _ rfl rfl (hin) ?_
      rw [ck]
      refine yOk.adv 8 (pc' := 117) (lv' := [(0, .ref 93), (1, .int p.1), (2, .int p.2), (3, .int (nI (zspot l p))), (4, .int (nI (j + 1)))]) (st' := [.int ((nI (j + 1)) - 1), .ref 98, .int (nI (j + 1)), .ref 98]) (M' := zup (zshf M 97 98 (j + 1) l.length) 97 (j + 1) (M.1 97 j)) rfl ?_
      rw [hsub]
      refine yOk.iald _ _ _ rfl rfl (hin2) ?_
      have e : (zup (zshf M 97 98 (j + 1) l.length) 97 (j + 1) (M.1 97 j)).1 98 (nI j).toNatClampNeg = M.1 98 j := by
        rw [ck2]
        unfold zup
        dsimp only
        rw [if_neg (by omega)]
        exact zshf_at M 97 98 (j + 1) l.length 98 (by omega)
      rw [e]
      refine yOk.iast _ _ _ rfl rfl (hin) ?_
      rw [ck, zshf_step M (by decide) hi]
      refine yOk.adv 2 (pc' := 81) (lv' := [(4, .int (nI (j + 1) + (-1))), (0, .ref 93), (1, .int p.1), (2, .int p.2), (3, .int (nI (zspot l p)))]) (st' := []) (M' := zshf M 97 98 j l.length) rfl ?_
      rw [show nI (j + 1) + (-1) = nI j from (Int32.sub_eq_add_neg (nI (j + 1)) 1).symm.trans hsub]
      have ih := r_take_shift M l hO hlt p d j (by omega) (by omega)
      exact ih.drop (by refine ⟨?_, ?_⟩ <;> simp [zget, zwf])
theorem r_take (M : zMm) (l : List zPt) (hO : zOrb 93 13 97 98 M l) (p : zPt) (hlt : (oins l p).length ≤ 8) : yOk 118 0 [(0, .ref 93), (1, .int p.1), (2, .int p.2)] [] M none (zinsR 93 13 97 98 M l p) := by
  have hs := zspot_le l p
  have h8 := hO.2.1
  have ck : (nI (zspot l p)).toNatClampNeg = zspot l p := nI_clamp (by omega)
  refine yOk.adv 2 (pc' := 2) (lv' := [(3, .int 0), (0, .ref 93), (1, .int p.1), (2, .int p.2)]) (st' := []) (M' := M) rfl ?_
  refine (r_take_find M (zinsR 93 13 97 98 M l p) none l hO p ?_ (zspot l p) 0 (by omega)).drop (by refine ⟨?_, ?_⟩ <;> simp [zget, zwf, nI])
  have no : ¬ l[zspot l p]? = some p → yOk 118 75 [(0, .ref 93), (1, .int p.1), (2, .int p.2), (3, .int (nI (zspot l p)))] [] M none (zinsR 93 13 97 98 M l p) := by
    intro hn
    have hl8 : l.length < 8 := by
      have : (oins l p).length = l.length + 1 := by rw [oins_eq, if_neg hn]; simp; omega
      omega
    unfold zinsR
    rw [if_neg hn]
    refine yOk.adv 2 (pc' := 79) (lv' := [(0, .ref 93), (1, .int p.1), (2, .int p.2), (3, .int (nI (zspot l p)))]) (st' := [.int (M.1 93 13)]) (M' := M) rfl ?_
    rw [hO.1]
    refine yOk.adv 1 (pc' := 81) (lv' := [(4, .int (nI l.length)), (0, .ref 93), (1, .int p.1), (2, .int p.2), (3, .int (nI (zspot l p)))]) (st' := []) (M' := M) rfl ?_
    have h := r_take_shift M l hO hl8 p (l.length - zspot l p) l.length (by omega) (Nat.le_refl _)
    rw [zshf_n] at h
    exact h.drop (by refine ⟨?_, ?_⟩ <;> simp [zget, zwf])
  refine yOk.adv 3 (pc' := 51) (lv' := [(0, .ref 93), (1, .int p.1), (2, .int p.2), (3, .int (nI (zspot l p)))]) (st' := [.int (M.1 93 13), .int (nI (zspot l p))]) (M' := M) rfl ?_
  rw [hO.1]
  refine yOk.if2 .ge _ _ _ _ rfl (fun c1 => ?_) (fun c1 => ?_)
  · refine no (fun h => zge_t c1 (nI_lt ((List.getElem?_eq_some_iff.mp h).1) (by omega)))
  · have hlt2 : zspot l p < l.length := Classical.byContradiction fun hh => absurd (zge_f c1) (nI_nlt (by omega) (by omega))
    obtain ⟨q, hq, hx, hy⟩ := hO.at hlt2
    have hin : zin (nI (zspot l p)) 8 = true := zin_nI (by omega) (by omega)
    refine yOk.adv 3 (pc' := 59) (lv' := [(0, .ref 93), (1, .int p.1), (2, .int p.2), (3, .int (nI (zspot l p)))]) (st' := [.int (nI (zspot l p)), .ref 97]) (M' := M) rfl ?_
    refine yOk.iald _ _ _ rfl rfl (hin) ?_
    rw [ck, hx]
    refine yOk.adv 1 (pc' := 61) (lv' := [(0, .ref 93), (1, .int p.1), (2, .int p.2), (3, .int (nI (zspot l p)))]) (st' := [.int p.1, .int q.1]) (M' := M) rfl ?_
    refine yOk.if2 .ne _ _ _ _ rfl (fun c2 => ?_) (fun c2 => ?_)
    · refine no (fun h => zne_t c2 ?_)
      rw [hq] at h
      rw [Option.some.inj h]
    · refine yOk.adv 3 (pc' := 69) (lv' := [(0, .ref 93), (1, .int p.1), (2, .int p.2), (3, .int (nI (zspot l p)))]) (st' := [.int (nI (zspot l p)), .ref 98]) (M' := M) rfl ?_
      refine yOk.iald _ _ _ rfl rfl (hin) ?_
      rw [ck, hy]
      refine yOk.adv 1 (pc' := 71) (lv' := [(0, .ref 93), (1, .int p.1), (2, .int p.2), (3, .int (nI (zspot l p)))]) (st' := [.int p.2, .int q.2]) (M' := M) rfl ?_
      refine yOk.if2 .ne _ _ _ _ rfl (fun c3 => ?_) (fun c3 => ?_)
      · refine no (fun h => zne_t c3 ?_)
        rw [hq] at h
        rw [Option.some.inj h]
      · have hy2 : l[zspot l p]? = some p := by rw [hq]; exact congrArg some (Prod.ext (zne_f c2) (zne_f c3))
        unfold zinsR
        rw [if_pos hy2]
        exact yOk.ret _ rfl rfl rfl
