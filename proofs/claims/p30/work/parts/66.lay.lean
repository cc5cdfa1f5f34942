/-! ===== of the reference: layPair, putAside, takeBack ===== -/
theorem zRu.app {c f ax ay aw : Nat} {M : zMm} {L : zPl} (h : zRu c f ax ay aw M L) (d1 : c ≠ ax) (d2 : c ≠ ay) (d3 : c ≠ aw) (d4 : ax ≠ ay) (d5 : ax ≠ aw) (d6 : ay ≠ aw) (hlt : L.length < 24) (x y w : Int32) : zRu c f ax ay aw (zup (zup (zup (zup M ax L.length x) ay L.length y) aw L.length w) c f (nI (L.length + 1))) (L ++ [((x, y), w)]) := by
  refine ⟨?_, ?_, fun p e hp => ?_⟩
  · rw [zup_i, if_pos ⟨rfl, rfl⟩, List.length_append]; rfl
  · rw [List.length_append]; simp; omega
  · have hc : ∀ (M' : zMm) (a : Nat) (v : Int32) (i : Nat), a ≠ c → (zup M' c f v).1 a i = M'.1 a i := fun M' a v i hn => by rw [zup_i, if_neg (fun z => hn z.1)]
    rw [hc _ ax _ _ d1.symm, hc _ ay _ _ d2.symm, hc _ aw _ _ d3.symm]
    simp only [zup_i]
    by_cases hlt2 : p < L.length
    · rw [List.getElem?_append_left hlt2] at hp
      obtain ⟨g1, g2, g3⟩ := h.2.2 p e hp
      have hne : ¬ p = L.length := by omega
      simp only [hne, and_false, if_false]
      exact ⟨g1, g2, g3⟩
    · have he : p = L.length := by
        have := (List.getElem?_eq_some_iff.mp hp).1
        rw [List.length_append] at this
        simp at this
        omega
      subst he
      rw [List.getElem?_append_right (Nat.le_refl _)] at hp
      simp at hp
      subst hp
      simp only [d4, d5, d6, false_and, if_false, and_self, if_true]
theorem r_lay_in {Q : Option Value → zMm → Prop} (M0 : zMm) (ps : List zPt) (wy : Int32) (w1 w2 ww : Int64) (hww : (wy = 0 ∧ ww = w1) ∨ (¬ wy = 0 ∧ ww = w2)) (i j q : Int32) (Lz : zPl) (K : ∀ M', zRu 93 7 94 95 96 M' Lz → M'.2 93 31 = w1 → M'.2 93 32 = w2 → zKp [94, 95, 96] [(93, 7)] M0 M' → yR 144 149 [(0, .ref 93), (1, .int i), (2, .int j), (3, .int q), (4, .int wy)] [] M' Q) :
    ∀ (d k : Nat) (M : zMm) (L : zPl), k + d = ps.length → zOrb 93 13 97 98 M ps → zRu 93 7 94 95 96 M L → L.length + d ≤ 24 → L ++ (ps.drop k).map (fun p => (p, ww.toInt32)) = Lz → M.2 93 31 = w1 → M.2 93 32 = w2 → zKp [94, 95, 96] [(93, 7)] M0 M →
    yR 144 66 [(0, .ref 93), (1, .int i), (2, .int j), (3, .int q), (4, .int wy), (5, .int (nI k))] [] M Q := by
  intro d
  induction d using Nat.strongRecOn with
  | ind d ih =>
    intro k M L h hO hR h24 hz h1 h2 hE
    have hlen := hO.2.1
    refine yR.adv 3 (pc' := 72) (lv' := [(0, .ref 93), (1, .int i), (2, .int j), (3, .int q), (4, .int wy), (5, .int (nI k))]) (st' := [.int (M.1 93 13), .int (nI k)]) (M' := M) rfl ?_
    rw [hO.1]
    refine yR.if2 .ge _ _ _ _ rfl (fun q1 => ?_) (fun q1 => ?_)
    · have q1' : (ps.length : Int) ≤ k := zcT q1 (nI_toInt (by omega)) (nI_toInt (by omega))
      rw [List.drop_eq_nil_of_le (by omega)] at hz
      have hz' : Lz = L := by rw [← hz]; simp
      subst hz'
      exact (K M hR h1 h2 hE).drop (by refine ⟨?_, ?_⟩ <;> simp [zget, zwf])
    · have q1' : ¬ (ps.length : Int) ≤ k := zcF q1 (nI_toInt (by omega)) (nI_toInt (by omega))
      obtain ⟨p, hp1, hp2, hp3⟩ := hO.at (show k < ps.length by omega)
      have hdr : ps.drop k = p :: ps.drop (k + 1) := by
        have h1 := List.drop_eq_getElem_cons (show k < ps.length by omega)
        rw [h1]
        congr 1
        have h2 := List.getElem?_eq_getElem (show k < ps.length by omega)
        rw [h2] at hp1
        exact Option.some.inj hp1
      rw [hdr] at hz
      refine yR.adv 7 (pc' := 89) (lv' := [(0, .ref 93), (1, .int i), (2, .int j), (3, .int q), (4, .int wy), (5, .int (nI k))]) (st' := [.int (nI k), .ref 97, .int (M.1 93 7), .ref 94]) (M' := M) rfl ?_
      refine yR.iald k _ _ _ rfl rfl (by decide) (rfl) (by omega) ?_
      rw [hp2]
      refine yR.iast L.length _ _ _ rfl rfl (by decide) (hR.1) (by omega) ?_
      generalize g1 : zup M 94 L.length p.1 = M1
      have s1 : M1.1 93 7 = nI L.length := by rw [← g1, zup_i, if_neg (by omega)]; exact hR.1
      have y1 : M1.1 98 k = p.2 := by rw [← g1, zup_i, if_neg (by omega)]; exact hp3
      refine yR.adv 7 (pc' := 105) (lv' := [(0, .ref 93), (1, .int i), (2, .int j), (3, .int q), (4, .int wy), (5, .int (nI k))]) (st' := [.int (nI k), .ref 98, .int (M1.1 93 7), .ref 95]) (M' := M1) rfl ?_
      refine yR.iald k _ _ _ rfl rfl (by decide) (rfl) (by omega) ?_
      rw [y1]
      refine yR.iast L.length _ _ _ rfl rfl (by decide) (s1) (by omega) ?_
      generalize g2 : zup M1 95 L.length p.2 = M2
      have s2 : M2.1 93 7 = nI L.length := by rw [← g2, zup_i, if_neg (by omega)]; exact s1
      have x1 : M2.2 93 31 = w1 := by rw [← g2, ← g1]; exact h1
      have x2 : M2.2 93 32 = w2 := by rw [← g2, ← g1]; exact h2
      refine yR.adv 5 (pc' := 117) (lv' := [(0, .ref 93), (1, .int i), (2, .int j), (3, .int q), (4, .int wy), (5, .int (nI k))]) (st' := [.int wy, .int (M2.1 93 7), .ref 96]) (M' := M2) rfl ?_
      rw [s2]
      have fin : yR 144 131 [(0, .ref 93), (1, .int i), (2, .int j), (3, .int q), (4, .int wy), (5, .int (nI k))] [.long ww, .int (nI L.length), .ref 96] M2 Q := by
        refine yR.adv 1 (pc' := 132) (lv' := [(0, .ref 93), (1, .int i), (2, .int j), (3, .int q), (4, .int wy), (5, .int (nI k))]) (st' := [.int ww.toInt32, .int (nI L.length), .ref 96]) (M' := M2) rfl ?_
        refine yR.iast L.length _ _ _ rfl rfl (by decide) (rfl) (by omega) ?_
        generalize g3 : zup M2 96 L.length ww.toInt32 = M3
        have s3 : M3.1 93 7 = nI L.length := by rw [← g3, zup_i, if_neg (by omega)]; exact s2
        refine yR.adv 8 (pc' := 66) (lv' := [(5, .int (nI k + 1)), (0, .ref 93), (1, .int i), (2, .int j), (3, .int q), (4, .int wy)]) (st' := []) (M' := zup M3 93 7 ((M3.1 93 7) + 1)) rfl ?_
        rw [s3]
        generalize g4 : zup M3 93 7 (((nI L.length)) + 1) = M4
        have hM4 : zup (zup (zup (zup M 94 L.length p.1) 95 L.length p.2) 96 L.length ww.toInt32) 93 7 (nI (L.length + 1)) = M4 := by rw [← g4, ← g3, ← g2, ← g1, nI_succ]
        have R4 := hR.app (by decide) (by decide) (by decide) (by decide) (by decide) (by decide) (show L.length < 24 by omega) p.1 p.2 ww.toInt32
        rw [hM4] at R4
        have E4 : zKp [94, 95, 96] [(93, 7)] M M4 := by rw [← hM4]; exact ((((zKp.refl _ _ M).up (by simp)).up (by simp)).up (by simp)).up (by simp)
        have fr : ∀ a i, a ≠ 94 → a ≠ 95 → a ≠ 96 → (a ≠ 93 ∨ i ≠ 7) → M4.1 a i = M.1 a i ∧ M4.2 a i = M.2 a i := fun a i n1 n2 n3 n4 => E4 a i (by simp [n1, n2, n3]) (by simp; omega)
        have K2 := ih (d - 1) (by omega) (k + 1) M4 (L ++ [(p, ww.toInt32)]) (by omega) ⟨by rw [(fr 93 13 (by omega) (by omega) (by omega) (by omega)).1]; exact hO.1, hO.2.1, fun j p' hj => by rw [(fr 97 j (by omega) (by omega) (by omega) (by omega)).1, (fr 98 j (by omega) (by omega) (by omega) (by omega)).1]; exact hO.2.2 j p' hj⟩ R4 (by simp; omega) (by rw [← hz]; simp) (by rw [(fr 93 31 (by omega) (by omega) (by omega) (by omega)).2]; exact h1) (by rw [(fr 93 32 (by omega) (by omega) (by omega) (by omega)).2]; exact h2) (hE.trans E4)
        exact (K2).drop (by refine ⟨?_, ?_⟩ <;> simp [zget, zwf, nI_succ])
      refine yR.if1 .ne _ _ _ _ rfl (fun q2 => ?_) (fun q2 => ?_)
      · have q2' := zne_t q2
        have hw : ww = w2 := hww.elim (fun z => absurd z.1 q2') (fun z => z.2)
        refine yR.adv 2 (pc' := 131) (lv' := [(0, .ref 93), (1, .int i), (2, .int j), (3, .int q), (4, .int wy), (5, .int (nI k))]) (st' := [.long (M2.2 93 32), .int (nI L.length), .ref 96]) (M' := M2) rfl ?_
        rw [x2, ← hw]
        exact fin
      · have q2' := zne_f q2
        have hw : ww = w1 := hww.elim (fun z => z.2) (fun z => absurd q2' z.1)
        refine yR.adv 3 (pc' := 131) (lv' := [(0, .ref 93), (1, .int i), (2, .int j), (3, .int q), (4, .int wy), (5, .int (nI k))]) (st' := [.long (M2.2 93 31), .int (nI L.length), .ref 96]) (M' := M2) rfl ?_
        rw [x1, ← hw]
        exact fin
theorem r_layPair (M : zMm) (dom : Nat) (hdom : dom < 3) (q : Nat) (hq : 1 ≤ q ∧ q ≤ 6) (i j : Nat) (hij : i < j) (hj : j < (zreps dom q).length) (hG : zRp dom q M (zreps dom q)) (x1 : M.2 93 30 = zpW dom q (zfr dom q i) (zcnt dom q i) (zfr dom q j) (zcnt dom q j)) (x2 : M.2 93 31 = zp1 dom q (zfr dom q i) (zcnt dom q i) (zfr dom q j) (zcnt dom q j)) (x3 : M.2 93 32 = zp2 dom q (zfr dom q i) (zcnt dom q i) (zfr dom q j) (zcnt dom q j)) :
    yR 144 0 [(0, .ref 93), (1, .int (nI i)), (2, .int (nI j)), (3, .int (iI q))] [] M (fun r N => r = none ∧ zRu 93 7 94 95 96 N (zpair dom q i j) ∧ N.1 93 5 = iI q ∧ N.1 93 6 = (zpW dom q (zfr dom q i) (zcnt dom q i) (zfr dom q j) (zcnt dom q j)).toInt32 ∧ zKp [94, 95, 96, 97, 98] [(93, 5), (93, 6), (93, 7), (93, 13)] M N) := by
  have hl := zreps_len dom hdom q (by omega)
  have hi : i < (zreps dom q).length := by omega
  obtain ⟨i1, i2, i3, i4⟩ := hG.2.2 i _ (zpt_get hi)
  obtain ⟨j1, j2, j3, j4⟩ := hG.2.2 j _ (zpt_get hj)
  have ci := zorb_len dom q (zpt dom q i)
  have cj := zorb_len dom q (zpt dom q j)
  refine yR.adv 11 (pc' := 19) (lv' := [(0, .ref 93), (1, .int (nI i)), (2, .int (nI j)), (3, .int (iI q))]) (st' := []) (M' := zup (zup (zup M 93 5 (iI q)) 93 6 (((zup M 93 5 (iI q)).2 93 30).toInt32)) 93 7 0) rfl ?_
  have w2e : (zup M 93 5 (iI q)).2 93 30 = zpW dom q (zfr dom q i) (zcnt dom q i) (zfr dom q j) (zcnt dom q j) := x1
  rw [w2e]
  generalize g1 : zup (zup (zup M 93 5 (iI q)) 93 6 ((zpW dom q (zfr dom q i) (zcnt dom q i) (zfr dom q j) (zcnt dom q j)).toInt32)) 93 7 0 = M1
  have E1 : zKp [94, 95, 96, 97, 98] [(93, 5), (93, 6), (93, 7), (93, 13)] M M1 := by rw [← g1]; exact (((zKp.refl _ _ M).up (by simp)).up (by simp)).up (by simp)
  have a5 : M1.1 93 5 = iI q := by rw [← g1]; simp [zup_i]
  have a6 : M1.1 93 6 = (zpW dom q (zfr dom q i) (zcnt dom q i) (zfr dom q j) (zcnt dom q j)).toInt32 := by rw [← g1]; simp [zup_i]
  have a7 : M1.1 93 7 = nI 0 := by rw [← g1]; simp [zup_i]; rfl
  have a4 : M1.1 93 4 = nI dom := by rw [(E1 93 4 (by decide) (by decide)).1]; exact hG.1
  have k1 : M1.1 110 i = iI (zpt dom q i).1 := by rw [(E1 110 i (by decide) (by simp)).1]; exact i1
  have k2 : M1.1 111 i = iI (zpt dom q i).2 := by rw [(E1 111 i (by decide) (by simp)).1]; exact i2
  refine yR.adv 4 (pc' := 25) (lv' := [(4, .int 0), (0, .ref 93), (1, .int (nI i)), (2, .int (nI j)), (3, .int (iI q))]) (st' := [.int 2, .int 0]) (M' := M1) rfl ?_
  refine yR.if2 .ge _ _ _ _ rfl (fun q1 => ?_) (fun q1 => ?_)
  · exact absurd q1 (by decide)
  · refine yR.adv 4 (pc' := 35) (lv' := [(4, .int 0), (0, .ref 93), (1, .int (nI i)), (2, .int (nI j)), (3, .int (iI q))]) (st' := [.int 0, .ref 110, .ref 93]) (M' := M1) rfl ?_
    refine yR.if1 .ne _ _ _ _ rfl (fun q2 => ?_) (fun q2 => ?_)
    · exact absurd q2 (by decide)
    · refine yR.adv 2 (pc' := 43) (lv' := [(4, .int 0), (0, .ref 93), (1, .int (nI i)), (2, .int (nI j)), (3, .int (iI q))]) (st' := [.int (nI i), .ref 110, .ref 93]) (M' := M1) rfl ?_
      refine yR.iald i _ _ _ rfl rfl (by decide) (rfl) (by omega) ?_
      rw [k1]
      refine yR.adv 3 (pc' := 50) (lv' := [(4, .int 0), (0, .ref 93), (1, .int (nI i)), (2, .int (nI j)), (3, .int (iI q))]) (st' := [.int 0, .ref 111, .int (iI (zpt dom q i).1), .ref 93]) (M' := M1) rfl ?_
      refine yR.if1 .ne _ _ _ _ rfl (fun q3 => ?_) (fun q3 => ?_)
      · exact absurd q3 (by decide)
      · refine yR.adv 2 (pc' := 58) (lv' := [(4, .int 0), (0, .ref 93), (1, .int (nI i)), (2, .int (nI j)), (3, .int (iI q))]) (st' := [.int (nI i), .ref 111, .int (iI (zpt dom q i).1), .ref 93]) (M' := M1) rfl ?_
        refine yR.iald i _ _ _ rfl rfl (by decide) (rfl) (by omega) ?_
        rw [k2]
        refine yR.adv 1 (pc' := 60) (lv' := [(4, .int 0), (0, .ref 93), (1, .int (nI i)), (2, .int (nI j)), (3, .int (iI q))]) (st' := [.int (iI q), .int (iI (zpt dom q i).2), .int (iI (zpt dom q i).1), .ref 93]) (M' := M1) rfl ?_
        refine yR.call _ rfl rfl rfl rfl rfl (r_orbitE M1 (nI dom) (iI q) (iI (zpt dom q i).1) (iI (zpt dom q i).2) a4) (fun r1 M2 hq => ?_)
        obtain ⟨rfl, o2, e2⟩ := hq
        show yR 144 63 [(4, .int 0), (0, .ref 93), (1, .int (nI i)), (2, .int (nI j)), (3, .int (iI q))] [] M2 _
        have o2' : zOrb 93 13 97 98 M2 (zorb dom q (zpt dom q i)) := o2
        have E2 : zKp [94, 95, 96, 97, 98] [(93, 5), (93, 6), (93, 7), (93, 13)] M1 M2 := e2.mono (by simp <;> omega) (by simp <;> omega)
        have R2 : zRu 93 7 94 95 96 M2 [] := ⟨by rw [(e2 93 7 (by decide) (by decide)).1]; exact a7, by simp, fun p e h => by simp at h⟩
        refine yR.adv 2 (pc' := 66) (lv' := [(5, .int 0), (4, .int 0), (0, .ref 93), (1, .int (nI i)), (2, .int (nI j)), (3, .int (iI q))]) (st' := []) (M' := M2) rfl ?_
        refine yR.drop (lv := [(0, .ref 93), (1, .int (nI i)), (2, .int (nI j)), (3, .int (iI q)), (4, .int 0), (5, .int (nI 0))]) (by refine ⟨?_, ?_⟩ <;> simp [zget, zwf] <;> rfl) ?_
        refine r_lay_in M2 (zorb dom q (zpt dom q i)) 0 (zp1 dom q (zfr dom q i) (zcnt dom q i) (zfr dom q j) (zcnt dom q j)) (zp2 dom q (zfr dom q i) (zcnt dom q i) (zfr dom q j) (zcnt dom q j)) (zp1 dom q (zfr dom q i) (zcnt dom q i) (zfr dom q j) (zcnt dom q j)) (Or.inl ⟨rfl, rfl⟩) (nI i) (nI j) (iI q) _ (fun M3 R3 y1 y2 e3 => ?_) _ 0 M2 [] (Nat.zero_add _) o2' R2 (by simp; omega) rfl (by rw [(e2 93 31 (by decide) (by decide)).2, (E1 93 31 (by decide) (by decide)).2]; exact x2) (by rw [(e2 93 32 (by decide) (by decide)).2, (E1 93 32 (by decide) (by decide)).2]; exact x3) (zKp.refl _ _ _)
        rw [List.nil_append, List.drop_zero] at R3
        have E3 : zKp [94, 95, 96, 97, 98] [(93, 5), (93, 6), (93, 7), (93, 13)] M2 M3 := e3.mono (by simp <;> omega) (by simp <;> omega)
        have b4 : M3.1 93 4 = nI dom := by rw [(e3 93 4 (by decide) (by decide)).1, (e2 93 4 (by decide) (by decide)).1]; exact a4
        have b5 : M3.1 93 5 = iI q := by rw [(e3 93 5 (by decide) (by decide)).1, (e2 93 5 (by decide) (by decide)).1]; exact a5
        have b6 : M3.1 93 6 = (zpW dom q (zfr dom q i) (zcnt dom q i) (zfr dom q j) (zcnt dom q j)).toInt32 := by rw [(e3 93 6 (by decide) (by decide)).1, (e2 93 6 (by decide) (by decide)).1]; exact a6
        have E13 : zKp [94, 95, 96, 97, 98] [(93, 5), (93, 6), (93, 7), (93, 13)] M M3 := (E1.trans E2).trans E3
        have l1 : M3.1 110 j = iI (zpt dom q j).1 := by rw [(E13 110 j (by decide) (by simp)).1]; exact j1
        have l2 : M3.1 111 j = iI (zpt dom q j).2 := by rw [(E13 111 j (by decide) (by simp)).1]; exact j2
        refine yR.adv 4 (pc' := 25) (lv' := [(4, .int (0 + 1)), (0, .ref 93), (1, .int (nI i)), (2, .int (nI j)), (3, .int (iI q))]) (st' := [.int 2, .int (0 + 1)]) (M' := M3) rfl ?_
        refine yR.if2 .ge _ _ _ _ rfl (fun q4 => ?_) (fun q4 => ?_)
        · exact absurd q4 (by decide)
        · refine yR.adv 4 (pc' := 35) (lv' := [(4, .int (0 + 1)), (0, .ref 93), (1, .int (nI i)), (2, .int (nI j)), (3, .int (iI q))]) (st' := [.int (0 + 1), .ref 110, .ref 93]) (M' := M3) rfl ?_
          refine yR.if1 .ne _ _ _ _ rfl (fun q5 => ?_) (fun q5 => ?_)
          · refine yR.adv 1 (pc' := 43) (lv' := [(4, .int (0 + 1)), (0, .ref 93), (1, .int (nI i)), (2, .int (nI j)), (3, .int (iI q))]) (st' := [.int (nI j), .ref 110, .ref 93]) (M' := M3) rfl ?_
            refine yR.iald j _ _ _ rfl rfl (by decide) (rfl) (by omega) ?_
            rw [l1]
            refine yR.adv 3 (pc' := 50) (lv' := [(4, .int (0 + 1)), (0, .ref 93), (1, .int (nI i)), (2, .int (nI j)), (3, .int (iI q))]) (st' := [.int (0 + 1), .ref 111, .int (iI (zpt dom q j).1), .ref 93]) (M' := M3) rfl ?_
            refine yR.if1 .ne _ _ _ _ rfl (fun q6 => ?_) (fun q6 => ?_)
            · refine yR.adv 1 (pc' := 58) (lv' := [(4, .int (0 + 1)), (0, .ref 93), (1, .int (nI i)), (2, .int (nI j)), (3, .int (iI q))]) (st' := [.int (nI j), .ref 111, .int (iI (zpt dom q j).1), .ref 93]) (M' := M3) rfl ?_
              refine yR.iald j _ _ _ rfl rfl (by decide) (rfl) (by omega) ?_
              rw [l2]
              refine yR.adv 1 (pc' := 60) (lv' := [(4, .int (0 + 1)), (0, .ref 93), (1, .int (nI i)), (2, .int (nI j)), (3, .int (iI q))]) (st' := [.int (iI q), .int (iI (zpt dom q j).2), .int (iI (zpt dom q j).1), .ref 93]) (M' := M3) rfl ?_
              refine yR.call _ rfl rfl rfl rfl rfl (r_orbitE M3 (nI dom) (iI q) (iI (zpt dom q j).1) (iI (zpt dom q j).2) b4) (fun r1 M4 hq => ?_)
              obtain ⟨rfl, o4, e4⟩ := hq
              show yR 144 63 [(4, .int (0 + 1)), (0, .ref 93), (1, .int (nI i)), (2, .int (nI j)), (3, .int (iI q))] [] M4 _
              have o4' : zOrb 93 13 97 98 M4 (zorb dom q (zpt dom q j)) := o4
              have E4 : zKp [94, 95, 96, 97, 98] [(93, 5), (93, 6), (93, 7), (93, 13)] M3 M4 := e4.mono (by simp <;> omega) (by simp <;> omega)
              have R4 := R3.keep (N := M4) (e4 93 7 (by decide) (by decide)).1 (fun i => (e4 94 i (by decide) (by simp)).1) (fun i => (e4 95 i (by decide) (by simp)).1) (fun i => (e4 96 i (by decide) (by simp)).1)
              refine yR.adv 2 (pc' := 66) (lv' := [(5, .int 0), (4, .int (0 + 1)), (0, .ref 93), (1, .int (nI i)), (2, .int (nI j)), (3, .int (iI q))]) (st' := []) (M' := M4) rfl ?_
              refine yR.drop (lv := [(0, .ref 93), (1, .int (nI i)), (2, .int (nI j)), (3, .int (iI q)), (4, .int 1), (5, .int (nI 0))]) (by refine ⟨?_, ?_⟩ <;> simp [zget, zwf] <;> rfl) ?_
              refine r_lay_in M4 (zorb dom q (zpt dom q j)) 1 (zp1 dom q (zfr dom q i) (zcnt dom q i) (zfr dom q j) (zcnt dom q j)) (zp2 dom q (zfr dom q i) (zcnt dom q i) (zfr dom q j) (zcnt dom q j)) (zp2 dom q (zfr dom q i) (zcnt dom q i) (zfr dom q j) (zcnt dom q j)) (Or.inr ⟨by decide, rfl⟩) (nI i) (nI j) (iI q) _ (fun M5 R5 y3 y4 e5 => ?_) _ 0 M4 _ (Nat.zero_add _) o4' R4 (by rw [List.length_map]; omega) rfl (by rw [(e4 93 31 (by decide) (by decide)).2]; exact y1) (by rw [(e4 93 32 (by decide) (by decide)).2]; exact y2) (zKp.refl _ _ _)
              rw [List.drop_zero] at R5
              have E5 : zKp [94, 95, 96, 97, 98] [(93, 5), (93, 6), (93, 7), (93, 13)] M4 M5 := e5.mono (by simp <;> omega) (by simp <;> omega)
              refine yR.adv 4 (pc' := 25) (lv' := [(4, .int (1 + 1)), (0, .ref 93), (1, .int (nI i)), (2, .int (nI j)), (3, .int (iI q))]) (st' := [.int 2, .int (1 + 1)]) (M' := M5) rfl ?_
              refine yR.if2 .ge _ _ _ _ rfl (fun q7 => ?_) (fun q7 => ?_)
              · refine yR.ret _ rfl rfl rfl ?_
                refine ⟨rfl, ?_, ?_, ?_, (E13.trans E4).trans E5⟩
                · exact R5
                · rw [(e5 93 5 (by decide) (by decide)).1, (e4 93 5 (by decide) (by decide)).1]; exact b5
                · rw [(e5 93 6 (by decide) (by decide)).1, (e4 93 6 (by decide) (by decide)).1]; exact b6
              · exact absurd q7 (by decide)
            · exact absurd q6 (by decide)
          · exact absurd q5 (by decide)
theorem r_put_loop (M0 : zMm) (n : Nat) (hn : n ≤ 24) : ∀ (d i : Nat) (M : zMm), i + d = n → M.1 93 7 = nI n → (∀ p, p < i → M.1 114 p = M0.1 94 p ∧ M.1 115 p = M0.1 95 p ∧ M.1 116 p = M0.1 96 p) → zKp [114, 115, 116] [] M0 M →
    yR 145 26 [(0, .ref 93), (1, .int (nI i))] [] M (fun r N => r = none ∧ (∀ p, p < n → N.1 114 p = M0.1 94 p ∧ N.1 115 p = M0.1 95 p ∧ N.1 116 p = M0.1 96 p) ∧ zKp [114, 115, 116] [] M0 N) := by
  intro d
  induction d using Nat.strongRecOn with
  | ind d ih =>
    intro i M h hs hp hE
    refine yR.adv 3 (pc' := 31) (lv' := [(0, .ref 93), (1, .int (nI i))]) (st' := [.int (M.1 93 7), .int (nI i)]) (M' := M) rfl ?_
    rw [hs]
    refine yR.if2 .ge _ _ _ _ rfl (fun q1 => ?_) (fun q1 => ?_)
    · have q1' : (n : Int) ≤ i := zcT q1 (nI_toInt (by omega)) (nI_toInt (by omega))
      refine yR.ret _ rfl rfl rfl ?_
      exact ⟨rfl, fun p hp' => hp p (by omega), hE⟩
    · have q1' : ¬ (n : Int) ≤ i := zcF q1 (nI_toInt (by omega)) (nI_toInt (by omega))
      refine yR.adv 6 (pc' := 44) (lv' := [(0, .ref 93), (1, .int (nI i))]) (st' := [.int (nI i), .ref 94, .int (nI i), .ref 114]) (M' := M) rfl ?_
      refine yR.iald i _ _ _ rfl rfl (by decide) (rfl) (by omega) ?_
      refine yR.iast i _ _ _ rfl rfl (by decide) (rfl) (by omega) ?_
      generalize g1 : zup M 114 i (M.1 94 i) = M1
      refine yR.adv 6 (pc' := 56) (lv' := [(0, .ref 93), (1, .int (nI i))]) (st' := [.int (nI i), .ref 95, .int (nI i), .ref 115]) (M' := M1) rfl ?_
      refine yR.iald i _ _ _ rfl rfl (by decide) (rfl) (by omega) ?_
      refine yR.iast i _ _ _ rfl rfl (by decide) (rfl) (by omega) ?_
      generalize g2 : zup M1 115 i (M1.1 95 i) = M2
      refine yR.adv 6 (pc' := 68) (lv' := [(0, .ref 93), (1, .int (nI i))]) (st' := [.int (nI i), .ref 96, .int (nI i), .ref 116]) (M' := M2) rfl ?_
      refine yR.iald i _ _ _ rfl rfl (by decide) (rfl) (by omega) ?_
      refine yR.iast i _ _ _ rfl rfl (by decide) (rfl) (by omega) ?_
      generalize g3 : zup M2 116 i (M2.1 96 i) = M3
      have r0 : M.1 94 i = M0.1 94 i := (hE 94 i (by decide) (by simp)).1
      have r1 : M1.1 95 i = M0.1 95 i := by rw [← g1, zup_i, if_neg (by omega)]; exact (hE 95 i (by decide) (by simp)).1
      have r2 : M2.1 96 i = M0.1 96 i := by rw [← g2, ← g1, zup_i, if_neg (by omega), zup_i, if_neg (by omega)]; exact (hE 96 i (by decide) (by simp)).1
      rw [r0] at g1
      rw [r1] at g2
      rw [r2] at g3
      refine yR.adv 2 (pc' := 26) (lv' := [(1, .int (nI i + 1)), (0, .ref 93)]) (st' := []) (M' := M3) rfl ?_
      have K := ih (d - 1) (by omega) (i + 1) M3 (by omega) (by rw [← g3, ← g2, ← g1]; simp [zup_i, hs]) (fun p hp' => by
        rw [← g3, ← g2, ← g1]
        simp only [zup_i]
        by_cases e : p = i
        · subst e
          simp
        · have := hp p (by omega)
          simpa [e] using this) (by rw [← g3, ← g2, ← g1]; exact ((hE.up (by simp)).up (by simp)).up (by simp))
      exact (K).drop (by refine ⟨?_, ?_⟩ <;> simp [zget, zwf, nI_succ])
theorem r_putAside (M : zMm) (L : zPl) (hR : zRu 93 7 94 95 96 M L) : yR 145 0 [(0, .ref 93)] [] M (fun r N => r = none ∧ zRu 93 33 114 115 116 N L ∧ N.1 93 34 = M.1 93 5 ∧ N.1 93 35 = M.1 93 6 ∧ zKp [114, 115, 116] [(93, 33), (93, 34), (93, 35)] M N) := by
  refine yR.adv 12 (pc' := 24) (lv' := [(0, .ref 93)]) (st' := []) (M' := zup (zup (zup M 93 33 (M.1 93 7)) 93 34 ((zup M 93 33 (M.1 93 7)).1 93 5)) 93 35 ((zup (zup M 93 33 (M.1 93 7)) 93 34 ((zup M 93 33 (M.1 93 7)).1 93 5)).1 93 6)) rfl ?_
  generalize g1 : zup (zup (zup M 93 33 (M.1 93 7)) 93 34 ((zup M 93 33 (M.1 93 7)).1 93 5)) 93 35 ((zup (zup M 93 33 (M.1 93 7)) 93 34 ((zup M 93 33 (M.1 93 7)).1 93 5)).1 93 6) = M1
  have E1 : zKp [114, 115, 116] [(93, 33), (93, 34), (93, 35)] M M1 := by rw [← g1]; exact (((zKp.refl _ _ M).up (by simp)).up (by simp)).up (by simp)
  have a1 : M1.1 93 33 = M.1 93 7 := by rw [← g1]; simp [zup_i]
  have a2 : M1.1 93 34 = M.1 93 5 := by rw [← g1]; simp [zup_i]
  have a3 : M1.1 93 35 = M.1 93 6 := by rw [← g1]; simp [zup_i]
  have a7 : M1.1 93 7 = nI L.length := by rw [(E1 93 7 (by decide) (by decide)).1]; exact hR.1
  refine yR.adv 2 (pc' := 26) (lv' := [(1, .int 0), (0, .ref 93)]) (st' := []) (M' := M1) rfl ?_
  have K := r_put_loop M1 L.length hR.2.1 L.length 0 M1 (Nat.zero_add _) a7 (fun p hp => absurd hp (by omega)) (zKp.refl _ _ _)
  refine (yR.drop (by refine ⟨?_, ?_⟩ <;> simp [zget, zwf, nI_0]) K).mono (fun r N hN => ?_)
  obtain ⟨n1, n2, n3⟩ := hN
  refine ⟨n1, ⟨?_, hR.2.1, fun p e hp => ?_⟩, ?_, ?_, E1.trans (n3.mono (by simp) (by simp))⟩
  · rw [(n3 93 33 (by decide) (by simp)).1, a1]; exact hR.1
  · obtain ⟨x1, x2, x3⟩ := n2 p (List.getElem?_eq_some_iff.mp hp).1
    rw [x1, x2, x3, (E1 94 p (by decide) (by simp)).1, (E1 95 p (by decide) (by simp)).1, (E1 96 p (by decide) (by simp)).1]
    exact hR.2.2 p e hp
  · rw [(n3 93 34 (by decide) (by simp)).1, a2]
  · rw [(n3 93 35 (by decide) (by simp)).1, a3]
theorem r_take_loop (M0 : zMm) (n : Nat) (hn : n ≤ 24) : ∀ (d i : Nat) (M : zMm), i + d = n → M.1 93 7 = nI n → (∀ p, p < i → M.1 94 p = M0.1 114 p ∧ M.1 95 p = M0.1 115 p ∧ M.1 96 p = M0.1 116 p) → zKp [94, 95, 96] [] M0 M →
    yR 146 26 [(0, .ref 93), (1, .int (nI i))] [] M (fun r N => r = none ∧ (∀ p, p < n → N.1 94 p = M0.1 114 p ∧ N.1 95 p = M0.1 115 p ∧ N.1 96 p = M0.1 116 p) ∧ zKp [94, 95, 96] [] M0 N) := by
  intro d
  induction d using Nat.strongRecOn with
  | ind d ih =>
    intro i M h hs hp hE
    refine yR.adv 3 (pc' := 31) (lv' := [(0, .ref 93), (1, .int (nI i))]) (st' := [.int (M.1 93 7), .int (nI i)]) (M' := M) rfl ?_
    rw [hs]
    refine yR.if2 .ge _ _ _ _ rfl (fun q1 => ?_) (fun q1 => ?_)
    · have q1' : (n : Int) ≤ i := zcT q1 (nI_toInt (by omega)) (nI_toInt (by omega))
      refine yR.ret _ rfl rfl rfl ?_
      exact ⟨rfl, fun p hp' => hp p (by omega), hE⟩
    · have q1' : ¬ (n : Int) ≤ i := zcF q1 (nI_toInt (by omega)) (nI_toInt (by omega))
      refine yR.adv 6 (pc' := 44) (lv' := [(0, .ref 93), (1, .int (nI i))]) (st' := [.int (nI i), .ref 114, .int (nI i), .ref 94]) (M' := M) rfl ?_
      refine yR.iald i _ _ _ rfl rfl (by decide) (rfl) (by omega) ?_
      refine yR.iast i _ _ _ rfl rfl (by decide) (rfl) (by omega) ?_
      generalize g1 : zup M 94 i (M.1 114 i) = M1
      refine yR.adv 6 (pc' := 56) (lv' := [(0, .ref 93), (1, .int (nI i))]) (st' := [.int (nI i), .ref 115, .int (nI i), .ref 95]) (M' := M1) rfl ?_
      refine yR.iald i _ _ _ rfl rfl (by decide) (rfl) (by omega) ?_
      refine yR.iast i _ _ _ rfl rfl (by decide) (rfl) (by omega) ?_
      generalize g2 : zup M1 95 i (M1.1 115 i) = M2
      refine yR.adv 6 (pc' := 68) (lv' := [(0, .ref 93), (1, .int (nI i))]) (st' := [.int (nI i), .ref 116, .int (nI i), .ref 96]) (M' := M2) rfl ?_
      refine yR.iald i _ _ _ rfl rfl (by decide) (rfl) (by omega) ?_
      refine yR.iast i _ _ _ rfl rfl (by decide) (rfl) (by omega) ?_
      generalize g3 : zup M2 96 i (M2.1 116 i) = M3
      have r0 : M.1 114 i = M0.1 114 i := (hE 114 i (by decide) (by simp)).1
      have r1 : M1.1 115 i = M0.1 115 i := by rw [← g1, zup_i, if_neg (by omega)]; exact (hE 115 i (by decide) (by simp)).1
      have r2 : M2.1 116 i = M0.1 116 i := by rw [← g2, ← g1, zup_i, if_neg (by omega), zup_i, if_neg (by omega)]; exact (hE 116 i (by decide) (by simp)).1
      rw [r0] at g1
      rw [r1] at g2
      rw [r2] at g3
      refine yR.adv 2 (pc' := 26) (lv' := [(1, .int (nI i + 1)), (0, .ref 93)]) (st' := []) (M' := M3) rfl ?_
      have K := ih (d - 1) (by omega) (i + 1) M3 (by omega) (by rw [← g3, ← g2, ← g1]; simp [zup_i, hs]) (fun p hp' => by
        rw [← g3, ← g2, ← g1]
        simp only [zup_i]
        by_cases e : p = i
        · subst e
          simp
        · have := hp p (by omega)
          simpa [e] using this) (by rw [← g3, ← g2, ← g1]; exact ((hE.up (by simp)).up (by simp)).up (by simp))
      exact (K).drop (by refine ⟨?_, ?_⟩ <;> simp [zget, zwf, nI_succ])
theorem r_takeBack (M : zMm) (L : zPl) (hR : zRu 93 33 114 115 116 M L) : yR 146 0 [(0, .ref 93)] [] M (fun r N => r = none ∧ zRu 93 7 94 95 96 N L ∧ N.1 93 5 = M.1 93 34 ∧ N.1 93 6 = M.1 93 35 ∧ zKp [94, 95, 96] [(93, 5), (93, 6), (93, 7)] M N) := by
  refine yR.adv 12 (pc' := 24) (lv' := [(0, .ref 93)]) (st' := []) (M' := zup (zup (zup M 93 7 (M.1 93 33)) 93 5 ((zup M 93 7 (M.1 93 33)).1 93 34)) 93 6 ((zup (zup M 93 7 (M.1 93 33)) 93 5 ((zup M 93 7 (M.1 93 33)).1 93 34)).1 93 35)) rfl ?_
  generalize g1 : zup (zup (zup M 93 7 (M.1 93 33)) 93 5 ((zup M 93 7 (M.1 93 33)).1 93 34)) 93 6 ((zup (zup M 93 7 (M.1 93 33)) 93 5 ((zup M 93 7 (M.1 93 33)).1 93 34)).1 93 35) = M1
  have E1 : zKp [94, 95, 96] [(93, 5), (93, 6), (93, 7)] M M1 := by rw [← g1]; exact (((zKp.refl _ _ M).up (by simp)).up (by simp)).up (by simp)
  have a1 : M1.1 93 7 = nI L.length := by rw [← g1]; simp [zup_i, hR.1]
  have a2 : M1.1 93 5 = M.1 93 34 := by rw [← g1]; simp [zup_i]
  have a3 : M1.1 93 6 = M.1 93 35 := by rw [← g1]; simp [zup_i]
  refine yR.adv 2 (pc' := 26) (lv' := [(1, .int 0), (0, .ref 93)]) (st' := []) (M' := M1) rfl ?_
  have K := r_take_loop M1 L.length hR.2.1 L.length 0 M1 (Nat.zero_add _) a1 (fun p hp => absurd hp (by omega)) (zKp.refl _ _ _)
  refine (yR.drop (by refine ⟨?_, ?_⟩ <;> simp [zget, zwf, nI_0]) K).mono (fun r N hN => ?_)
  obtain ⟨n1, n2, n3⟩ := hN
  refine ⟨n1, ⟨?_, hR.2.1, fun p e hp => ?_⟩, ?_, ?_, E1.trans (n3.mono (by simp) (by simp))⟩
  · rw [(n3 93 7 (by decide) (by simp)).1]; exact a1
  · obtain ⟨x1, x2, x3⟩ := n2 p (List.getElem?_eq_some_iff.mp hp).1
    rw [x1, x2, x3, (E1 114 p (by decide) (by simp)).1, (E1 115 p (by decide) (by simp)).1, (E1 116 p (by decide) (by simp)).1]
    exact hR.2.2 p e hp
  · rw [(n3 93 5 (by decide) (by simp)).1, a2]
  · rw [(n3 93 6 (by decide) (by simp)).1, a3]
