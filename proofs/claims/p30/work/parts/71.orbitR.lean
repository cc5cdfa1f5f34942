/-! ===== orbit, of the reference ===== -/
theorem r_layAll_loop {Q : Option Value → zMm → Prop} (M0 : zMm) (w : Int32) (ps : List zPt) (Lz : zPl) (K : ∀ M', zOrb 93 13 97 98 M' ps → zRu 93 7 94 95 96 M' Lz → zLok Lz → zKp [94, 95, 96] [(93, 7)] M0 M' → yR 127 188 [(0, .ref 93)] [] M' Q) : ∀ (d i : Nat) (M : zMm) (L : zPl), i + d = ps.length → zOrb 93 13 97 98 M ps → zRu 93 7 94 95 96 M L → zLok L → lgood w L (ps.drop i) → laddA L (ps.drop i) w = Lz → zKp [94, 95, 96] [(93, 7)] M0 M →
    yR 127 152 [(0, .ref 93), (3, .int w), (5, .int (nI i))] [] M Q := by
  intro d
  induction d using Nat.strongRecOn with
  | ind d ih =>
    intro i M L h hO hR hk hg hz hE
    have hlen := hO.2.1
    refine yR.adv 3 (pc' := 158) (lv' := [(0, .ref 93), (3, .int w), (5, .int (nI i))]) (st' := [.int (M.1 93 13), .int (nI i)]) (M' := M) rfl ?_
    rw [hO.1]
    refine yR.if2 .ge _ _ _ _ rfl (fun q1 => ?_) (fun q1 => ?_)
    · have q1' : (ps.length : Int) ≤ i := zcT q1 (nI_toInt (by omega)) (nI_toInt (by omega))
      rw [List.drop_eq_nil_of_le (by omega)] at hz
      have hz' : Lz = L := hz.symm
      subst hz'
      exact (K M hO hR hk hE).drop (by refine ⟨?_, ?_⟩ <;> simp [zget, zwf])
    · have q1' : ¬ (ps.length : Int) ≤ i := zcF q1 (nI_toInt (by omega)) (nI_toInt (by omega))
      obtain ⟨p, hp1, hp2, hp3⟩ := hO.at (show i < ps.length by omega)
      rw [zdrop_c hp1] at hg hz
      obtain ⟨⟨hb, hroom⟩, hg2⟩ := hg
      refine yR.adv 4 (pc' := 168) (lv' := [(0, .ref 93), (3, .int w), (5, .int (nI i))]) (st' := [.int (nI i), .ref 97, .ref 93]) (M' := M) rfl ?_
      refine yR.iald i _ _ _ rfl rfl (by decide) (rfl) (by omega) ?_
      refine yR.adv 3 (pc' := 175) (lv' := [(0, .ref 93), (3, .int w), (5, .int (nI i))]) (st' := [.int (nI i), .ref 98, .int (M.1 97 i), .ref 93]) (M' := M) rfl ?_
      refine yR.iald i _ _ _ rfl rfl (by decide) (rfl) (by omega) ?_
      rw [hp2, hp3]
      refine yR.adv 1 (pc' := 177) (lv' := [(0, .ref 93), (3, .int w), (5, .int (nI i))]) (st' := [.int w, .int p.2, .int p.1, .ref 93]) (M' := M) rfl ?_
      have hl := hR.lay (by decide) (by decide) (by decide) (by decide) (by decide) (by decide) p.1 p.2 w hroom
      refine yR.callK (M1 := zlayM 93 7 94 95 96 M L.length p.1 p.2 w) _ rfl rfl rfl rfl rfl (r_lay M L.length hR.1 hR.2.1 p.1 p.2 w (by rw [hR.fnd]; exact hroom)) ?_
      show yR 127 180 [(0, .ref 93), (3, .int w), (5, .int (nI i))] [.int (zlayR 94 95 M L.length p.1 p.2)] (zlayM 93 7 94 95 96 M L.length p.1 p.2 w) _
      generalize g1 : zlayM 93 7 94 95 96 M L.length p.1 p.2 w = M1
      rw [g1] at hl
      refine yR.adv 3 (pc' := 152) (lv' := [(5, .int (nI i + 1)), (6, .int (zlayR 94 95 M L.length p.1 p.2)), (0, .ref 93), (3, .int w)]) (st' := []) (M' := M1) rfl ?_
      have fr : ∀ a i, a ≠ 94 → a ≠ 95 → a ≠ 96 → (a ≠ 93 ∨ i ≠ 7) → M1.1 a i = M.1 a i := fun a i n1 n2 n3 n4 => (hl.2 a i (by simp [n1, n2, n3]) (by simp; omega)).1
      have K2 := ih (d - 1) (by omega) (i + 1) M1 (ladd L p w) (by omega) ⟨by rw [fr 93 13 (by omega) (by omega) (by omega) (by omega)]; exact hO.1, hO.2.1, fun j p' hj => by rw [fr 97 j (by omega) (by omega) (by omega) (by omega), fr 98 j (by omega) (by omega) (by omega) (by omega)]; exact hO.2.2 j p' hj⟩ hl.1 (hk.add hb) hg2 hz (hE.trans hl.2)
      exact (K2).drop (by refine ⟨?_, ?_⟩ <;> simp [zget, zwf, nI_succ])
theorem r_orbChk_loop {Q : Option Value → zMm → Prop} (M : zMm) (w : Int32) (hw : zwr w.toInt) (ps : List zPt) (L : zPl) (hO : zOrb 93 13 97 98 M ps) (hR : zRu 93 7 94 95 96 M L) (hk : zLok L) (K1 : (∃ p, p ∈ ps ∧ zbadL L p.1 p.2 w) → Q (some (.int (-2))) M) (K2 : ¬ (∃ p, p ∈ ps ∧ zbadL L p.1 p.2 w) → yR 127 134 [(0, .ref 93), (3, .int w), (4, .int (nI (lfr L ps)))] [] M Q) :
    ∀ (d i c : Nat), i + d = ps.length → c + lfr L (ps.drop i) = lfr L ps → ((∃ p, p ∈ ps ∧ zbadL L p.1 p.2 w) → ∃ p, p ∈ ps.drop i ∧ zbadL L p.1 p.2 w) → yR 127 35 [(0, .ref 93), (3, .int w), (4, .int (nI c)), (5, .int (nI i))] [] M Q := by
  have hlen := hO.2.1
  have hL24 := hR.2.1
  have hfl := lfr_le L ps
  intro d
  induction d using Nat.strongRecOn with
  | ind d ih =>
    intro i c h hc hb
    refine yR.adv 3 (pc' := 41) (lv' := [(0, .ref 93), (3, .int w), (4, .int (nI c)), (5, .int (nI i))]) (st' := [.int (M.1 93 13), .int (nI i)]) (M' := M) rfl ?_
    rw [hO.1]
    refine yR.if2 .ge _ _ _ _ rfl (fun q1 => ?_) (fun q1 => ?_)
    · have q1' : (ps.length : Int) ≤ i := zcT q1 (nI_toInt (by omega)) (nI_toInt (by omega))
      rw [List.drop_eq_nil_of_le (show ps.length ≤ i by omega)] at hc hb
      have hcc : c = lfr L ps := hc
      subst hcc
      have hnb : ¬ ∃ p, p ∈ ps ∧ zbadL L p.1 p.2 w := fun z => by
        obtain ⟨p, hp, _⟩ := hb z
        cases hp
      exact (K2 hnb).drop (by refine ⟨?_, ?_⟩ <;> simp [zget, zwf])
    · have q1' : ¬ (ps.length : Int) ≤ i := zcF q1 (nI_toInt (by omega)) (nI_toInt (by omega))
      obtain ⟨p, hp1, hp2, hp3⟩ := hO.at (show i < ps.length by omega)
      have hmem := List.mem_of_getElem? hp1
      rw [zdrop_c hp1] at hc hb
      have hn := zfv_none (o := lix L p 0) (c := -9) (fun k hk2 => nI_nm9 k (by have := lix_lt hk2; omega))
      have refuse : zbadL L p.1 p.2 w → ∀ lv : zL, zSub [] lv → yR 127 108 lv [] M Q := by
        intro hbd lv hs
        refine yR.drop hs ?_
        refine yR.adv 1 (pc' := 110) (lv' := []) (st' := [.int (-2)]) (M' := M) rfl ?_
        refine yR.ret _ rfl rfl rfl ?_
        exact K1 ⟨p, hmem, hbd⟩
      have next : ¬ zbadL L p.1 p.2 w → yR 127 111 [(0, .ref 93), (3, .int w), (4, .int (nI c)), (5, .int (nI i)), (6, .int (zfv (-9) (lix L p 0)))] [] M Q := by
        intro hnb
        have hb2 : (∃ p, p ∈ ps ∧ zbadL L p.1 p.2 w) → ∃ p, p ∈ ps.drop (i + 1) ∧ zbadL L p.1 p.2 w := fun z => by
          obtain ⟨p', h1, h2⟩ := hb z
          rcases List.mem_cons.mp h1 with e | e
          · rw [e] at h2; exact absurd h2 hnb
          · exact ⟨p', e, h2⟩
        refine yR.adv 3 (pc' := 117) (lv' := [(0, .ref 93), (3, .int w), (4, .int (nI c)), (5, .int (nI i)), (6, .int (zfv (-9) (lix L p 0)))]) (st' := [.int (-9), .int (zfv (-9) (lix L p 0)), .int (nI c)]) (M' := M) rfl ?_
        refine yR.if2 .ne _ _ _ _ rfl (fun q3 => ?_) (fun q3 => ?_)
        · have q3' := zne_t q3
          have hw : ¬ lw L p = none := fun z => q3' (hn.mpr (lix_none_lw.mpr z))
          rw [lfr_cons, if_neg hw] at hc
          refine yR.adv 5 (pc' := 35) (lv' := [(5, .int (nI i + 1)), (4, .int ((nI c) + 0)), (0, .ref 93), (3, .int w), (6, .int (zfv (-9) (lix L p 0)))]) (st' := []) (M' := M) rfl ?_
          rw [show nI c + 0 = nI c from by rw [show (0 : Int32) = nI 0 from rfl, nI_add]; rfl]
          exact (ih (d - 1) (by omega) (i + 1) c (by omega) (by omega) hb2).drop (by refine ⟨?_, ?_⟩ <;> simp [zget, zwf, nI_succ])
        · have q3' := zne_f q3
          have hw : lw L p = none := lix_none_lw.mp (hn.mp q3')
          rw [lfr_cons, if_pos hw] at hc
          refine yR.adv 6 (pc' := 35) (lv' := [(5, .int (nI i + 1)), (4, .int ((nI c) + 1)), (0, .ref 93), (3, .int w), (6, .int (zfv (-9) (lix L p 0)))]) (st' := []) (M' := M) rfl ?_
          exact (ih (d - 1) (by omega) (i + 1) (c + 1) (by omega) (by omega) hb2).drop (by refine ⟨?_, ?_⟩ <;> simp [zget, zwf, nI_succ])
      refine yR.adv 4 (pc' := 51) (lv' := [(0, .ref 93), (3, .int w), (4, .int (nI c)), (5, .int (nI i))]) (st' := [.int (nI i), .ref 97, .ref 93]) (M' := M) rfl ?_
      refine yR.iald i _ _ _ rfl rfl (by decide) (rfl) (by omega) ?_
      refine yR.adv 3 (pc' := 58) (lv' := [(0, .ref 93), (3, .int w), (4, .int (nI c)), (5, .int (nI i))]) (st' := [.int (nI i), .ref 98, .int (M.1 97 i), .ref 93]) (M' := M) rfl ?_
      refine yR.iald i _ _ _ rfl rfl (by decide) (rfl) (by omega) ?_
      rw [hp2, hp3]
      refine yR.callK (M1 := M) _ rfl rfl rfl rfl rfl (r_placeAt M L.length hR.1 hR.2.1 p.1 p.2) ?_
      show yR 127 62 [(0, .ref 93), (3, .int w), (4, .int (nI c)), (5, .int (nI i))] [.int (zfv (-9) (zfnd (M.1 94) (M.1 95) p.1 p.2 L.length 0))] M _
      rw [hR.fnd]
      show yR 127 62 [(0, .ref 93), (3, .int w), (4, .int (nI c)), (5, .int (nI i))] [.int (zfv (-9) (lix L p 0))] M _
      refine yR.adv 4 (pc' := 70) (lv' := [(6, .int (zfv (-9) (lix L p 0))), (0, .ref 93), (3, .int w), (4, .int (nI c)), (5, .int (nI i))]) (st' := [.int (nI i), .ref 97]) (M' := M) rfl ?_
      refine yR.iald i _ _ _ rfl rfl (by decide) (rfl) (by omega) ?_
      refine yR.adv 3 (pc' := 77) (lv' := [(6, .int (zfv (-9) (lix L p 0))), (0, .ref 93), (3, .int w), (4, .int (nI c)), (5, .int (nI i))]) (st' := [.int (nI i), .ref 98, .int (M.1 97 i)]) (M' := M) rfl ?_
      refine yR.iald i _ _ _ rfl rfl (by decide) (rfl) (by omega) ?_
      rw [hp2, hp3]
      obtain ⟨v, hv⟩ := zem (zgr p.1 ∧ zgr p.2)
      refine yR.callK (M1 := M) _ rfl rfl rfl rfl rfl (r_isGrid M p.1 p.2 v hv) ?_
      show yR 127 81 [(6, .int (zfv (-9) (lix L p 0))), (0, .ref 93), (3, .int w), (4, .int (nI c)), (5, .int (nI i))] [.int v] M _
      refine yR.if1 .eq _ _ _ _ rfl (fun q2 => ?_) (fun q2 => ?_)
      · have q2' := zeq0 hv q2
        exact refuse (Or.inl (fun z => q2' ⟨z.1, z.2.1⟩)) _ ⟨by simp, by simp [zwf]⟩
      · have q2' := zeq1 hv q2
        refine yR.adv 2 (pc' := 88) (lv' := [(6, .int (zfv (-9) (lix L p 0))), (0, .ref 93), (3, .int w), (4, .int (nI c)), (5, .int (nI i))]) (st' := [.int (-9), .int (zfv (-9) (lix L p 0))]) (M' := M) rfl ?_
        refine yR.if2 .eq _ _ _ _ rfl (fun q3 => ?_) (fun q3 => ?_)
        · have q3' := zeq_t q3
          have hnone := lix_none_lw.mp (hn.mp q3')
          exact (next (fun z => by
            rcases zbadL_lw.mp z with y | ⟨w', y1, y2⟩
            · exact y ⟨q2'.1, q2'.2, hw⟩
            · rw [show lw L (p.1, p.2) = none from hnone] at y1
              cases y1)).drop (by refine ⟨?_, ?_⟩ <;> simp [zget, zwf])
        · have q3' := zeq_f q3
          obtain ⟨k, w', z1, z2, z3⟩ : ∃ k w', lix L p 0 = some k ∧ L[k]? = some (p, w') ∧ lw L p = some w' := by
            rcases lix_lw (p := p) L 0 with z | ⟨k, w', z1, z2, z3⟩
            · exact absurd (hn.mpr z.1) q3'
            · exact ⟨k, w', by rw [z1, Nat.zero_add], z2, z3⟩
          have hkl := lix_lt z1
          have hwk := (hR.2.2 k _ z2).2.2
          have hwb : zwr w'.toInt := (hk _ (List.mem_of_getElem? z2)).2.2
          have hzfv : zfv (-9) (lix L p 0) = nI k := by rw [z1]; rfl
          rw [hzfv]
          refine yR.adv 3 (pc' := 97) (lv' := [(6, .int (nI k)), (0, .ref 93), (3, .int w), (4, .int (nI c)), (5, .int (nI i))]) (st' := [.int (nI k), .ref 96]) (M' := M) rfl ?_
          refine yR.iald k _ _ _ rfl rfl (by decide) (rfl) (by omega) ?_
          rw [hwk]
          show yR 127 98 [(6, .int (nI k)), (0, .ref 93), (3, .int w), (4, .int (nI c)), (5, .int (nI i))] [.int (w')] M _
          refine yR.adv 4 (pc' := 102) (lv' := [(6, .int (nI k)), (0, .ref 93), (3, .int w), (4, .int (nI c)), (5, .int (nI i))]) (st' := [.long (((w').toInt64) + w.toInt64)]) (M' := M) rfl ?_
          have ts : (w'.toInt64 + w.toInt64).toInt = w'.toInt + w.toInt := by
            unfold zwr at hwb hw
            have h1 := zadd_ok (x := w'.toInt64) (y := w.toInt64) (A := 10000) (B := 10000) (by rw [Int32.toInt_toInt64]; omega) (by rw [Int32.toInt_toInt64]; omega) (by decide)
            rw [h1.1, Int32.toInt_toInt64, Int32.toInt_toInt64]
          obtain ⟨v2, hv2⟩ := zem (zwr (w'.toInt64 + w.toInt64).toInt)
          refine yR.callK (M1 := M) _ rfl rfl rfl rfl rfl (r_isWeight M (w'.toInt64 + w.toInt64) v2 hv2) ?_
          show yR 127 105 [(6, .int (nI k)), (0, .ref 93), (3, .int w), (4, .int (nI c)), (5, .int (nI i))] [.int v2] M _
          refine yR.if1 .ne _ _ _ _ rfl (fun q4 => ?_) (fun q4 => ?_)
          · have q4' := zne0 hv2 q4
            rw [ts] at q4'
            refine (next (fun z => ?_)).drop (by refine ⟨?_, ?_⟩ <;> simp [zget, zwf, hzfv])
            rcases zbadL_lw.mp z with y | ⟨w2, y1, y2⟩
            · exact y ⟨q2'.1, q2'.2, hw⟩
            · rw [show lw L (p.1, p.2) = some w' from z3] at y1
              have e : w' = w2 := by simpa using y1
              rw [← e] at y2
              exact y2 q4'
          · have q4' := zne1 hv2 q4
            rw [ts] at q4'
            exact refuse (zbadL_lw.mpr (Or.inr ⟨w', z3, q4'⟩)) _ ⟨by simp, by simp [zwf]⟩
theorem r_orbit (M : zMm) (dom : Nat) (q W : Int) (L : zPl) (h : zRr dom q W M L) (x y w : Int32) :
    yR 127 0 [(0, .ref 93), (1, .int x), (2, .int y), (3, .int w)] [] M (fun r N => (¬ (zgr x ∧ zgr y ∧ zwr w.toInt) ∧ r = some (.int (-2)) ∧ N = M) ∨
      ((zgr x ∧ zgr y ∧ zwr w.toInt) ∧ (∃ p, p ∈ ofold [] (zpsM (nI dom) (iI q) x y) ∧ zbadL L p.1 p.2 w) ∧ r = some (.int (-2)) ∧ zKp [97, 98] [(93, 13)] M N) ∨
      ((zgr x ∧ zgr y ∧ zwr w.toInt) ∧ ¬ (∃ p, p ∈ ofold [] (zpsM (nI dom) (iI q) x y) ∧ zbadL L p.1 p.2 w) ∧ 24 < L.length + lfr L (ofold [] (zpsM (nI dom) (iI q) x y)) ∧ r = some (.int (-4)) ∧ zKp [97, 98] [(93, 13)] M N) ∨
      ((zgr x ∧ zgr y ∧ zwr w.toInt) ∧ zorbQ L (ofold [] (zpsM (nI dom) (iI q) x y)) w ∧ r = some (.int (nI (ofold [] (zpsM (nI dom) (iI q) x y)).length)) ∧ zRr dom q W N (laddA L (ofold [] (zpsM (nI dom) (iI q) x y)) w) ∧ zKp [94, 95, 96, 97, 98] [(93, 7), (93, 13)] M N)) := by
  obtain ⟨hR, hk, hd, hq, hW, hdom, bq, bW⟩ := h
  obtain ⟨v1, h1⟩ := zem (zgr x ∧ zgr y)
  obtain ⟨v3, h3⟩ := zem (zwr w.toInt64.toInt)
  have tw : w.toInt64.toInt = w.toInt := Int32.toInt_toInt64 w
  refine yR.adv 2 (pc' := 2) (lv' := [(0, .ref 93), (1, .int x), (2, .int y), (3, .int w)]) (st' := [.int y, .int x]) (M' := M) rfl ?_
  refine yR.callK (M1 := M) _ rfl rfl rfl rfl rfl (r_isGrid M x y v1 h1) ?_
  show yR 127 5 [(0, .ref 93), (1, .int x), (2, .int y), (3, .int w)] [.int v1] M _
  refine yR.if1 .eq _ _ _ _ rfl (fun q1 => ?_) (fun q1 => ?_)
  · refine yR.adv 1 (pc' := 18) (lv' := [(0, .ref 93), (1, .int x), (2, .int y), (3, .int w)]) (st' := [.int (-2)]) (M' := M) rfl ?_
    refine yR.ret _ rfl rfl rfl ?_
    exact Or.inl ⟨fun z => zeq0 h1 q1 ⟨z.1, z.2.1⟩, rfl, rfl⟩
  · refine yR.adv 2 (pc' := 10) (lv' := [(0, .ref 93), (1, .int x), (2, .int y), (3, .int w)]) (st' := [.long w.toInt64]) (M' := M) rfl ?_
    refine yR.callK (M1 := M) _ rfl rfl rfl rfl rfl (r_isWeight M w.toInt64 v3 h3) ?_
    show yR 127 13 [(0, .ref 93), (1, .int x), (2, .int y), (3, .int w)] [.int v3] M _
    refine yR.if1 .ne _ _ _ _ rfl (fun q3 => ?_) (fun q3 => ?_)
    · have z3 := zne0 h3 q3
      rw [tw] at z3
      have z1 := zeq1 h1 q1
      have hin : zgr x ∧ zgr y ∧ zwr w.toInt := ⟨z1.1, z1.2, z3⟩
      refine yR.adv 5 (pc' := 26) (lv' := [(0, .ref 93), (1, .int x), (2, .int y), (3, .int w)]) (st' := [.int (M.1 93 5), .int y, .int x, .ref 93]) (M' := M) rfl ?_
      rw [hq]
      refine yR.call _ rfl rfl rfl rfl rfl (r_orbitE M (nI dom) (iI q) x y hd) (fun r1 M1 hq => ?_)
      obtain ⟨rfl, o1, e1⟩ := hq
      show yR 127 29 [(0, .ref 93), (1, .int x), (2, .int y), (3, .int w)] [] M1 _
      have R1 := hR.keep (N := M1) (e1 93 7 (by decide) (by decide)).1 (fun i => (e1 94 i (by decide) (by simp)).1) (fun i => (e1 95 i (by decide) (by simp)).1) (fun i => (e1 96 i (by decide) (by simp)).1)
      generalize hps : ofold [] (zpsM (nI dom) (iI q) x y) = ps at *
      have hnd : ps.Nodup := by rw [← hps]; exact ofold_nd _
      have hlen := o1.2.1
      have hL24 := hR.2.1
      have hfl := lfr_le L ps
      refine yR.adv 4 (pc' := 35) (lv' := [(5, .int 0), (4, .int 0), (0, .ref 93), (1, .int x), (2, .int y), (3, .int w)]) (st' := []) (M' := M1) rfl ?_
      refine yR.drop (lv := [(0, .ref 93), (3, .int w), (4, .int (nI 0)), (5, .int (nI 0))]) (by refine ⟨?_, ?_⟩ <;> simp [zget, zwf] <;> rfl) ?_
      refine r_orbChk_loop M1 w z3 ps L o1 R1 hk (fun hb => Or.inr (Or.inl ⟨hin, hb, rfl, e1⟩)) (fun hnb => ?_) ps.length 0 0 (Nat.zero_add _) (Nat.zero_add _) (fun z => by rw [List.drop_zero]; exact z)
      refine yR.adv 5 (pc' := 143) (lv' := [(0, .ref 93), (3, .int w), (4, .int (nI (lfr L ps)))]) (st' := [.int 24, .int ((M1.1 93 7) + (nI (lfr L ps)))]) (M' := M1) rfl ?_
      rw [R1.1, nI_add]
      refine yR.if2 .le _ _ _ _ rfl (fun q4 => ?_) (fun q4 => ?_)
      · have q4' : ((L.length + lfr L ps : Nat) : Int) ≤ 24 := zcT q4 (nI_toInt (by omega)) rfl
        have hq2 : zorbQ L ps w := ⟨hnb, by omega⟩
        have hg : lgood w L ps := lgood_of w ps L hnd (fun p hp hb => hnb ⟨p, hp, hb⟩) (by omega)
        refine yR.adv 2 (pc' := 152) (lv' := [(5, .int 0), (0, .ref 93), (3, .int w), (4, .int (nI (lfr L ps)))]) (st' := []) (M' := M1) rfl ?_
        refine yR.drop (lv := [(0, .ref 93), (3, .int w), (5, .int (nI 0))]) (by refine ⟨?_, ?_⟩ <;> simp [zget, zwf] <;> rfl) ?_
        refine r_layAll_loop M1 w ps (laddA L ps w) (fun M2 O2 R2 K2 e2 => ?_) ps.length 0 M1 L (Nat.zero_add _) o1 R1 hk (by rw [List.drop_zero]; exact hg) (by rw [List.drop_zero]) (zKp.refl _ _ _)
        refine yR.adv 2 (pc' := 192) (lv' := [(0, .ref 93)]) (st' := [.int (M2.1 93 13)]) (M' := M2) rfl ?_
        rw [O2.1]
        refine yR.ret _ rfl rfl rfl ?_
        refine Or.inr (Or.inr (Or.inr ⟨hin, hq2, rfl, ⟨R2, K2, ?_, ?_, ?_, hdom, bq, bW⟩, (e1.sub (by decide)).trans (e2.sub (by decide))⟩))
        · rw [(e2 93 4 (by decide) (by decide)).1, (e1 93 4 (by decide) (by decide)).1]; exact hd
        · rw [(e2 93 5 (by decide) (by decide)).1, (e1 93 5 (by decide) (by decide)).1]; exact hq
        · rw [(e2 93 6 (by decide) (by decide)).1, (e1 93 6 (by decide) (by decide)).1]; exact hW
      · have q4' : ¬ ((L.length + lfr L ps : Nat) : Int) ≤ 24 := zcF q4 (nI_toInt (by omega)) rfl
        refine yR.adv 1 (pc' := 148) (lv' := [(0, .ref 93), (3, .int w), (4, .int (nI (lfr L ps)))]) (st' := [.int (-4)]) (M' := M1) rfl ?_
        refine yR.ret _ rfl rfl rfl ?_
        exact Or.inr (Or.inr (Or.inl ⟨hin, hnb, by omega, rfl, e1⟩))
    · have z3 := zne1 h3 q3
      rw [tw] at z3
      refine yR.adv 1 (pc' := 18) (lv' := [(0, .ref 93), (1, .int x), (2, .int y), (3, .int w)]) (st' := [.int (-2)]) (M' := M) rfl ?_
      refine yR.ret _ rfl rfl rfl ?_
      exact Or.inl ⟨fun z => z3 z.2.2, rfl, rfl⟩
