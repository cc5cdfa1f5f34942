/-! ===== pair, of the reference ===== -/
theorem zKp.sub {A A' : List Nat} {B B' : List (Nat × Nat)} {M N : zMm} (h : zKp A B M N) (hc : (A.all (fun a => A'.contains a) && B.all (fun p => A'.contains p.1 || B'.contains p)) = true) : zKp A' B' M N := by
  obtain ⟨h1, h2⟩ := Bool.and_eq_true_iff.mp hc
  refine h.mono (fun a ha => List.contains_iff_mem.mp (List.all_eq_true.mp h1 a ha)) (fun a i hb => ?_)
  rcases Bool.or_eq_true_iff.mp (List.all_eq_true.mp h2 (a, i) hb) with z | z
  · exact Or.inl (List.contains_iff_mem.mp z)
  · exact Or.inr (List.contains_iff_mem.mp z)
theorem zKp.rr {M N : zMm} (e : zKp [] [(93, 2), (93, 3)] M N) {dom : Nat} {q W : Int} {L : zPl} (h : zRr dom q W M L) : zRr dom q W N L := h.keep (fun i h1 h2 => (e 93 i (by simp) (by simp <;> omega)).1) (fun a i h1 h2 => (e a i (by simp) (by simp <;> omega)).1)
/-- is it right for all degrees up to dg -/
theorem r_allRight {Q : Option Value → zMm → Prop} (M0 : zMm) (dom : Nat) (q W : Int) (L : zPl) (dg : Nat) (hdg : dg < 6) (b1 b2 b5 b6 b7 : Int32) (qq : Int32) (K : ∀ (M' : zMm) (v : Int32), ((∀ k, k ≤ dg → ∀ a, a ≤ k → zE0 dom q W L a (k - a)) ∧ v = 1) ∨ (¬ (∀ k, k ≤ dg → ∀ a, a ≤ k → zE0 dom q W L a (k - a)) ∧ v = 0) → zKp [] [(93, 2), (93, 3)] M0 M' → yR 147 149 [(0, .ref 93), (1, .int (nI dg)), (2, .int qq), (3, .int b1), (4, .int b2), (5, .int b5), (6, .int b6), (7, .int b7), (8, .int v)] [] M' Q) :
    ∀ (d k : Nat) (M : zMm) (cur : Int32), k + d = dg + 1 → ((cur = 1 ∧ ∀ k', k' < k → ∀ a, a ≤ k' → zE0 dom q W L a (k' - a)) ∨ (cur = 0 ∧ ¬ ∀ k, k ≤ dg → ∀ a, a ≤ k → zE0 dom q W L a (k - a))) → zRr dom q W M L → zKp [] [(93, 2), (93, 3)] M0 M →
    yR 147 124 [(0, .ref 93), (1, .int (nI dg)), (2, .int qq), (3, .int b1), (4, .int b2), (5, .int b5), (6, .int b6), (7, .int b7), (8, .int cur), (9, .int (nI k))] [] M Q := by
  intro d
  induction d using Nat.strongRecOn with
  | ind d ih =>
    intro k M cur h hc hR hE
    refine yR.adv 2 (pc' := 127) (lv' := [(0, .ref 93), (1, .int (nI dg)), (2, .int qq), (3, .int b1), (4, .int b2), (5, .int b5), (6, .int b6), (7, .int b7), (8, .int cur), (9, .int (nI k))]) (st' := [.int (nI dg), .int (nI k)]) (M' := M) rfl ?_
    refine yR.if2 .gt _ _ _ _ rfl (fun q1 => ?_) (fun q1 => ?_)
    · have q1' : (dg : Int) < k := zcT q1 (nI_toInt (by omega)) (nI_toInt (by omega))
      refine (K M cur (hc.elim (fun z => Or.inl ⟨fun k' hk' => z.2 k' (by omega), z.1⟩) (fun z => Or.inr ⟨z.2, z.1⟩)) hE).drop (by refine ⟨?_, ?_⟩ <;> simp [zget, zwf])
    · have q1' : ¬ (dg : Int) < k := zcF q1 (nI_toInt (by omega)) (nI_toInt (by omega))
      refine yR.adv 1 (pc' := 132) (lv' := [(0, .ref 93), (1, .int (nI dg)), (2, .int qq), (3, .int b1), (4, .int b2), (5, .int b5), (6, .int b6), (7, .int b7), (8, .int cur), (9, .int (nI k))]) (st' := [.int cur]) (M' := M) rfl ?_
      refine yR.if1 .eq _ _ _ _ rfl (fun q2 => ?_) (fun q2 => ?_)
      · have q2' := zeq_t q2
        refine (K M cur (hc.elim (fun z => by rw [z.1] at q2'; exact absurd q2' (by decide)) (fun z => Or.inr ⟨z.2, z.1⟩)) hE).drop (by refine ⟨?_, ?_⟩ <;> simp [zget, zwf])
      · have q2' := zeq_f q2
        have hc' : ∀ k', k' < k → ∀ a, a ≤ k' → zE0 dom q W L a (k' - a) := hc.elim (fun z => z.2) (fun z => absurd z.1 q2')
        obtain ⟨v, hv⟩ := zem (∀ a, a ≤ k → zE0 dom q W L a (k - a))
        refine yR.adv 2 (pc' := 138) (lv' := [(0, .ref 93), (1, .int (nI dg)), (2, .int qq), (3, .int b1), (4, .int b2), (5, .int b5), (6, .int b6), (7, .int b7), (8, .int cur), (9, .int (nI k))]) (st' := [.int (nI k), .ref 93]) (M' := M) rfl ?_
        refine yR.call _ rfl rfl rfl rfl rfl (r_isRight M dom q W L hR k (by omega) v hv) (fun r1 M1 hq => ?_)
        obtain ⟨rfl, e1⟩ := hq
        show yR 147 141 [(0, .ref 93), (1, .int (nI dg)), (2, .int qq), (3, .int b1), (4, .int b2), (5, .int b5), (6, .int b6), (7, .int b7), (8, .int cur), (9, .int (nI k))] [.int v] M1 _
        refine yR.adv 3 (pc' := 124) (lv' := [(9, .int (nI k + 1)), (8, .int v), (0, .ref 93), (1, .int (nI dg)), (2, .int qq), (3, .int b1), (4, .int b2), (5, .int b5), (6, .int b6), (7, .int b7)]) (st' := []) (M' := M1) rfl ?_
        have K2 := ih (d - 1) (by omega) (k + 1) M1 v (by omega) (hv.elim (fun z => Or.inl ⟨z.2, fun k' hk' => if e : k' = k then e ▸ z.1 else hc' k' (by omega)⟩) (fun z => Or.inr ⟨z.2, fun y => z.1 (y k (by omega))⟩)) (e1.rr hR) (hE.trans e1)
        exact (K2).drop (by refine ⟨?_, ?_⟩ <;> simp [zget, zwf, nI_succ])
def zbestR (s : Nat × Nat × Nat) (b1 b2 : Int32) : Prop := s.1 ≤ 25 ∧ (s.1 < 25 → b1 = nI s.2.1 ∧ b2 = nI s.2.2) ∧ (s.1 = 25 → b1 = -9)
theorem zRp.keep {dom : Nat} {q : Int} {M N : zMm} {l : List (Int × Int)} (h : zRp dom q M l) (e1 : N.1 93 4 = M.1 93 4) (e2 : N.1 93 29 = M.1 93 29) (e3 : ∀ a i, 110 ≤ a → a ≤ 113 → N.1 a i = M.1 a i) : zRp dom q N l := ⟨by rw [e1]; exact h.1, by rw [e2]; exact h.2.1, fun s p hs => by rw [e3 110 s (by omega) (by omega), e3 111 s (by omega) (by omega), e3 112 s (by omega) (by omega), e3 113 s (by omega) (by omega)]; exact h.2.2 s p hs⟩
theorem zRp.keepS {dom : Nat} {q : Int} {M N : zMm} {l : List (Int × Int)} (h : zRp dom q M l) (e : zKp [94, 95, 96, 97, 98] [(93, 2), (93, 3), (93, 5), (93, 6), (93, 7), (93, 13), (93, 30), (93, 31), (93, 32)] M N) : zRp dom q N l := h.keep (e 93 4 (by decide) (by decide)).1 (e 93 29 (by decide) (by decide)).1 (fun a i h1 h2 => (e a i (by simp <;> omega) (by simp <;> omega)).1)
theorem r_pair_in {Q : Option Value → zMm → Prop} (M0 : zMm) (dom : Nat) (hdom : dom < 3) (q : Nat) (hq : 1 ≤ q ∧ q ≤ 6) (dg : Nat) (hdg : dg < 6) (i : Nat) (hi : i < (zreps dom q).length) (T : Nat × Nat × Nat) (K : ∀ M' b1 b2, zRp dom q M' (zreps dom q) → zbestR T b1 b2 → zKp [94, 95, 96, 97, 98] [(93, 2), (93, 3), (93, 5), (93, 6), (93, 7), (93, 13), (93, 30), (93, 31), (93, 32)] M0 M' → yR 147 184 [(0, .ref 93), (1, .int (nI dg)), (2, .int (iI q)), (3, .int b1), (4, .int b2), (5, .int (nI T.1)), (6, .int (nI i))] [] M' Q) :
    ∀ (d j : Nat) (M : zMm) (s : Nat × Nat × Nat) (b1 b2 : Int32), j + d = (zreps dom q).length → i < j → zRp dom q M (zreps dom q) → zbestR s b1 b2 → zKp [94, 95, 96, 97, 98] [(93, 2), (93, 3), (93, 5), (93, 6), (93, 7), (93, 13), (93, 30), (93, 31), (93, 32)] M0 M → zinnP dom q dg i d j s = T → yR 147 65 [(0, .ref 93), (1, .int (nI dg)), (2, .int (iI q)), (3, .int b1), (4, .int b2), (5, .int (nI s.1)), (6, .int (nI i)), (7, .int (nI j))] [] M Q := by
  have hl := zreps_len dom hdom q (by omega)
  have gi := zpt_get hi
  intro d
  induction d using Nat.strongRecOn with
  | ind d ih =>
    intro j M s b1 b2 h hij hG hB hE hT
    have hs25 := hB.1
    refine yR.adv 3 (pc' := 71) (lv' := [(0, .ref 93), (1, .int (nI dg)), (2, .int (iI q)), (3, .int b1), (4, .int b2), (5, .int (nI s.1)), (6, .int (nI i)), (7, .int (nI j))]) (st' := [.int (M.1 93 29), .int (nI j)]) (M' := M) rfl ?_
    rw [hG.2.1]
    refine yR.if2 .ge _ _ _ _ rfl (fun q1 => ?_) (fun q1 => ?_)
    · have q1' : ((zreps dom q).length : Int) ≤ j := zcT q1 (nI_toInt (by omega)) (nI_toInt (by omega))
      have hd : d = 0 := by omega
      subst hd
      have hT' : T = s := hT.symm
      subst hT'
      exact (K M b1 b2 hG hB hE).drop (by refine ⟨?_, ?_⟩ <;> simp [zget, zwf])
    · have q1' : ¬ ((zreps dom q).length : Int) ≤ j := zcF q1 (nI_toInt (by omega)) (nI_toInt (by omega))
      obtain ⟨d', rfl⟩ : ∃ d', d = d' + 1 := ⟨d - 1, by omega⟩
      have hj : j < (zreps dom q).length := by omega
      have gj := zpt_get hj
      obtain ⟨i1, i2, i3, i4⟩ := hG.2.2 i _ gi
      obtain ⟨j1, j2, j3, j4⟩ := hG.2.2 j _ gj
      have ci : 1 ≤ zcnt dom q i ∧ zcnt dom q i ≤ 8 := zorb_len dom q (zpt dom q i)
      have cj : 1 ≤ zcnt dom q j ∧ zcnt dom q j ≤ 8 := zorb_len dom q (zpt dom q j)
      have fi := zfr_b hdom (by omega) hi
      have fj := zfr_b hdom (by omega) hj
      have next : ∀ (M' : zMm) (s' : Nat × Nat × Nat) (c1 c2 : Int32), s' = (if zcnt dom q i + zcnt dom q j < s.1 ∧ zokR dom q dg i j = true then (zcnt dom q i + zcnt dom q j, i, j) else s) → zRp dom q M' (zreps dom q) → zbestR s' c1 c2 → zKp [94, 95, 96, 97, 98] [(93, 2), (93, 3), (93, 5), (93, 6), (93, 7), (93, 13), (93, 30), (93, 31), (93, 32)] M0 M' → yR 147 178 [(0, .ref 93), (1, .int (nI dg)), (2, .int (iI q)), (3, .int c1), (4, .int c2), (5, .int (nI s'.1)), (6, .int (nI i)), (7, .int (nI j))] [] M' Q := by
        intro M' s' c1 c2 hs' hG' hB' hE'
        refine yR.adv 2 (pc' := 65) (lv' := [(7, .int (nI j + 1)), (0, .ref 93), (1, .int (nI dg)), (2, .int (iI q)), (3, .int c1), (4, .int c2), (5, .int (nI s'.1)), (6, .int (nI i))]) (st' := []) (M' := M') rfl ?_
        exact (ih d' (by omega) (j + 1) M' s' c1 c2 (by omega) (by omega) hG' hB' hE' (by rw [hs', ← hT]; rfl)).drop (by refine ⟨?_, ?_⟩ <;> simp [zget, zwf, nI_succ])
      refine yR.adv 3 (pc' := 80) (lv' := [(0, .ref 93), (1, .int (nI dg)), (2, .int (iI q)), (3, .int b1), (4, .int b2), (5, .int (nI s.1)), (6, .int (nI i)), (7, .int (nI j))]) (st' := [.int (nI i), .ref 112]) (M' := M) rfl ?_
      refine yR.iald i _ _ _ rfl rfl (by decide) (rfl) (by omega) ?_
      rw [i3]
      show yR 147 81 [(0, .ref 93), (1, .int (nI dg)), (2, .int (iI q)), (3, .int b1), (4, .int b2), (5, .int (nI s.1)), (6, .int (nI i)), (7, .int (nI j))] [.int (nI (zcnt dom q i))] M _
      refine yR.adv 3 (pc' := 87) (lv' := [(0, .ref 93), (1, .int (nI dg)), (2, .int (iI q)), (3, .int b1), (4, .int b2), (5, .int (nI s.1)), (6, .int (nI i)), (7, .int (nI j))]) (st' := [.int (nI j), .ref 112, .int (nI (zcnt dom q i))]) (M' := M) rfl ?_
      refine yR.iald j _ _ _ rfl rfl (by decide) (rfl) (by omega) ?_
      rw [j3]
      show yR 147 88 [(0, .ref 93), (1, .int (nI dg)), (2, .int (iI q)), (3, .int b1), (4, .int b2), (5, .int (nI s.1)), (6, .int (nI i)), (7, .int (nI j))] [.int (nI (zcnt dom q j)), .int (nI (zcnt dom q i))] M _
      refine yR.adv 2 (pc' := 91) (lv' := [(0, .ref 93), (1, .int (nI dg)), (2, .int (iI q)), (3, .int b1), (4, .int b2), (5, .int (nI s.1)), (6, .int (nI i)), (7, .int (nI j))]) (st' := [.int (nI s.1), .int ((nI (zcnt dom q i)) + (nI (zcnt dom q j)))]) (M' := M) rfl ?_
      rw [nI_add]
      refine yR.if2 .ge _ _ _ _ rfl (fun q2 => ?_) (fun q2 => ?_)
      · have q2' : (s.1 : Int) ≤ ((zcnt dom q i + zcnt dom q j : Nat) : Int) := zcT q2 (nI_toInt (by omega)) (nI_toInt (by omega))
        exact (next M s b1 b2 (by rw [if_neg (fun z => by have := z.1; omega)]) hG hB hE).drop (by refine ⟨?_, ?_⟩ <;> simp [zget, zwf])
      · have q2' : ¬ (s.1 : Int) ≤ ((zcnt dom q i + zcnt dom q j : Nat) : Int) := zcF q2 (nI_toInt (by omega)) (nI_toInt (by omega))
        obtain ⟨v, hv⟩ := zem (zokP dom q (zfr dom q i) (zcnt dom q i) (zfr dom q j) (zcnt dom q j))
        refine yR.adv 4 (pc' := 100) (lv' := [(0, .ref 93), (1, .int (nI dg)), (2, .int (iI q)), (3, .int b1), (4, .int b2), (5, .int (nI s.1)), (6, .int (nI i)), (7, .int (nI j))]) (st' := [.int (iI q), .int (nI j), .int (nI i), .ref 93]) (M' := M) rfl ?_
        refine yR.call _ rfl rfl rfl rfl rfl (r_have dom hdom M q hq i j (by omega) (by omega) (zfr dom q i) (zfr dom q j) (zcnt dom q i) (zcnt dom q j) i4 j4 i3 j3 fi fj ci cj hG.1 v hv) (fun r1 M1 hq => ?_)
        obtain ⟨rfl, w1, e1⟩ := hq
        show yR 147 103 [(0, .ref 93), (1, .int (nI dg)), (2, .int (iI q)), (3, .int b1), (4, .int b2), (5, .int (nI s.1)), (6, .int (nI i)), (7, .int (nI j))] [.int v] M1 _
        have E1 : zKp [94, 95, 96, 97, 98] [(93, 2), (93, 3), (93, 5), (93, 6), (93, 7), (93, 13), (93, 30), (93, 31), (93, 32)] M M1 := e1.sub (by decide)
        have G1 := hG.keepS E1
        refine yR.if1 .ne _ _ _ _ rfl (fun q3 => ?_) (fun q3 => ?_)
        · have q3' := zne0 hv q3
          have hv1 : v = 1 := hv.elim (fun p => p.2) (fun p => absurd q3' p.1)
          obtain ⟨x1, x2, x3⟩ := w1 hv1
          obtain ⟨bW, bw1, bw2⟩ := zp_b hdom hq fi fj ci cj q3'
          refine yR.adv 4 (pc' := 115) (lv' := [(0, .ref 93), (1, .int (nI dg)), (2, .int (iI q)), (3, .int b1), (4, .int b2), (5, .int (nI s.1)), (6, .int (nI i)), (7, .int (nI j))]) (st' := [.int (iI q), .int (nI j), .int (nI i), .ref 93]) (M' := M1) rfl ?_
          refine yR.call _ rfl rfl rfl rfl rfl (r_layPair M1 dom hdom q hq i j hij hj G1 x1 x2 x3) (fun r1 M2 hq => ?_)
          obtain ⟨rfl, R2, r5, r6, e2⟩ := hq
          show yR 147 118 [(0, .ref 93), (1, .int (nI dg)), (2, .int (iI q)), (3, .int b1), (4, .int b2), (5, .int (nI s.1)), (6, .int (nI i)), (7, .int (nI j))] [] M2 _
          have E2 : zKp [94, 95, 96, 97, 98] [(93, 2), (93, 3), (93, 5), (93, 6), (93, 7), (93, 13), (93, 30), (93, 31), (93, 32)] M1 M2 := e2.sub (by decide)
          have G2 := G1.keepS E2
          have RR : zRr dom q (zpW dom q (zfr dom q i) (zcnt dom q i) (zfr dom q j) (zcnt dom q j)).toInt M2 (zpair dom q i j) := ⟨R2, zpair_ok hdom hq hij hj q3', G2.1, r5, by rw [r6, zl2iI bW], hdom, by omega, bW⟩
          refine yR.adv 4 (pc' := 124) (lv' := [(9, .int 0), (8, .int 1), (0, .ref 93), (1, .int (nI dg)), (2, .int (iI q)), (3, .int b1), (4, .int b2), (5, .int (nI s.1)), (6, .int (nI i)), (7, .int (nI j))]) (st' := []) (M' := M2) rfl ?_
          refine yR.drop (lv := [(0, .ref 93), (1, .int (nI dg)), (2, .int (iI q)), (3, .int b1), (4, .int b2), (5, .int (nI s.1)), (6, .int (nI i)), (7, .int (nI j)), (8, .int 1), (9, .int (nI 0))]) (by refine ⟨?_, ?_⟩ <;> simp [zget, zwf] <;> rfl) ?_
          refine r_allRight M2 dom q (zpW dom q (zfr dom q i) (zcnt dom q i) (zfr dom q j) (zcnt dom q j)).toInt (zpair dom q i j) dg hdg b1 b2 (nI s.1) (nI i) (nI j) (iI q) (fun M3 v2 hv2 e3 => ?_) (dg + 1) 0 M2 1 (by omega) (Or.inl ⟨rfl, fun k' hk' => absurd hk' (by omega)⟩) RR (zKp.refl _ _ _)
          have E3 : zKp [94, 95, 96, 97, 98] [(93, 2), (93, 3), (93, 5), (93, 6), (93, 7), (93, 13), (93, 30), (93, 31), (93, 32)] M2 M3 := e3.sub (by decide)
          have G3 := G2.keepS E3
          have F3 := ((hE.trans E1).trans E2).trans E3
          have hiff := zokQ_iff hdom hq hij hj hdg
          obtain ⟨_, _, i3', _⟩ := G3.2.2 i _ gi
          obtain ⟨_, _, j3', _⟩ := G3.2.2 j _ gj
          refine yR.adv 1 (pc' := 151) (lv' := [(0, .ref 93), (1, .int (nI dg)), (2, .int (iI q)), (3, .int b1), (4, .int b2), (5, .int (nI s.1)), (6, .int (nI i)), (7, .int (nI j)), (8, .int v2)]) (st' := [.int v2]) (M' := M3) rfl ?_
          refine yR.if1 .eq _ _ _ _ rfl (fun q4 => ?_) (fun q4 => ?_)
          · have q4' := zeq0 hv2 q4
            exact (next M3 s b1 b2 (by rw [if_neg (fun z => q4' (hiff.mp (zokR_of z.2)).2)]) G3 hB F3).drop (by refine ⟨?_, ?_⟩ <;> simp [zget, zwf])
          · have q4' := zeq1 hv2 q4
            refine yR.adv 7 (pc' := 167) (lv' := [(4, .int (nI j)), (3, .int (nI i)), (0, .ref 93), (1, .int (nI dg)), (2, .int (iI q)), (5, .int (nI s.1)), (6, .int (nI i)), (7, .int (nI j)), (8, .int v2)]) (st' := [.int (nI i), .ref 112]) (M' := M3) rfl ?_
            refine yR.iald i _ _ _ rfl rfl (by decide) (rfl) (by omega) ?_
            rw [i3']
            show yR 147 168 [(4, .int (nI j)), (3, .int (nI i)), (0, .ref 93), (1, .int (nI dg)), (2, .int (iI q)), (5, .int (nI s.1)), (6, .int (nI i)), (7, .int (nI j)), (8, .int v2)] [.int (nI (zcnt dom q i))] M3 _
            refine yR.adv 3 (pc' := 174) (lv' := [(4, .int (nI j)), (3, .int (nI i)), (0, .ref 93), (1, .int (nI dg)), (2, .int (iI q)), (5, .int (nI s.1)), (6, .int (nI i)), (7, .int (nI j)), (8, .int v2)]) (st' := [.int (nI j), .ref 112, .int (nI (zcnt dom q i))]) (M' := M3) rfl ?_
            refine yR.iald j _ _ _ rfl rfl (by decide) (rfl) (by omega) ?_
            rw [j3']
            show yR 147 175 [(4, .int (nI j)), (3, .int (nI i)), (0, .ref 93), (1, .int (nI dg)), (2, .int (iI q)), (5, .int (nI s.1)), (6, .int (nI i)), (7, .int (nI j)), (8, .int v2)] [.int (nI (zcnt dom q j)), .int (nI (zcnt dom q i))] M3 _
            refine yR.adv 2 (pc' := 178) (lv' := [(5, .int ((nI (zcnt dom q i)) + (nI (zcnt dom q j)))), (4, .int (nI j)), (3, .int (nI i)), (0, .ref 93), (1, .int (nI dg)), (2, .int (iI q)), (6, .int (nI i)), (7, .int (nI j)), (8, .int v2)]) (st' := []) (M' := M3) rfl ?_
            rw [nI_add]
            exact (next M3 (zcnt dom q i + zcnt dom q j, i, j) (nI i) (nI j) (by rw [if_pos ⟨by omega, zokR_t (hiff.mpr ⟨q3', q4'⟩)⟩]) G3 ⟨by show zcnt dom q i + zcnt dom q j ≤ 25; omega, fun _ => ⟨rfl, rfl⟩, fun z => by have z' : zcnt dom q i + zcnt dom q j = 25 := z; omega⟩ F3).drop (by refine ⟨?_, ?_⟩ <;> simp [zget, zwf])
        · have q3' := zne1 hv q3
          refine yR.adv 1 (pc' := 178) (lv' := [(0, .ref 93), (1, .int (nI dg)), (2, .int (iI q)), (3, .int b1), (4, .int b2), (5, .int (nI s.1)), (6, .int (nI i)), (7, .int (nI j))]) (st' := []) (M' := M1) rfl ?_
          exact (next M1 s b1 b2 (by rw [if_neg (fun z => q3' (zokR_of z.2).1)]) G1 hB (hE.trans E1)).drop (by refine ⟨?_, ?_⟩ <;> simp [zget, zwf])
theorem r_pair_out {Q : Option Value → zMm → Prop} (M0 : zMm) (dom : Nat) (hdom : dom < 3) (q : Nat) (hq : 1 ≤ q ∧ q ≤ 6) (dg : Nat) (hdg : dg < 6) (T : Nat × Nat × Nat) (K : ∀ M' b1 b2, zRp dom q M' (zreps dom q) → zbestR T b1 b2 → zKp [94, 95, 96, 97, 98] [(93, 2), (93, 3), (93, 5), (93, 6), (93, 7), (93, 13), (93, 30), (93, 31), (93, 32)] M0 M' → yR 147 190 [(0, .ref 93), (2, .int (iI q)), (3, .int b1), (4, .int b2)] [] M' Q) :
    ∀ (d i : Nat) (M : zMm) (s : Nat × Nat × Nat) (b1 b2 : Int32), i + d = (zreps dom q).length → zRp dom q M (zreps dom q) → zbestR s b1 b2 → zKp [94, 95, 96, 97, 98] [(93, 2), (93, 3), (93, 5), (93, 6), (93, 7), (93, 13), (93, 30), (93, 31), (93, 32)] M0 M → zoutP dom q dg d i s = T → yR 147 50 [(0, .ref 93), (1, .int (nI dg)), (2, .int (iI q)), (3, .int b1), (4, .int b2), (5, .int (nI s.1)), (6, .int (nI i))] [] M Q := by
  have hl := zreps_len dom hdom q (by omega)
  intro d
  induction d using Nat.strongRecOn with
  | ind d ih =>
    intro i M s b1 b2 h hG hB hE hT
    refine yR.adv 3 (pc' := 56) (lv' := [(0, .ref 93), (1, .int (nI dg)), (2, .int (iI q)), (3, .int b1), (4, .int b2), (5, .int (nI s.1)), (6, .int (nI i))]) (st' := [.int (M.1 93 29), .int (nI i)]) (M' := M) rfl ?_
    rw [hG.2.1]
    refine yR.if2 .ge _ _ _ _ rfl (fun q1 => ?_) (fun q1 => ?_)
    · have q1' : ((zreps dom q).length : Int) ≤ i := zcT q1 (nI_toInt (by omega)) (nI_toInt (by omega))
      have hd : d = 0 := by omega
      subst hd
      have hT' : T = s := hT.symm
      subst hT'
      exact (K M b1 b2 hG hB hE).drop (by refine ⟨?_, ?_⟩ <;> simp [zget, zwf])
    · have q1' : ¬ ((zreps dom q).length : Int) ≤ i := zcF q1 (nI_toInt (by omega)) (nI_toInt (by omega))
      obtain ⟨d', rfl⟩ : ∃ d', d = d' + 1 := ⟨d - 1, by omega⟩
      refine yR.adv 4 (pc' := 65) (lv' := [(7, .int ((nI i) + 1)), (0, .ref 93), (1, .int (nI dg)), (2, .int (iI q)), (3, .int b1), (4, .int b2), (5, .int (nI s.1)), (6, .int (nI i))]) (st' := []) (M' := M) rfl ?_
      refine yR.drop (lv := [(0, .ref 93), (1, .int (nI dg)), (2, .int (iI q)), (3, .int b1), (4, .int b2), (5, .int (nI s.1)), (6, .int (nI i)), (7, .int (nI (i + 1)))]) (by refine ⟨?_, ?_⟩ <;> simp [zget, zwf, nI_succ]) ?_
      refine r_pair_in M0 dom hdom q hq dg hdg i (by omega) (zinnP dom q dg i ((zreps dom q).length - (i + 1)) (i + 1) s) (fun M' c1 c2 hG' hB' hE' => ?_) _ (i + 1) M s b1 b2 (by omega) (by omega) hG hB hE rfl
      refine yR.adv 2 (pc' := 50) (lv' := [(6, .int (nI i + 1)), (0, .ref 93), (1, .int (nI dg)), (2, .int (iI q)), (3, .int c1), (4, .int c2), (5, .int (nI (zinnP dom q dg i ((zreps dom q).length - (i + 1)) (i + 1) s).1))]) (st' := []) (M' := M') rfl ?_
      exact (ih d' (by omega) (i + 1) M' _ c1 c2 (by omega) hG' hB' hE' hT).drop (by refine ⟨?_, ?_⟩ <;> simp [zget, zwf, nI_succ])
theorem r_pair_no (M : zMm) (d q : Int32) (h : ¬ ((1 ≤ d.toInt ∧ d.toInt ≤ 5) ∧ (1 ≤ q.toInt ∧ q.toInt ≤ 6))) : yOk 147 0 [(0, .ref 93), (1, .int d), (2, .int q)] [] M (some (.int (-2))) M := by
  refine yR.ok ?_
  have td : d.toInt64.toInt = d.toInt := Int32.toInt_toInt64 d
  have tq : q.toInt64.toInt = q.toInt := Int32.toInt_toInt64 q
  obtain ⟨v1, h1⟩ := zem (1 ≤ d.toInt64.toInt ∧ d.toInt64.toInt ≤ 5)
  obtain ⟨v2, h2⟩ := zem (1 ≤ q.toInt64.toInt ∧ q.toInt64.toInt ≤ 6)
  refine yR.adv 4 (pc' := 6) (lv' := [(0, .ref 93), (1, .int d), (2, .int q)]) (st' := [.long 5, .long 1, .long d.toInt64]) (M' := M) rfl ?_
  refine yR.callK (M1 := M) _ rfl rfl rfl rfl rfl (r_withinV M d.toInt64 1 5 1 5 rfl rfl v1 h1) ?_
  show yR 147 9 [(0, .ref 93), (1, .int d), (2, .int q)] [.int v1] M _
  refine yR.if1 .eq _ _ _ _ rfl (fun q1 => ?_) (fun q1 => ?_)
  · refine yR.adv 1 (pc' := 26) (lv' := [(0, .ref 93), (1, .int d), (2, .int q)]) (st' := [.int (-2)]) (M' := M) rfl ?_
    refine yR.ret _ rfl rfl rfl ?_
    exact ⟨rfl, rfl⟩
  · refine yR.adv 4 (pc' := 18) (lv' := [(0, .ref 93), (1, .int d), (2, .int q)]) (st' := [.long 6, .long 1, .long q.toInt64]) (M' := M) rfl ?_
    refine yR.callK (M1 := M) _ rfl rfl rfl rfl rfl (r_withinV M q.toInt64 1 6 1 6 rfl rfl v2 h2) ?_
    show yR 147 21 [(0, .ref 93), (1, .int d), (2, .int q)] [.int v2] M _
    refine yR.if1 .ne _ _ _ _ rfl (fun q2 => ?_) (fun q2 => ?_)
    · have z1 := zeq1 h1 q1
      have z2 := zne0 h2 q2
      rw [td] at z1
      rw [tq] at z2
      exact absurd ⟨z1, z2⟩ h
    · refine yR.adv 1 (pc' := 26) (lv' := [(0, .ref 93), (1, .int d), (2, .int q)]) (st' := [.int (-2)]) (M' := M) rfl ?_
      refine yR.ret _ rfl rfl rfl ?_
      exact ⟨rfl, rfl⟩
theorem r_pair (M : zMm) (dom : Nat) (hdom : dom < 3) (q : Nat) (hq : 1 ≤ q ∧ q ≤ 6) (dg : Nat) (hdg : 1 ≤ dg ∧ dg ≤ 5) (q0 W0 : Int) (L0 : zPl) (hR : zRr dom q0 W0 M L0) (T : Nat × Nat × Nat) (hT : zoutP dom q dg (zreps dom q).length 0 (25, 0, 0) = T) :
    yR 147 0 [(0, .ref 93), (1, .int (nI dg)), (2, .int (iI q))] [] M (fun r N => (T.1 ≤ 24 ∧ r = some (.int (nI T.1)) ∧ zRr dom q (zpW dom q (zfr dom q T.2.1) (zcnt dom q T.2.1) (zfr dom q T.2.2) (zcnt dom q T.2.2)).toInt N (zpair dom q T.2.1 T.2.2) ∧ zKp [94, 95, 96, 97, 98, 110, 111, 112, 113, 114, 115, 116] [(93, 2), (93, 3), (93, 5), (93, 6), (93, 7), (93, 13), (93, 29), (93, 30), (93, 31), (93, 32), (93, 33), (93, 34), (93, 35)] M N) ∨ (¬ T.1 ≤ 24 ∧ r = some (.int (-9)) ∧ zRr dom q0 W0 N L0 ∧ zKp [94, 95, 96, 97, 98, 110, 111, 112, 113, 114, 115, 116] [(93, 2), (93, 3), (93, 5), (93, 6), (93, 7), (93, 13), (93, 29), (93, 30), (93, 31), (93, 32), (93, 33), (93, 34), (93, 35)] M N)) := by
  have tq : (iI (q : Int)).toInt64.toInt = q := by rw [Int32.toInt_toInt64, iI_toInt (by omega)]
  have td : (nI dg).toInt64.toInt = dg := by rw [Int32.toInt_toInt64, nI_toInt (by omega)]
  have hfound := zout_ok (ok := zokR dom q dg) (cnt := zcnt dom q) (n := (zreps dom q).length) (zreps dom q).length 0 (25, 0, 0) (Nat.zero_add _) ⟨Nat.le_refl _, fun h => absurd h (by decide)⟩
  rw [show zout (zokR dom q dg) (zcnt dom q) (zreps dom q).length (zreps dom q).length 0 (25, 0, 0) = T from hT] at hfound
  refine yR.adv 4 (pc' := 6) (lv' := [(0, .ref 93), (1, .int (nI dg)), (2, .int (iI q))]) (st' := [.long 5, .long 1, .long ((nI dg).toInt64)]) (M' := M) rfl ?_
  refine yR.callK (M1 := M) _ rfl rfl rfl rfl rfl (r_withinV M (nI dg).toInt64 1 5 1 5 rfl rfl 1 (Or.inl ⟨by rw [td]; omega, rfl⟩)) ?_
  show yR 147 9 [(0, .ref 93), (1, .int (nI dg)), (2, .int (iI q))] [.int 1] M _
  refine yR.if1 .eq _ _ _ _ rfl (fun q1 => ?_) (fun q1 => ?_)
  · exact absurd q1 (by decide)
  · refine yR.adv 4 (pc' := 18) (lv' := [(0, .ref 93), (1, .int (nI dg)), (2, .int (iI q))]) (st' := [.long 6, .long 1, .long ((iI q).toInt64)]) (M' := M) rfl ?_
    refine yR.callK (M1 := M) _ rfl rfl rfl rfl rfl (r_withinV M (iI q).toInt64 1 6 1 6 rfl rfl 1 (Or.inl ⟨by rw [tq]; omega, rfl⟩)) ?_
    show yR 147 21 [(0, .ref 93), (1, .int (nI dg)), (2, .int (iI q))] [.int 1] M _
    refine yR.if1 .ne _ _ _ _ rfl (fun q2 => ?_) (fun q2 => ?_)
    · refine yR.adv 1 (pc' := 28) (lv' := [(0, .ref 93), (1, .int (nI dg)), (2, .int (iI q))]) (st' := [.ref 93]) (M' := M) rfl ?_
      refine yR.call _ rfl rfl rfl rfl rfl (r_putAside M L0 hR.1) (fun r1 M1 hq => ?_)
      obtain ⟨rfl, H1, a5, a6, e1⟩ := hq
      show yR 147 31 [(0, .ref 93), (1, .int (nI dg)), (2, .int (iI q))] [] M1 _
      have m1 : M1.1 93 4 = nI dom := by rw [(e1 93 4 (by decide) (by decide)).1]; exact hR.2.2.1
      refine yR.adv 2 (pc' := 33) (lv' := [(0, .ref 93), (1, .int (nI dg)), (2, .int (iI q))]) (st' := [.int (iI q), .ref 93]) (M' := M1) rfl ?_
      refine yR.call _ rfl rfl rfl rfl rfl (r_reps M1 dom hdom q hq m1) (fun r1 M2 hq => ?_)
      obtain ⟨rfl, G2, e2⟩ := hq
      show yR 147 36 [(0, .ref 93), (1, .int (nI dg)), (2, .int (iI q))] [] M2 _
      refine yR.adv 8 (pc' := 50) (lv' := [(6, .int 0), (5, .int 25), (4, .int (-9)), (3, .int (-9)), (0, .ref 93), (1, .int (nI dg)), (2, .int (iI q))]) (st' := []) (M' := M2) rfl ?_
      refine yR.drop (lv := [(0, .ref 93), (1, .int (nI dg)), (2, .int (iI q)), (3, .int (-9)), (4, .int (-9)), (5, .int (nI 25)), (6, .int (nI 0))]) (by refine ⟨?_, ?_⟩ <;> simp [zget, zwf] <;> exact ⟨rfl, rfl⟩) ?_
      refine r_pair_out M2 dom hdom q hq dg (by omega) T (fun M3 b1 b2 G3 hB e3 => ?_) (zreps dom q).length 0 M2 (25, 0, 0) (-9) (-9) (Nat.zero_add _) G2 ⟨Nat.le_refl _, fun h => absurd h (by decide), fun _ => rfl⟩ (zKp.refl _ _ _) hT
      have E13 : zKp [94, 95, 96, 97, 98, 110, 111, 112, 113, 114, 115, 116] [(93, 2), (93, 3), (93, 5), (93, 6), (93, 7), (93, 13), (93, 29), (93, 30), (93, 31), (93, 32), (93, 33), (93, 34), (93, 35)] M M3 := ((e1.sub (by decide)).trans (e2.sub (by decide))).trans (e3.sub (by decide))
      have m3 : M3.1 93 4 = nI dom := G3.1
      refine yR.adv 2 (pc' := 193) (lv' := [(0, .ref 93), (2, .int (iI q)), (3, .int b1), (4, .int b2)]) (st' := [.int (-9), .int b1]) (M' := M3) rfl ?_
      by_cases hc : T.1 ≤ 24
      · obtain ⟨hb1, hb2⟩ := hB.2.1 (by omega)
        obtain ⟨p1, p2, p3, p4⟩ := hfound.2 (by omega)
        have pok := (zokR_of p3).1
        have fi := zfr_b hdom (show q < 7 by omega) (show T.2.1 < (zreps dom q).length by omega)
        have fj := zfr_b hdom (show q < 7 by omega) p2
        have ci : 1 ≤ zcnt dom q T.2.1 ∧ zcnt dom q T.2.1 ≤ 8 := zorb_len dom q (zpt dom q T.2.1)
        have cj : 1 ≤ zcnt dom q T.2.2 ∧ zcnt dom q T.2.2 ≤ 8 := zorb_len dom q (zpt dom q T.2.2)
        obtain ⟨bW, bw1, bw2⟩ := zp_b hdom hq fi fj ci cj pok
        have hl := zreps_len dom hdom q (by omega)
        obtain ⟨i1, i2, i3, i4⟩ := G3.2.2 T.2.1 _ (zpt_get (by omega))
        obtain ⟨j1, j2, j3, j4⟩ := G3.2.2 T.2.2 _ (zpt_get p2)
        subst hb1 hb2
        refine yR.if2 .ne _ _ _ _ rfl (fun q3 => ?_) (fun q3 => ?_)
        · refine yR.adv 4 (pc' := 208) (lv' := [(0, .ref 93), (2, .int (iI q)), (3, .int (nI T.2.1)), (4, .int (nI T.2.2))]) (st' := [.int (iI q), .int (nI T.2.2), .int (nI T.2.1), .ref 93]) (M' := M3) rfl ?_
          refine yR.call _ rfl rfl rfl rfl rfl (r_have dom hdom M3 q hq T.2.1 T.2.2 (by omega) (by omega) (zfr dom q T.2.1) (zfr dom q T.2.2) (zcnt dom q T.2.1) (zcnt dom q T.2.2) i4 j4 i3 j3 fi fj ci cj m3 1 (Or.inl ⟨pok, rfl⟩)) (fun r1 M4 hq => ?_)
          obtain ⟨rfl, w1, e4⟩ := hq
          show yR 147 211 [(0, .ref 93), (2, .int (iI q)), (3, .int (nI T.2.1)), (4, .int (nI T.2.2))] [.int 1] M4 _
          obtain ⟨x1, x2, x3⟩ := w1 rfl
          have E4 : zKp [94, 95, 96, 97, 98] [(93, 2), (93, 3), (93, 5), (93, 6), (93, 7), (93, 13), (93, 30), (93, 31), (93, 32)] M3 M4 := e4.sub (by decide)
          have G4 := G3.keepS E4
          refine yR.adv 5 (pc' := 218) (lv' := [(6, .int 1), (0, .ref 93), (2, .int (iI q)), (3, .int (nI T.2.1)), (4, .int (nI T.2.2))]) (st' := [.int (iI q), .int (nI T.2.2), .int (nI T.2.1), .ref 93]) (M' := M4) rfl ?_
          refine yR.call _ rfl rfl rfl rfl rfl (r_layPair M4 dom hdom q hq T.2.1 T.2.2 p1 p2 G4 x1 x2 x3) (fun r1 M5 hq => ?_)
          obtain ⟨rfl, R5, r5, r6, e5⟩ := hq
          show yR 147 221 [(6, .int 1), (0, .ref 93), (2, .int (iI q)), (3, .int (nI T.2.1)), (4, .int (nI T.2.2))] [] M5 _
          have hlen : (zpair dom q T.2.1 T.2.2).length = T.1 := by rw [p4]; unfold zpair zcnt; simp
          have r7 : M5.1 93 7 = nI T.1 := by rw [← hlen]; exact R5.1
          have m5 : M5.1 93 4 = nI dom := by rw [(e5 93 4 (by decide) (by decide)).1]; exact G4.1
          refine yR.adv 2 (pc' := 225) (lv' := [(6, .int 1), (0, .ref 93), (2, .int (iI q)), (3, .int (nI T.2.1)), (4, .int (nI T.2.2))]) (st' := [.int (M5.1 93 7)]) (M' := M5) rfl ?_
          rw [r7]
          refine yR.ret _ rfl rfl rfl ?_
          refine Or.inl ⟨hc, rfl, ⟨R5, zpair_ok hdom hq p1 p2 pok, m5, r5, by rw [r6, zl2iI bW], hdom, by omega, bW⟩, (E13.trans (E4.sub (by decide))).trans (e5.sub (by decide))⟩
        · exact absurd (zne_f q3) (nI_nm9 _ (by omega))
      · have hb1 := hB.2.2 (by have := hB.1; omega)
        subst hb1
        refine yR.if2 .ne _ _ _ _ rfl (fun q3 => ?_) (fun q3 => ?_)
        · exact absurd q3 (by decide)
        · have H3 : zRu 93 33 114 115 116 M3 L0 := H1.keep (by rw [(e3 93 33 (by decide) (by decide)).1, (e2 93 33 (by decide) (by decide)).1]) (fun i => by rw [(e3 114 i (by decide) (by simp)).1, (e2 114 i (by decide) (by simp)).1]) (fun i => by rw [(e3 115 i (by decide) (by simp)).1, (e2 115 i (by decide) (by simp)).1]) (fun i => by rw [(e3 116 i (by decide) (by simp)).1, (e2 116 i (by decide) (by simp)).1])
          refine yR.adv 1 (pc' := 197) (lv' := [(0, .ref 93), (2, .int (iI q)), (3, .int (-9)), (4, .int b2)]) (st' := [.ref 93]) (M' := M3) rfl ?_
          refine yR.call _ rfl rfl rfl rfl rfl (r_takeBack M3 L0 H3) (fun r1 M4 hq => ?_)
          obtain ⟨rfl, R4, r5, r6, e4⟩ := hq
          show yR 147 200 [(0, .ref 93), (2, .int (iI q)), (3, .int (-9)), (4, .int b2)] [] M4 _
          refine yR.adv 1 (pc' := 202) (lv' := [(0, .ref 93), (2, .int (iI q)), (3, .int (-9)), (4, .int b2)]) (st' := [.int (-9)]) (M' := M4) rfl ?_
          refine yR.ret _ rfl rfl rfl ?_
          refine Or.inr ⟨hc, rfl, ⟨R4, hR.2.1, ?_, ?_, ?_, hR.2.2.2.2.2⟩, E13.trans (e4.sub (by decide))⟩
          · rw [(e4 93 4 (by decide) (by decide)).1]; exact m3
          · rw [r5, (e3 93 34 (by decide) (by decide)).1, (e2 93 34 (by decide) (by decide)).1, a5]; exact hR.2.2.2.1
          · rw [r6, (e3 93 35 (by decide) (by decide)).1, (e2 93 35 (by decide) (by decide)).1, a6]; exact hR.2.2.2.2.1
    · exact absurd q2 (by decide)
