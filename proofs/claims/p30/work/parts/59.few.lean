/-! ===== the search of a pair ===== -/
def zinn (ok : Nat → Nat → Bool) (cnt : Nat → Nat) (i : Nat) : Nat → Nat → Nat × Nat × Nat → Nat × Nat × Nat
  | 0, _, s => s
  | d + 1, j, s => zinn ok cnt i d (j + 1) (if cnt i + cnt j < s.1 ∧ ok i j = true then (cnt i + cnt j, i, j) else s)
def zout (ok : Nat → Nat → Bool) (cnt : Nat → Nat) (n : Nat) : Nat → Nat → Nat × Nat × Nat → Nat × Nat × Nat
  | 0, _, s => s
  | d + 1, i, s => zout ok cnt n d (i + 1) (zinn ok cnt i (n - (i + 1)) (i + 1) s)
/-- what is found is a pair -/
def zfnd2 (ok : Nat → Nat → Bool) (cnt : Nat → Nat) (n : Nat) (s : Nat × Nat × Nat) : Prop := s.1 ≤ 25 ∧ (s.1 < 25 → s.2.1 < s.2.2 ∧ s.2.2 < n ∧ ok s.2.1 s.2.2 = true ∧ s.1 = cnt s.2.1 + cnt s.2.2)
theorem zinn_ok {ok : Nat → Nat → Bool} {cnt : Nat → Nat} {n i : Nat} : ∀ (d j : Nat) (s : Nat × Nat × Nat), i < j → j + d = n → zfnd2 ok cnt n s → zfnd2 ok cnt n (zinn ok cnt i d j s)
  | 0, _, _, _, _, h => h
  | d + 1, j, s, h1, h2, h => by
    unfold zinn
    refine zinn_ok d (j + 1) _ (by omega) (by omega) ?_
    split
    · next hc => exact ⟨by have := h.1; show cnt i + cnt j ≤ 25; omega, fun _ => ⟨h1, by show j < n; omega, hc.2, rfl⟩⟩
    · exact h
theorem zout_ok {ok : Nat → Nat → Bool} {cnt : Nat → Nat} {n : Nat} : ∀ (d i : Nat) (s : Nat × Nat × Nat), i + d = n → zfnd2 ok cnt n s → zfnd2 ok cnt n (zout ok cnt n d i s)
  | 0, _, _, _, h => h
  | d + 1, i, s, h1, h => by
    unfold zout
    exact zout_ok d (i + 1) _ (by omega) (zinn_ok _ _ _ (by omega) (by omega) h)
def zpt (dom q i : Nat) : Int × Int := (zreps dom q).getD i (0, 0)
def zcnt (dom q i : Nat) : Nat := (zorb dom q (zpt dom q i)).length
def zfr (dom q i : Nat) : Int := zfar dom q (zpt dom q i)
theorem oins_ge (l : List zPt) (p : zPt) : l.length ≤ (oins l p).length ∧ 1 ≤ (oins l p).length := by
  induction l with
  | nil => exact ⟨by simp, by simp [oins]⟩
  | cons q r ih =>
    unfold oins
    split
    · simp; omega
    · split
      · simp
      · simp
theorem ofold_len : ∀ (ps l : List zPt), l.length ≤ (ofold l ps).length ∧ (ofold l ps).length ≤ l.length + ps.length
  | [], l => ⟨Nat.le_refl _, Nat.le_refl _⟩
  | p :: ps, l => by
    have h := ofold_len ps (oins l p)
    have h2 := oins_ge l p
    have h3 := oins_len l p
    show l.length ≤ (ofold (oins l p) ps).length ∧ (ofold (oins l p) ps).length ≤ l.length + (ps.length + 1)
    omega
theorem zorb_len (dom : Nat) (q : Int) (p : Int × Int) : 1 ≤ (zorb dom q p).length ∧ (zorb dom q p).length ≤ 8 := by
  unfold zorb
  refine ⟨?_, ?_⟩
  · unfold zpsM
    split
    · exact Nat.le_trans (oins_ge [] _).2 (ofold_len _ (oins [] _)).1
    · exact Nat.le_trans (oins_ge [] _).2 (ofold_len _ (oins [] _)).1
  · have := (ofold_len (zpsM (nI dom) (iI q) (iI p.1) (iI p.2)) []).2
    have h2 := zpsM_len (nI dom) (iI q) (iI p.1) (iI p.2)
    simp at this
    omega
theorem zfar_all : ∀ dom, dom < 3 → ∀ q, q < 7 → (zreps dom q).all (fun p => decide (0 ≤ zfar dom q p) && decide (zfar dom q p ≤ 200)) = true := by decide +kernel
theorem zpt_get {dom q i : Nat} (h : i < (zreps dom q).length) : (zreps dom q)[i]? = some (zpt dom q i) := by
  unfold zpt
  rw [List.getD_eq_getElem?_getD, List.getElem?_eq_getElem h]
  rfl
theorem zfr_b {dom q i : Nat} (hdom : dom < 3) (hq : q < 7) (h : i < (zreps dom q).length) : 0 ≤ zfr dom q i ∧ zfr dom q i ≤ 200 := by
  have h1 := List.all_eq_true.mp (zfar_all dom hdom q hq) (zpt dom q i) (List.mem_of_getElem? (zpt_get h))
  simp only [Bool.and_eq_true, decide_eq_true_eq] at h1
  exact h1
/-- whether two orbits are a pair for a degree -/
def zokQ (dom q dg i j : Nat) : Prop := zokP dom q (zfr dom q i) (zcnt dom q i) (zfr dom q j) (zcnt dom q j) ∧ ∀ t, t < (dg + 1) * (dg + 2) / 2 → zrt dom q (zp1 dom q (zfr dom q i) (zcnt dom q i) (zfr dom q j) (zcnt dom q j)) (zp2 dom q (zfr dom q i) (zcnt dom q i) (zfr dom q j) (zcnt dom q j)) (zpW dom q (zfr dom q i) (zcnt dom q i) (zfr dom q j) (zcnt dom q j)) (zorb dom q (zpt dom q i)) (zorb dom q (zpt dom q j)) t
noncomputable def zokR (dom q dg i j : Nat) : Bool := @decide (zokQ dom q dg i j) (Classical.propDecidable _)
theorem zokR_t {dom q dg i j : Nat} (h : zokQ dom q dg i j) : zokR dom q dg i j = true := @decide_eq_true _ (Classical.propDecidable _) h
theorem zokR_of {dom q dg i j : Nat} (h : zokR dom q dg i j = true) : zokQ dom q dg i j := @of_decide_eq_true _ (Classical.propDecidable _) h
noncomputable abbrev zinnP (dom q dg : Nat) := zinn (zokR dom q dg) (zcnt dom q)
noncomputable abbrev zoutP (dom q dg : Nat) := zout (zokR dom q dg) (zcnt dom q) (zreps dom q).length
def zInvF (dom q : Nat) (M0 M : zMm) (s : Nat × Nat × Nat) : Prop := zGrD dom q M ∧ s.1 ≤ 25 ∧ (s.1 < 25 → M.1 12 17 = nI s.2.1 ∧ M.1 12 18 = nI s.2.2) ∧ zKp [50, 51] [(12, 14), (12, 15), (12, 16), (12, 17), (12, 18)] M0 M
theorem zGrD.keep {dom q : Nat} {M N : zMm} (h : zGrD dom q M) (hl : (zreps dom q).length ≤ 28) (e : zKp [50, 51] [(12, 14), (12, 15), (12, 16), (12, 17), (12, 18)] M N) : zGrD dom q N := by
  refine ⟨h.1.keep hl (fun i hi => (e 12 i (by decide) (by simp; omega)).1) (fun a i h1 h2 => (e a i (by simp <;> omega) (by simp <;> omega)).1) (fun a i h1 h2 => (e a i (by simp <;> omega) (by simp <;> omega)).2), fun t ht => ?_⟩
  rw [(e 46 t (by decide) (by simp)).2, (e 47 t (by decide) (by simp)).2]
  exact h.2 t ht
theorem m_few_in {Q : Option Value → zMm → Prop} (M0 : zMm) (dom : Nat) (hdom : dom < 3) (q : Nat) (hq : 1 ≤ q ∧ q ≤ 6) (dg : Nat) (hdg : dg < 6) (i : Nat) (hi : i < (zreps dom q).length) (T : Nat × Nat × Nat) (K : ∀ M', zInvF dom q M0 M' T → yR 10 90 [(0, .ref 12), (1, .int (nI dg)), (2, .int (nI T.1)), (3, .int (nI i))] [] M' Q) :
    ∀ (d j : Nat) (M : zMm) (s : Nat × Nat × Nat), j + d = (zreps dom q).length → i < j → zInvF dom q M0 M s → zinnP dom q dg i d j s = T → yR 10 18 [(0, .ref 12), (1, .int (nI dg)), (2, .int (nI s.1)), (3, .int (nI i)), (4, .int (nI j))] [] M Q := by
  have hl := zreps_len dom hdom q (by omega)
  have gi := zpt_get hi
  intro d
  induction d using Nat.strongRecOn with
  | ind d ih =>
    intro j M s h hij hI hT
    obtain ⟨hG, hs25, hbest, hE⟩ := hI
    refine yR.adv 3 (pc' := 24) (lv' := [(0, .ref 12), (1, .int (nI dg)), (2, .int (nI s.1)), (3, .int (nI i)), (4, .int (nI j))]) (st' := [.int (M.1 12 2), .int (nI j)]) (M' := M) rfl ?_
    rw [hG.1.2.2.1]
    refine yR.if2 .ge _ _ _ _ rfl (fun q1 => ?_) (fun q1 => ?_)
    · have q1' : ((zreps dom q).length : Int) ≤ j := zcT q1 (nI_toInt (by omega)) (nI_toInt (by omega))
      have hd : d = 0 := by omega
      subst hd
      have hT' : T = s := hT.symm
      subst hT'
      exact (K M ⟨hG, hs25, hbest, hE⟩).drop (by refine ⟨?_, ?_⟩ <;> simp [zget, zwf])
    · have q1' : ¬ ((zreps dom q).length : Int) ≤ j := zcF q1 (nI_toInt (by omega)) (nI_toInt (by omega))
      obtain ⟨d', rfl⟩ : ∃ d', d = d' + 1 := ⟨d - 1, by omega⟩
      have hj : j < (zreps dom q).length := by omega
      have gj := zpt_get hj
      obtain ⟨i1, i2, i3, i4, i5⟩ := hG.1.2.2.2 i _ gi
      obtain ⟨j1, j2, j3, j4, j5⟩ := hG.1.2.2.2 j _ gj
      have ci := zorb_len dom q (zpt dom q i)
      have cj := zorb_len dom q (zpt dom q j)
      have fi := zfr_b hdom (by omega) hi
      have fj := zfr_b hdom (by omega) hj
      have next : ∀ (M' : zMm) (s' : Nat × Nat × Nat), s' = (if zcnt dom q i + zcnt dom q j < s.1 ∧ zokR dom q dg i j = true then (zcnt dom q i + zcnt dom q j, i, j) else s) → zInvF dom q M0 M' s' → yR 10 84 [(0, .ref 12), (1, .int (nI dg)), (2, .int (nI s'.1)), (3, .int (nI i)), (4, .int (nI j))] [] M' Q := by
        intro M' s' hs' hI'
        refine yR.adv 2 (pc' := 18) (lv' := [(4, .int (nI j + 1)), (0, .ref 12), (1, .int (nI dg)), (2, .int (nI s'.1)), (3, .int (nI i))]) (st' := []) (M' := M') rfl ?_
        exact (ih d' (by omega) (j + 1) M' s' (by omega) (by omega) hI' (by rw [hs', ← hT]; rfl)).drop (by refine ⟨?_, ?_⟩ <;> simp [zget, zwf, nI_succ])
      refine yR.adv 3 (pc' := 32) (lv' := [(0, .ref 12), (1, .int (nI dg)), (2, .int (nI s.1)), (3, .int (nI i)), (4, .int (nI j))]) (st' := [.int (nI i), .ref 15]) (M' := M) rfl ?_
      refine yR.iald i _ _ _ rfl rfl (by decide) (rfl) (by omega) ?_
      rw [i3]
      show yR 10 33 [(0, .ref 12), (1, .int (nI dg)), (2, .int (nI s.1)), (3, .int (nI i)), (4, .int (nI j))] [.int (nI (zcnt dom q i))] M _
      refine yR.adv 3 (pc' := 39) (lv' := [(0, .ref 12), (1, .int (nI dg)), (2, .int (nI s.1)), (3, .int (nI i)), (4, .int (nI j))]) (st' := [.int (nI j), .ref 15, .int (nI (zcnt dom q i))]) (M' := M) rfl ?_
      refine yR.iald j _ _ _ rfl rfl (by decide) (rfl) (by omega) ?_
      rw [j3]
      show yR 10 40 [(0, .ref 12), (1, .int (nI dg)), (2, .int (nI s.1)), (3, .int (nI i)), (4, .int (nI j))] [.int (nI (zcnt dom q j)), .int (nI (zcnt dom q i))] M _
      refine yR.adv 4 (pc' := 46) (lv' := [(5, .int ((nI (zcnt dom q i)) + (nI (zcnt dom q j)))), (0, .ref 12), (1, .int (nI dg)), (2, .int (nI s.1)), (3, .int (nI i)), (4, .int (nI j))]) (st' := [.int (nI s.1), .int ((nI (zcnt dom q i)) + (nI (zcnt dom q j)))]) (M' := M) rfl ?_
      rw [nI_add]
      have cb : zcnt dom q i + zcnt dom q j ≤ 16 := by unfold zcnt; omega
      refine yR.if2 .ge _ _ _ _ rfl (fun q2 => ?_) (fun q2 => ?_)
      · have q2' : (s.1 : Int) ≤ ((zcnt dom q i + zcnt dom q j : Nat) : Int) := zcT q2 (nI_toInt (by omega)) (nI_toInt (by omega))
        exact (next M s (by rw [if_neg (fun z => by have := z.1; omega)]) ⟨hG, hs25, hbest, hE⟩).drop (by refine ⟨?_, ?_⟩ <;> simp [zget, zwf])
      · have q2' : ¬ (s.1 : Int) ≤ ((zcnt dom q i + zcnt dom q j : Nat) : Int) := zcF q2 (nI_toInt (by omega)) (nI_toInt (by omega))
        obtain ⟨v, hv⟩ := zem (zokP dom q (zfr dom q i) (zcnt dom q i) (zfr dom q j) (zcnt dom q j))
        refine yR.adv 3 (pc' := 53) (lv' := [(5, .int (nI (zcnt dom q i + zcnt dom q j))), (0, .ref 12), (1, .int (nI dg)), (2, .int (nI s.1)), (3, .int (nI i)), (4, .int (nI j))]) (st' := [.int (nI j), .int (nI i), .ref 12]) (M' := M) rfl ?_
        refine yR.call _ rfl rfl rfl rfl rfl (m_weigh M dom hdom q hq i j (by omega) (by omega) (zfr dom q i) (zfr dom q j) (zcnt dom q i) (zcnt dom q j) hG.1.1 hG.2 i4 j4 i3 j3 fi fj ci cj v hv) (fun r1 M1 hq => ?_)
        obtain ⟨rfl, w1, e1⟩ := hq
        show yR 10 56 [(5, .int (nI (zcnt dom q i + zcnt dom q j))), (0, .ref 12), (1, .int (nI dg)), (2, .int (nI s.1)), (3, .int (nI i)), (4, .int (nI j))] [.int v] M1 _
        have E1 : zKp [50, 51] [(12, 14), (12, 15), (12, 16), (12, 17), (12, 18)] M M1 := e1.mono (by simp) (by simp <;> omega)
        have G1 := hG.keep hl E1
        have B1 : s.1 < 25 → M1.1 12 17 = nI s.2.1 ∧ M1.1 12 18 = nI s.2.2 := fun z => by rw [(e1 12 17 (by decide) (by decide)).1, (e1 12 18 (by decide) (by decide)).1]; exact hbest z
        refine yR.if1 .eq _ _ _ _ rfl (fun q3 => ?_) (fun q3 => ?_)
        · have q3' := zeq0 hv q3
          exact (next M1 s (by rw [if_neg (fun z => q3' (zokR_of z.2).1)]) ⟨G1, hs25, B1, hE.trans E1⟩).drop (by refine ⟨?_, ?_⟩ <;> simp [zget, zwf])
        · have q3' := zeq1 hv q3
          have hv1 : v = 1 := hv.elim (fun p => p.2) (fun p => absurd q3' p.1)
          obtain ⟨x1, x2, x3⟩ := w1 hv1
          obtain ⟨v2, hv2⟩ := zem (∀ t, t < (dg + 1) * (dg + 2) / 2 → zrt dom q (zp1 dom q (zfr dom q i) (zcnt dom q i) (zfr dom q j) (zcnt dom q j)) (zp2 dom q (zfr dom q i) (zcnt dom q i) (zfr dom q j) (zcnt dom q j)) (zpW dom q (zfr dom q i) (zcnt dom q i) (zfr dom q j) (zcnt dom q j)) (zorb dom q (zpt dom q i)) (zorb dom q (zpt dom q j)) t)
          refine yR.adv 4 (pc' := 64) (lv' := [(5, .int (nI (zcnt dom q i + zcnt dom q j))), (0, .ref 12), (1, .int (nI dg)), (2, .int (nI s.1)), (3, .int (nI i)), (4, .int (nI j))]) (st' := [.int (nI j), .int (nI i), .int (nI dg), .ref 12]) (M' := M1) rfl ?_
          refine yR.callK (M1 := M1) _ rfl rfl rfl rfl rfl (m_rightC M1 dom q dg hdg i j (by omega) (by omega) _ _ _ _ _ x2 x3 x1 G1.2 (G1.1.2.2.2 i _ gi).2.2.2.2 (G1.1.2.2.2 j _ gj).2.2.2.2 v2 hv2) ?_
          show yR 10 67 [(5, .int (nI (zcnt dom q i + zcnt dom q j))), (0, .ref 12), (1, .int (nI dg)), (2, .int (nI s.1)), (3, .int (nI i)), (4, .int (nI j))] [.int v2] M1 _
          refine yR.if1 .eq _ _ _ _ rfl (fun q4 => ?_) (fun q4 => ?_)
          · have q4' := zeq0 hv2 q4
            exact (next M1 s (by rw [if_neg (fun z => q4' (zokR_of z.2).2)]) ⟨G1, hs25, B1, hE.trans E1⟩).drop (by refine ⟨?_, ?_⟩ <;> simp [zget, zwf])
          · have q4' := zeq1 hv2 q4
            refine yR.adv 8 (pc' := 84) (lv' := [(2, .int (nI (zcnt dom q i + zcnt dom q j))), (5, .int (nI (zcnt dom q i + zcnt dom q j))), (0, .ref 12), (1, .int (nI dg)), (3, .int (nI i)), (4, .int (nI j))]) (st' := []) (M' := zup (zup M1 12 17 (nI i)) 12 18 (nI j)) rfl ?_
            generalize g2 : zup (zup M1 12 17 (nI i)) 12 18 (nI j) = M2
            have E2 : zKp [50, 51] [(12, 14), (12, 15), (12, 16), (12, 17), (12, 18)] M1 M2 := by rw [← g2]; exact ((zKp.refl _ _ M1).up (by simp)).up (by simp)
            exact (next M2 (zcnt dom q i + zcnt dom q j, i, j) (by rw [if_pos ⟨by omega, zokR_t ⟨q3', q4'⟩⟩]) ⟨G1.keep hl E2, by show zcnt dom q i + zcnt dom q j ≤ 25; omega, fun _ => by rw [← g2]; simp [zup_i], (hE.trans E1).trans E2⟩).drop (by refine ⟨?_, ?_⟩ <;> simp [zget, zwf])
theorem m_few_out {Q : Option Value → zMm → Prop} (M0 : zMm) (dom : Nat) (hdom : dom < 3) (q : Nat) (hq : 1 ≤ q ∧ q ≤ 6) (dg : Nat) (hdg : dg < 6) (T : Nat × Nat × Nat) (K : ∀ M', zInvF dom q M0 M' T → yR 10 96 [(0, .ref 12), (2, .int (nI T.1))] [] M' Q) :
    ∀ (d i : Nat) (M : zMm) (s : Nat × Nat × Nat), i + d = (zreps dom q).length → zInvF dom q M0 M s → zoutP dom q dg d i s = T → yR 10 5 [(0, .ref 12), (1, .int (nI dg)), (2, .int (nI s.1)), (3, .int (nI i))] [] M Q := by
  have hl := zreps_len dom hdom q (by omega)
  intro d
  induction d using Nat.strongRecOn with
  | ind d ih =>
    intro i M s h hI hT
    obtain ⟨hG, hs25, hbest, hE⟩ := hI
    refine yR.adv 3 (pc' := 10) (lv' := [(0, .ref 12), (1, .int (nI dg)), (2, .int (nI s.1)), (3, .int (nI i))]) (st' := [.int (M.1 12 2), .int (nI i)]) (M' := M) rfl ?_
    rw [hG.1.2.2.1]
    refine yR.if2 .ge _ _ _ _ rfl (fun q1 => ?_) (fun q1 => ?_)
    · have q1' : ((zreps dom q).length : Int) ≤ i := zcT q1 (nI_toInt (by omega)) (nI_toInt (by omega))
      have hd : d = 0 := by omega
      subst hd
      have hT' : T = s := hT.symm
      subst hT'
      exact (K M ⟨hG, hs25, hbest, hE⟩).drop (by refine ⟨?_, ?_⟩ <;> simp [zget, zwf])
    · have q1' : ¬ ((zreps dom q).length : Int) ≤ i := zcF q1 (nI_toInt (by omega)) (nI_toInt (by omega))
      obtain ⟨d', rfl⟩ : ∃ d', d = d' + 1 := ⟨d - 1, by omega⟩
      refine yR.adv 4 (pc' := 18) (lv' := [(4, .int ((nI i) + 1)), (0, .ref 12), (1, .int (nI dg)), (2, .int (nI s.1)), (3, .int (nI i))]) (st' := []) (M' := M) rfl ?_
      refine yR.drop (lv := [(0, .ref 12), (1, .int (nI dg)), (2, .int (nI s.1)), (3, .int (nI i)), (4, .int (nI (i + 1)))]) (by refine ⟨?_, ?_⟩ <;> simp [zget, zwf, nI_succ]) ?_
      refine m_few_in M0 dom hdom q hq dg hdg i (by omega) (zinnP dom q dg i ((zreps dom q).length - (i + 1)) (i + 1) s) (fun M' hI' => ?_) _ (i + 1) M s (by omega) (by omega) ⟨hG, hs25, hbest, hE⟩ rfl
      refine yR.adv 2 (pc' := 5) (lv' := [(3, .int (nI i + 1)), (0, .ref 12), (1, .int (nI dg)), (2, .int (nI (zinnP dom q dg i ((zreps dom q).length - (i + 1)) (i + 1) s).1))]) (st' := []) (M' := M') rfl ?_
      exact (ih d' (by omega) (i + 1) M' _ (by omega) hI' hT).drop (by refine ⟨?_, ?_⟩ <;> simp [zget, zwf, nI_succ])
theorem m_few (M : zMm) (dom : Nat) (hdom : dom < 3) (q : Nat) (hq : 1 ≤ q ∧ q ≤ 6) (dg : Nat) (hdg : dg < 6) (hG : zGrD dom q M) (T : Nat × Nat × Nat) (hT : zoutP dom q dg (zreps dom q).length 0 (25, 0, 0) = T) :
    yR 10 0 [(0, .ref 12), (1, .int (nI dg))] [] M (fun r N => r = some (.int (if T.1 ≤ 24 then 1 else 0)) ∧ zInvF dom q M N T) := by
  refine yR.adv 4 (pc' := 5) (lv' := [(3, .int 0), (2, .int 25), (0, .ref 12), (1, .int (nI dg))]) (st' := []) (M' := M) rfl ?_
  refine yR.drop (lv := [(0, .ref 12), (1, .int (nI dg)), (2, .int (nI 25)), (3, .int (nI 0))]) (by refine ⟨?_, ?_⟩ <;> simp [zget, zwf] <;> exact ⟨rfl, rfl⟩) ?_
  refine m_few_out M dom hdom q hq dg hdg T (fun M' hI => ?_) (zreps dom q).length 0 M (25, 0, 0) (Nat.zero_add _) ⟨hG, Nat.le_refl _, fun h => absurd h (by decide), zKp.refl _ _ _⟩ hT
  have h25 := hI.2.1
  refine yR.adv 2 (pc' := 99) (lv' := [(0, .ref 12), (2, .int (nI T.1))]) (st' := [.int 24, .int (nI T.1)]) (M' := M') rfl ?_
  refine yR.if2 .gt _ _ _ _ rfl (fun q1 => ?_) (fun q1 => ?_)
  · have q1' : (24 : Int) < T.1 := zcT q1 (nI_toInt (by omega)) rfl
    refine yR.adv 1 (pc' := 107) (lv' := [(0, .ref 12), (2, .int (nI T.1))]) (st' := [.int 0]) (M' := M') rfl ?_
    refine yR.ret _ rfl rfl rfl ?_
    exact ⟨by rw [if_neg (by omega)], hI⟩
  · have q1' : ¬ (24 : Int) < T.1 := zcF q1 (nI_toInt (by omega)) rfl
    refine yR.adv 2 (pc' := 107) (lv' := [(0, .ref 12), (2, .int (nI T.1))]) (st' := [.int 1]) (M' := M') rfl ?_
    refine yR.ret _ rfl rfl rfl ?_
    exact ⟨by rw [if_pos (by omega)], hI⟩
