/-! ===== is, of both ===== -/
def zisP (dom : Nat) (q : Int) (L : zPl) (w : Nat) (e : zPt × Int32) : Prop := match w with
  | 0 => zdom dom q e.1.1.toInt e.1.2.toInt
  | 1 => 0 < e.2.toInt
  | _ => ∀ p, p ∈ ofold [] (zpsM (nI dom) (iI q) e.1.1 e.1.2) → lw L p = some e.2
theorem zall_s {P : zPt × Int32 → Prop} {L : zPl} {i : Nat} {e : zPt × Int32} (he : L[i]? = some e) (h1 : ∀ k e, k < i → L[k]? = some e → P e) (h2 : P e) : ∀ k e, k < i + 1 → L[k]? = some e → P e := fun k e' hk hk' => by
  by_cases c : k = i
  · subst c
    rw [he] at hk'
    rw [← Option.some.inj hk']
    exact h2
  · exact h1 k e' (by omega) hk'
theorem zall_e {P : zPt × Int32 → Prop} {L : zPl} {i : Nat} (hi : L.length ≤ i) (h1 : ∀ k e, k < i → L[k]? = some e → P e) : ∀ e, e ∈ L → P e := fun e he => by
  obtain ⟨k, hk⟩ := List.mem_iff_getElem?.mp he
  exact h1 k e (by have := (List.getElem?_eq_some_iff.mp hk).1; omega) hk
-- an orbit of one weight
theorem m_orbW_loop (M : zMm) (L : zPl) (hR : zRu 1 3 2 3 4 M L) (ps : List zPt) (hO : zOrb 9 2 10 11 M ps) (w v : Int32) (hv : ((∀ p, p ∈ ps → lw L p = some w) ∧ v = 1) ∨ (¬ (∀ p, p ∈ ps → lw L p = some w) ∧ v = 0)) : ∀ (d i : Nat), i + d = ps.length → (∀ k p, k < i → ps[k]? = some p → lw L p = some w) → yR 83 2 [(0, .ref 0), (1, .int w), (2, .int (nI i))] [] M (fun r N => r = some (.int v) ∧ N = M) := by
  have hlen := hO.2.1
  have hL24 := hR.2.1
  intro d
  induction d using Nat.strongRecOn with
  | ind d ih =>
    intro i h hp
    refine yR.adv 4 (pc' := 10) (lv' := [(0, .ref 0), (1, .int w), (2, .int (nI i))]) (st' := [.int (M.1 9 2), .int (nI i)]) (M' := M) rfl ?_
    rw [hO.1]
    refine yR.if2 .ge _ _ _ _ rfl (fun q1 => ?_) (fun q1 => ?_)
    · have q1' : (ps.length : Int) ≤ i := zcT q1 (nI_toInt (by omega)) (nI_toInt (by omega))
      have hv0 : v = 1 := hv.elim (fun z => z.2) (fun z => absurd (fun p hm => by
        obtain ⟨k, hk⟩ := List.mem_iff_getElem?.mp hm
        exact hp k p (by have := (List.getElem?_eq_some_iff.mp hk).1; omega) hk) z.1)
      refine yR.adv 1 (pc' := 66) (lv' := [(0, .ref 0), (1, .int w), (2, .int (nI i))]) (st' := [.int 1]) (M' := M) rfl ?_
      refine yR.ret _ rfl rfl rfl ?_
      exact ⟨by rw [hv0], rfl⟩
    · have q1' : ¬ (ps.length : Int) ≤ i := zcF q1 (nI_toInt (by omega)) (nI_toInt (by omega))
      obtain ⟨p, hp1, hp2, hp3⟩ := hO.at (show i < ps.length by omega)
      have hmem := List.mem_of_getElem? hp1
      have hn := zfv_none (o := lix L p 0) (c := -1) (fun k hk2 => nI_nm1 k (by have := lix_lt hk2; omega))
      have no : ¬ lw L p = some w → yR 83 57 [(0, .ref 0)] [] M (fun r N => r = some (.int v) ∧ N = M) := by
        intro hz
        have hv0 : v = 0 := hv.elim (fun z => absurd (z.1 p hmem) hz) (fun z => z.2)
        refine yR.adv 1 (pc' := 58) (lv' := [(0, .ref 0)]) (st' := [.int 0]) (M' := M) rfl ?_
        refine yR.ret _ rfl rfl rfl ?_
        exact ⟨by rw [hv0], rfl⟩
      refine yR.adv 6 (pc' := 25) (lv' := [(0, .ref 0), (1, .int w), (2, .int (nI i))]) (st' := [.int (nI i), .ref 10, .ref 1]) (M' := M) rfl ?_
      refine yR.iald i _ _ _ rfl rfl (by decide) (rfl) (by omega) ?_
      refine yR.adv 4 (pc' := 34) (lv' := [(0, .ref 0), (1, .int w), (2, .int (nI i))]) (st' := [.int (nI i), .ref 11, .int (M.1 10 i), .ref 1]) (M' := M) rfl ?_
      refine yR.iald i _ _ _ rfl rfl (by decide) (rfl) (by omega) ?_
      rw [hp2, hp3]
      refine yR.callK (M1 := M) _ rfl rfl rfl rfl rfl (m_numberOf_1 M L.length hR.1 hR.2.1 p.1 p.2) ?_
      show yR 83 38 [(0, .ref 0), (1, .int w), (2, .int (nI i))] [.int (zfv (-1) (zfnd (M.1 2) (M.1 3) p.1 p.2 L.length 0))] M _
      rw [hR.fnd]
      show yR 83 38 [(0, .ref 0), (1, .int w), (2, .int (nI i))] [.int (zfv (-1) (lix L p 0))] M _
      refine yR.adv 3 (pc' := 41) (lv' := [(3, .int (zfv (-1) (lix L p 0))), (0, .ref 0), (1, .int w), (2, .int (nI i))]) (st' := [.int (-1), .int (zfv (-1) (lix L p 0))]) (M' := M) rfl ?_
      refine yR.if2 .eq _ _ _ _ rfl (fun q2 => ?_) (fun q2 => ?_)
      · have q2' := hn.mp (zeq_t q2)
        exact (no (by rw [lix_none_lw.mp q2']; simp)).drop (by refine ⟨?_, ?_⟩ <;> simp [zget, zwf])
      · have q2' := zeq_f q2
        obtain ⟨k, w', z1, z2, z3⟩ : ∃ k w', lix L p 0 = some k ∧ L[k]? = some (p, w') ∧ lw L p = some w' := by
          rcases lix_lw (p := p) L 0 with z | ⟨k, w', z1, z2, z3⟩
          · exact absurd (hn.mpr z.1) q2'
          · exact ⟨k, w', by rw [z1, Nat.zero_add], z2, z3⟩
        have hkl := lix_lt z1
        have hwk := (hR.2.2 k _ z2).2.2
        have hzfv : zfv (-1) (lix L p 0) = nI k := by rw [z1]; rfl
        rw [hzfv]
        refine yR.adv 4 (pc' := 52) (lv' := [(3, .int (nI k)), (0, .ref 0), (1, .int w), (2, .int (nI i))]) (st' := [.int (nI k), .ref 4]) (M' := M) rfl ?_
        refine yR.iald k _ _ _ rfl rfl (by decide) (rfl) (by omega) ?_
        rw [hwk]
        show yR 83 53 [(3, .int (nI k)), (0, .ref 0), (1, .int w), (2, .int (nI i))] [.int (w')] M _
        refine yR.adv 1 (pc' := 54) (lv' := [(3, .int (nI k)), (0, .ref 0), (1, .int w), (2, .int (nI i))]) (st' := [.int w, .int (w')]) (M' := M) rfl ?_
        refine yR.if2 .eq _ _ _ _ rfl (fun q3 => ?_) (fun q3 => ?_)
        · have q3' : w' = w := zeq_t q3
          refine yR.adv 2 (pc' := 2) (lv' := [(2, .int (nI i + 1)), (3, .int (nI k)), (0, .ref 0), (1, .int w)]) (st' := []) (M' := M) rfl ?_
          exact (ih (d - 1) (by omega) (i + 1) (by omega) (fun k' p' hk' hp' => if c : k' = i then by subst c; rw [hp1] at hp'; rw [← Option.some.inj hp', z3, q3'] else hp k' p' (by omega) hp')).drop (by refine ⟨?_, ?_⟩ <;> simp [zget, zwf, nI_succ])
        · have q3' : ¬ w' = w := zeq_f q3
          exact (no (by rw [z3]; simp [q3'])).drop (by refine ⟨?_, ?_⟩ <;> simp [zget, zwf])
theorem m_allWithin_loop (M0 : zMm) (dom : Nat) (q W : Int) (L : zPl) (v : Int32) (hv : ((∀ e, e ∈ L → zisP dom q L 0 e) ∧ v = 1) ∨ (¬ (∀ e, e ∈ L → zisP dom q L 0 e) ∧ v = 0)) : ∀ (d i : Nat) (M : zMm), i + d = L.length → (∀ k e, k < i → L[k]? = some e → zisP dom q L 0 e) → zRm dom q W M L → zKp [9, 10, 11] [] M0 M → yR 80 2 [(0, .ref 0), (1, .int (nI i))] [] M (fun r N => r = some (.int v) ∧ zKp [9, 10, 11] [] M0 N) := by
  intro d
  induction d using Nat.strongRecOn with
  | ind d ih =>
    intro i M h hp hR hE
    have hL24 := hR.1.2.1
    refine yR.adv 4 (pc' := 10) (lv' := [(0, .ref 0), (1, .int (nI i))]) (st' := [.int (M.1 1 3), .int (nI i)]) (M' := M) rfl ?_
    rw [hR.1.1]
    refine yR.if2 .ge _ _ _ _ rfl (fun q1 => ?_) (fun q1 => ?_)
    · have q1' : (L.length : Int) ≤ i := zcT q1 (nI_toInt (by omega)) (nI_toInt (by omega))
      have hv0 : v = 1 := hv.elim (fun z => z.2) (fun z => absurd (zall_e (by omega) hp) z.1)
      refine yR.adv 1 (pc' := 33) (lv' := [(0, .ref 0), (1, .int (nI i))]) (st' := [.int 1]) (M' := M) rfl ?_
      refine yR.ret _ rfl rfl rfl ?_
      exact ⟨by rw [hv0], hE⟩
    · have q1' : ¬ (L.length : Int) ≤ i := zcF q1 (nI_toInt (by omega)) (nI_toInt (by omega))
      have hg := List.getElem?_eq_getElem (show i < L.length by omega)
      generalize hee : L[i] = e at hg
      obtain ⟨g1, g2, g3⟩ := hR.1.2.2 i e hg
      have hmem := List.mem_of_getElem? hg
      obtain ⟨w, hw⟩ := zem (zdom dom q e.1.1.toInt e.1.2.toInt)
      refine yR.adv 3 (pc' := 18) (lv' := [(0, .ref 0), (1, .int (nI i))]) (st' := [.int (nI i), .ref 1]) (M' := M) rfl ?_
      refine yR.callK (M1 := M) _ rfl rfl rfl rfl rfl (m_isWithin M dom q W L hR i e hg w hw) ?_
      show yR 80 21 [(0, .ref 0), (1, .int (nI i))] [.int w] M _
      refine yR.if1 .ne _ _ _ _ rfl (fun q2 => ?_) (fun q2 => ?_)
      · refine yR.adv 2 (pc' := 2) (lv' := [(1, .int (nI i + 1)), (0, .ref 0)]) (st' := []) (M' := M) rfl ?_
        exact (ih (d - 1) (by omega) (i + 1) M (by omega) (zall_s hg hp (zne0 hw q2)) hR hE).drop (by refine ⟨?_, ?_⟩ <;> simp [zget, zwf, nI_succ])
      · have hv0 : v = 0 := hv.elim (fun z => absurd (z.1 e hmem) (zne1 hw q2)) (fun z => z.2)
        refine yR.adv 1 (pc' := 25) (lv' := [(0, .ref 0), (1, .int (nI i))]) (st' := [.int 0]) (M' := M) rfl ?_
        refine yR.ret _ rfl rfl rfl ?_
        exact ⟨by rw [hv0], hE⟩
theorem m_allWithin (M : zMm) (dom : Nat) (q W : Int) (L : zPl) (hR : zRm dom q W M L) (v : Int32) (hv : ((∀ e, e ∈ L → zisP dom q L 0 e) ∧ v = 1) ∨ (¬ (∀ e, e ∈ L → zisP dom q L 0 e) ∧ v = 0)) : yR 80 0 [(0, .ref 0)] [] M (fun r N => r = some (.int v) ∧ zKp [9, 10, 11] [] M N) := by
  refine yR.adv 2 (pc' := 2) (lv' := [(1, .int 0), (0, .ref 0)]) (st' := []) (M' := M) rfl ?_
  exact (m_allWithin_loop M dom q W L v hv L.length 0 M (Nat.zero_add _) (fun k e hk => absurd hk (by omega)) hR (zKp.refl _ _ _)).drop (by refine ⟨?_, ?_⟩ <;> simp [zget, zwf, nI_0])
theorem m_allAbove_loop (M0 : zMm) (dom : Nat) (q W : Int) (L : zPl) (v : Int32) (hv : ((∀ e, e ∈ L → zisP dom q L 1 e) ∧ v = 1) ∨ (¬ (∀ e, e ∈ L → zisP dom q L 1 e) ∧ v = 0)) : ∀ (d i : Nat) (M : zMm), i + d = L.length → (∀ k e, k < i → L[k]? = some e → zisP dom q L 1 e) → zRm dom q W M L → zKp [9, 10, 11] [] M0 M → yR 81 2 [(0, .ref 0), (1, .int (nI i))] [] M (fun r N => r = some (.int v) ∧ zKp [9, 10, 11] [] M0 N) := by
  intro d
  induction d using Nat.strongRecOn with
  | ind d ih =>
    intro i M h hp hR hE
    have hL24 := hR.1.2.1
    refine yR.adv 4 (pc' := 10) (lv' := [(0, .ref 0), (1, .int (nI i))]) (st' := [.int (M.1 1 3), .int (nI i)]) (M' := M) rfl ?_
    rw [hR.1.1]
    refine yR.if2 .ge _ _ _ _ rfl (fun q1 => ?_) (fun q1 => ?_)
    · have q1' : (L.length : Int) ≤ i := zcT q1 (nI_toInt (by omega)) (nI_toInt (by omega))
      have hv0 : v = 1 := hv.elim (fun z => z.2) (fun z => absurd (zall_e (by omega) hp) z.1)
      refine yR.adv 1 (pc' := 34) (lv' := [(0, .ref 0), (1, .int (nI i))]) (st' := [.int 1]) (M' := M) rfl ?_
      refine yR.ret _ rfl rfl rfl ?_
      exact ⟨by rw [hv0], hE⟩
    · have q1' : ¬ (L.length : Int) ≤ i := zcF q1 (nI_toInt (by omega)) (nI_toInt (by omega))
      have hg := List.getElem?_eq_getElem (show i < L.length by omega)
      generalize hee : L[i] = e at hg
      obtain ⟨g1, g2, g3⟩ := hR.1.2.2 i e hg
      have hmem := List.mem_of_getElem? hg
      refine yR.adv 4 (pc' := 21) (lv' := [(0, .ref 0), (1, .int (nI i))]) (st' := [.int (nI i), .ref 4]) (M' := M) rfl ?_
      refine yR.iald i _ _ _ rfl rfl (by decide) (rfl) (by omega) ?_
      rw [g3]
      refine yR.if1 .gt _ _ _ _ rfl (fun q2 => ?_) (fun q2 => ?_)
      · have q2' : 0 < e.2.toInt := zcT q2 rfl rfl
        refine yR.adv 2 (pc' := 2) (lv' := [(1, .int (nI i + 1)), (0, .ref 0)]) (st' := []) (M' := M) rfl ?_
        exact (ih (d - 1) (by omega) (i + 1) M (by omega) (zall_s hg hp q2') hR hE).drop (by refine ⟨?_, ?_⟩ <;> simp [zget, zwf, nI_succ])
      · have q2' : ¬ 0 < e.2.toInt := zcF q2 rfl rfl
        have hv0 : v = 0 := hv.elim (fun z => absurd (z.1 e hmem) q2') (fun z => z.2)
        refine yR.adv 1 (pc' := 26) (lv' := [(0, .ref 0), (1, .int (nI i))]) (st' := [.int 0]) (M' := M) rfl ?_
        refine yR.ret _ rfl rfl rfl ?_
        exact ⟨by rw [hv0], hE⟩
theorem m_allAbove (M : zMm) (dom : Nat) (q W : Int) (L : zPl) (hR : zRm dom q W M L) (v : Int32) (hv : ((∀ e, e ∈ L → zisP dom q L 1 e) ∧ v = 1) ∨ (¬ (∀ e, e ∈ L → zisP dom q L 1 e) ∧ v = 0)) : yR 81 0 [(0, .ref 0)] [] M (fun r N => r = some (.int v) ∧ zKp [9, 10, 11] [] M N) := by
  refine yR.adv 2 (pc' := 2) (lv' := [(1, .int 0), (0, .ref 0)]) (st' := []) (M' := M) rfl ?_
  exact (m_allAbove_loop M dom q W L v hv L.length 0 M (Nat.zero_add _) (fun k e hk => absurd hk (by omega)) hR (zKp.refl _ _ _)).drop (by refine ⟨?_, ?_⟩ <;> simp [zget, zwf, nI_0])
theorem m_allEven_loop (M0 : zMm) (dom : Nat) (q W : Int) (L : zPl) (v : Int32) (hv : ((∀ e, e ∈ L → zisP dom q L 2 e) ∧ v = 1) ∨ (¬ (∀ e, e ∈ L → zisP dom q L 2 e) ∧ v = 0)) : ∀ (d i : Nat) (M : zMm), i + d = L.length → (∀ k e, k < i → L[k]? = some e → zisP dom q L 2 e) → zRm dom q W M L → zKp [9, 10, 11] [] M0 M → yR 82 2 [(0, .ref 0), (1, .int (nI i))] [] M (fun r N => r = some (.int v) ∧ zKp [9, 10, 11] [] M0 N) := by
  intro d
  induction d using Nat.strongRecOn with
  | ind d ih =>
    intro i M h hp hR hE
    have hL24 := hR.1.2.1
    refine yR.adv 4 (pc' := 10) (lv' := [(0, .ref 0), (1, .int (nI i))]) (st' := [.int (M.1 1 3), .int (nI i)]) (M' := M) rfl ?_
    rw [hR.1.1]
    refine yR.if2 .ge _ _ _ _ rfl (fun q1 => ?_) (fun q1 => ?_)
    · have q1' : (L.length : Int) ≤ i := zcT q1 (nI_toInt (by omega)) (nI_toInt (by omega))
      have hv0 : v = 1 := hv.elim (fun z => z.2) (fun z => absurd (zall_e (by omega) hp) z.1)
      refine yR.adv 1 (pc' := 77) (lv' := [(0, .ref 0), (1, .int (nI i))]) (st' := [.int 1]) (M' := M) rfl ?_
      refine yR.ret _ rfl rfl rfl ?_
      exact ⟨by rw [hv0], hE⟩
    · have q1' : ¬ (L.length : Int) ≤ i := zcF q1 (nI_toInt (by omega)) (nI_toInt (by omega))
      have hg := List.getElem?_eq_getElem (show i < L.length by omega)
      generalize hee : L[i] = e at hg
      obtain ⟨g1, g2, g3⟩ := hR.1.2.2 i e hg
      have hmem := List.mem_of_getElem? hg
      obtain ⟨w, hw⟩ := zem (∀ p, p ∈ (ofold [] (zpsM (nI dom) (iI q) e.1.1 e.1.2)) → lw L p = some e.2)
      have hd := hR.2.2.1
      have hq := hR.2.2.2.1
      refine yR.adv 12 (pc' := 39) (lv' := [(0, .ref 0), (1, .int (nI i))]) (st' := [.int (nI i), .ref 2, .int (M.1 1 1), .int (M.1 1 0), .ref 9]) (M' := M) rfl ?_
      rw [hd]
      rw [hq]
      refine yR.iald i _ _ _ rfl rfl (by decide) (rfl) (by omega) ?_
      rw [g1]
      refine yR.adv 4 (pc' := 48) (lv' := [(0, .ref 0), (1, .int (nI i))]) (st' := [.int (nI i), .ref 3, .int e.1.1, .int (iI q), .int (nI dom), .ref 9]) (M' := M) rfl ?_
      refine yR.iald i _ _ _ rfl rfl (by decide) (rfl) (by omega) ?_
      rw [g2]
      refine yR.call _ rfl rfl rfl rfl rfl (m_gatherE M (nI dom) (iI q) e.1.1 e.1.2) (fun r1 M1 hq => ?_)
      obtain ⟨rfl, o1, e1⟩ := hq
      show yR 82 52 [(0, .ref 0), (1, .int (nI i))] [] M1 _
      have R1 : zRm dom q W M1 L := hR.keep (fun a i z1 z2 => (e1 a i (by simp <;> omega) (by simp <;> omega)).1)
      have E1 : zKp [9, 10, 11] [] M0 M1 := hE.trans (e1.sub (by decide))
      have g3' : M1.1 4 i = e.2 := (R1.1.2.2 i e hg).2.2
      have ow : yOk 83 0 [(0, .ref 0), (1, .int e.2)] [] M1 (some (.int w)) M1 := by
        refine yR.ok ?_
        refine yR.adv 2 (pc' := 2) (lv' := [(2, .int 0), (0, .ref 0), (1, .int e.2)]) (st' := []) (M' := M1) rfl ?_
        exact (m_orbW_loop M1 L R1.1 _ o1 e.2 w hw _ 0 (Nat.zero_add _) (fun k p hk => absurd hk (by omega))).drop (by refine ⟨?_, ?_⟩ <;> simp [zget, zwf, nI_0])
      refine yR.adv 5 (pc' := 61) (lv' := [(0, .ref 0), (1, .int (nI i))]) (st' := [.int (nI i), .ref 4, .ref 0]) (M' := M1) rfl ?_
      refine yR.iald i _ _ _ rfl rfl (by decide) (rfl) (by omega) ?_
      rw [g3']
      refine yR.callK (M1 := M1) _ rfl rfl rfl rfl rfl (ow) ?_
      show yR 82 65 [(0, .ref 0), (1, .int (nI i))] [.int w] M1 _
      refine yR.if1 .ne _ _ _ _ rfl (fun q2 => ?_) (fun q2 => ?_)
      · refine yR.adv 2 (pc' := 2) (lv' := [(1, .int (nI i + 1)), (0, .ref 0)]) (st' := []) (M' := M1) rfl ?_
        exact (ih (d - 1) (by omega) (i + 1) M1 (by omega) (zall_s hg hp (zne0 hw q2)) R1 E1).drop (by refine ⟨?_, ?_⟩ <;> simp [zget, zwf, nI_succ])
      · have hv0 : v = 0 := hv.elim (fun z => absurd (z.1 e hmem) (zne1 hw q2)) (fun z => z.2)
        refine yR.adv 1 (pc' := 69) (lv' := [(0, .ref 0), (1, .int (nI i))]) (st' := [.int 0]) (M' := M1) rfl ?_
        refine yR.ret _ rfl rfl rfl ?_
        exact ⟨by rw [hv0], E1⟩
theorem m_allEven (M : zMm) (dom : Nat) (q W : Int) (L : zPl) (hR : zRm dom q W M L) (v : Int32) (hv : ((∀ e, e ∈ L → zisP dom q L 2 e) ∧ v = 1) ∨ (¬ (∀ e, e ∈ L → zisP dom q L 2 e) ∧ v = 0)) : yR 82 0 [(0, .ref 0)] [] M (fun r N => r = some (.int v) ∧ zKp [9, 10, 11] [] M N) := by
  refine yR.adv 2 (pc' := 2) (lv' := [(1, .int 0), (0, .ref 0)]) (st' := []) (M' := M) rfl ?_
  exact (m_allEven_loop M dom q W L v hv L.length 0 M (Nat.zero_add _) (fun k e hk => absurd hk (by omega)) hR (zKp.refl _ _ _)).drop (by refine ⟨?_, ?_⟩ <;> simp [zget, zwf, nI_0])
theorem m_is (M : zMm) (dom : Nat) (q W : Int) (L : zPl) (hR : zRm dom q W M L) (x v : Int32) (hv : (x = 0 ∧ (((∀ e, e ∈ L → zisP dom q L 0 e) ∧ v = 1) ∨ (¬ (∀ e, e ∈ L → zisP dom q L 0 e) ∧ v = 0))) ∨ (x = 1 ∧ (((∀ e, e ∈ L → zisP dom q L 1 e) ∧ v = 1) ∨ (¬ (∀ e, e ∈ L → zisP dom q L 1 e) ∧ v = 0))) ∨ (x = 2 ∧ (((∀ e, e ∈ L → zisP dom q L 2 e) ∧ v = 1) ∨ (¬ (∀ e, e ∈ L → zisP dom q L 2 e) ∧ v = 0))) ∨ ((x.toInt < 0 ∨ 2 < x.toInt) ∧ v = -2)) : yR 49 0 [(0, .ref 0), (1, .int x)] [] M (fun r N => r = some (.int v) ∧ zKp [9, 10, 11] [] M N) := by
  rcases hv with ⟨hx, hv⟩ | ⟨hx, hv⟩ | ⟨hx, hv⟩ | ⟨hx, hv⟩
  · subst hx
    refine yR.adv 1 (pc' := 1) (lv' := [(0, .ref 0), (1, .int 0)]) (st' := [.int 0]) (M' := M) rfl ?_
    refine yR.tab _ _ _ _ _ _ _ _ rfl 27 28 (rfl) rfl ?_
    refine yR.adv 1 (pc' := 29) (lv' := [(0, .ref 0), (1, .int 0)]) (st' := [.ref 0]) (M' := M) rfl ?_
    refine yR.call _ rfl rfl rfl rfl rfl (m_allWithin M dom q W L hR v hv) (fun r1 M1 hq => ?_)
    obtain ⟨rfl, e1⟩ := hq
    show yR 49 32 [(0, .ref 0), (1, .int 0)] [.int v] M1 _
    refine yR.if1 .eq _ _ _ _ rfl (fun q1 => ?_) (fun q1 => ?_)
    · have hv0 : v = 0 := zeq_t q1
      refine yR.adv 1 (pc' := 40) (lv' := [(0, .ref 0), (1, .int 0)]) (st' := [.int 0]) (M' := M1) rfl ?_
      refine yR.ret _ rfl rfl rfl ?_
      exact ⟨by rw [hv0], e1⟩
    · have hv0 : v = 1 := hv.elim (fun z => z.2) (fun z => absurd z.2 (zeq_f q1))
      refine yR.adv 2 (pc' := 40) (lv' := [(0, .ref 0), (1, .int 0)]) (st' := [.int 1]) (M' := M1) rfl ?_
      refine yR.ret _ rfl rfl rfl ?_
      exact ⟨by rw [hv0], e1⟩
  · subst hx
    refine yR.adv 1 (pc' := 1) (lv' := [(0, .ref 0), (1, .int 1)]) (st' := [.int 1]) (M' := M) rfl ?_
    refine yR.tab _ _ _ _ _ _ _ _ rfl 40 41 (rfl) rfl ?_
    refine yR.adv 1 (pc' := 42) (lv' := [(0, .ref 0), (1, .int 1)]) (st' := [.ref 0]) (M' := M) rfl ?_
    refine yR.call _ rfl rfl rfl rfl rfl (m_allAbove M dom q W L hR v hv) (fun r1 M1 hq => ?_)
    obtain ⟨rfl, e1⟩ := hq
    show yR 49 45 [(0, .ref 0), (1, .int 1)] [.int v] M1 _
    refine yR.if1 .eq _ _ _ _ rfl (fun q1 => ?_) (fun q1 => ?_)
    · have hv0 : v = 0 := zeq_t q1
      refine yR.adv 1 (pc' := 53) (lv' := [(0, .ref 0), (1, .int 1)]) (st' := [.int 0]) (M' := M1) rfl ?_
      refine yR.ret _ rfl rfl rfl ?_
      exact ⟨by rw [hv0], e1⟩
    · have hv0 : v = 1 := hv.elim (fun z => z.2) (fun z => absurd z.2 (zeq_f q1))
      refine yR.adv 2 (pc' := 53) (lv' := [(0, .ref 0), (1, .int 1)]) (st' := [.int 1]) (M' := M1) rfl ?_
      refine yR.ret _ rfl rfl rfl ?_
      exact ⟨by rw [hv0], e1⟩
  · subst hx
    refine yR.adv 1 (pc' := 1) (lv' := [(0, .ref 0), (1, .int 2)]) (st' := [.int 2]) (M' := M) rfl ?_
    refine yR.tab _ _ _ _ _ _ _ _ rfl 53 54 (rfl) rfl ?_
    refine yR.adv 1 (pc' := 55) (lv' := [(0, .ref 0), (1, .int 2)]) (st' := [.ref 0]) (M' := M) rfl ?_
    refine yR.call _ rfl rfl rfl rfl rfl (m_allEven M dom q W L hR v hv) (fun r1 M1 hq => ?_)
    obtain ⟨rfl, e1⟩ := hq
    show yR 49 58 [(0, .ref 0), (1, .int 2)] [.int v] M1 _
    refine yR.if1 .eq _ _ _ _ rfl (fun q1 => ?_) (fun q1 => ?_)
    · have hv0 : v = 0 := zeq_t q1
      refine yR.adv 1 (pc' := 66) (lv' := [(0, .ref 0), (1, .int 2)]) (st' := [.int 0]) (M' := M1) rfl ?_
      refine yR.ret _ rfl rfl rfl ?_
      exact ⟨by rw [hv0], e1⟩
    · have hv0 : v = 1 := hv.elim (fun z => z.2) (fun z => absurd z.2 (zeq_f q1))
      refine yR.adv 2 (pc' := 66) (lv' := [(0, .ref 0), (1, .int 2)]) (st' := [.int 1]) (M' := M1) rfl ?_
      refine yR.ret _ rfl rfl rfl ?_
      exact ⟨by rw [hv0], e1⟩
  · skip
    refine yR.adv 1 (pc' := 1) (lv' := [(0, .ref 0), (1, .int x)]) (st' := [.int x]) (M' := M) rfl ?_
    refine yR.tab _ _ _ _ _ _ _ _ rfl 66 67 (by unfold ztab; rw [if_pos hx]) rfl ?_
    refine yR.adv 1 (pc' := 69) (lv' := [(0, .ref 0), (1, .int x)]) (st' := [.int (-2)]) (M' := M) rfl ?_
    refine yR.ret _ rfl rfl rfl ?_
    exact ⟨by rw [hv], zKp.refl _ _ _⟩
theorem r_even_loop (M0 : zMm) (dom : Nat) (q W : Int) (L : zPl) (p0 : Nat) (e : zPt × Int32) (he : L[p0]? = some e) (M : zMm) (hR : zRr dom q W M L) (ps : List zPt) (hO : zOrb 93 13 97 98 M ps) (v : Int32) (hv : ((∀ p, p ∈ ps → lw L p = some e.2) ∧ v = 1) ∨ (¬ (∀ p, p ∈ ps → lw L p = some e.2) ∧ v = 0)) : ∀ (d i : Nat), i + d = ps.length → (∀ k p, k < i → ps[k]? = some p → lw L p = some e.2) → yR 136 22 [(0, .ref 93), (1, .int (nI p0)), (2, .int (nI i))] [] M (fun r N => r = some (.int v) ∧ N = M) := by
  have hlen := hO.2.1
  have hU := hR.1
  have hL24 := hU.2.1
  have hp0 := (List.getElem?_eq_some_iff.mp he).1
  have g0 := (hU.2.2 p0 e he).2.2
  intro d
  induction d using Nat.strongRecOn with
  | ind d ih =>
    intro i h hp
    refine yR.adv 3 (pc' := 27) (lv' := [(0, .ref 93), (1, .int (nI p0)), (2, .int (nI i))]) (st' := [.int (M.1 93 13), .int (nI i)]) (M' := M) rfl ?_
    rw [hO.1]
    refine yR.if2 .ge _ _ _ _ rfl (fun q1 => ?_) (fun q1 => ?_)
    · have q1' : (ps.length : Int) ≤ i := zcT q1 (nI_toInt (by omega)) (nI_toInt (by omega))
      have hv0 : v = 1 := hv.elim (fun z => z.2) (fun z => absurd (fun p hm => by
        obtain ⟨k, hk⟩ := List.mem_iff_getElem?.mp hm
        exact hp k p (by have := (List.getElem?_eq_some_iff.mp hk).1; omega) hk) z.1)
      refine yR.adv 1 (pc' := 77) (lv' := [(0, .ref 93), (1, .int (nI p0)), (2, .int (nI i))]) (st' := [.int 1]) (M' := M) rfl ?_
      refine yR.ret _ rfl rfl rfl ?_
      exact ⟨by rw [hv0], rfl⟩
    · have q1' : ¬ (ps.length : Int) ≤ i := zcF q1 (nI_toInt (by omega)) (nI_toInt (by omega))
      obtain ⟨p, hp1, hp2, hp3⟩ := hO.at (show i < ps.length by omega)
      have hmem := List.mem_of_getElem? hp1
      have hn := zfv_none (o := lix L p 0) (c := -9) (fun k hk2 => nI_nm9 k (by have := lix_lt hk2; omega))
      have no : ¬ lw L p = some e.2 → yR 136 68 [(0, .ref 93)] [] M (fun r N => r = some (.int v) ∧ N = M) := by
        intro hz
        have hv0 : v = 0 := hv.elim (fun z => absurd (z.1 p hmem) hz) (fun z => z.2)
        refine yR.adv 1 (pc' := 69) (lv' := [(0, .ref 93)]) (st' := [.int 0]) (M' := M) rfl ?_
        refine yR.ret _ rfl rfl rfl ?_
        exact ⟨by rw [hv0], rfl⟩
      refine yR.adv 4 (pc' := 36) (lv' := [(0, .ref 93), (1, .int (nI p0)), (2, .int (nI i))]) (st' := [.int (nI i), .ref 97, .ref 93]) (M' := M) rfl ?_
      refine yR.iald i _ _ _ rfl rfl (by decide) (rfl) (by omega) ?_
      refine yR.adv 3 (pc' := 42) (lv' := [(0, .ref 93), (1, .int (nI p0)), (2, .int (nI i))]) (st' := [.int (nI i), .ref 98, .int (M.1 97 i), .ref 93]) (M' := M) rfl ?_
      refine yR.iald i _ _ _ rfl rfl (by decide) (rfl) (by omega) ?_
      rw [hp2, hp3]
      refine yR.callK (M1 := M) _ rfl rfl rfl rfl rfl (r_placeAt M L.length hU.1 hU.2.1 p.1 p.2) ?_
      show yR 136 46 [(0, .ref 93), (1, .int (nI p0)), (2, .int (nI i))] [.int (zfv (-9) (zfnd (M.1 94) (M.1 95) p.1 p.2 L.length 0))] M _
      rw [hU.fnd]
      show yR 136 46 [(0, .ref 93), (1, .int (nI p0)), (2, .int (nI i))] [.int (zfv (-9) (lix L p 0))] M _
      refine yR.adv 3 (pc' := 50) (lv' := [(3, .int (zfv (-9) (lix L p 0))), (0, .ref 93), (1, .int (nI p0)), (2, .int (nI i))]) (st' := [.int (-9), .int (zfv (-9) (lix L p 0))]) (M' := M) rfl ?_
      refine yR.if2 .eq _ _ _ _ rfl (fun q2 => ?_) (fun q2 => ?_)
      · have q2' := hn.mp (zeq_t q2)
        exact (no (by rw [lix_none_lw.mp q2']; simp)).drop (by refine ⟨?_, ?_⟩ <;> simp [zget, zwf])
      · have q2' := zeq_f q2
        obtain ⟨k, w', z1, z2, z3⟩ : ∃ k w', lix L p 0 = some k ∧ L[k]? = some (p, w') ∧ lw L p = some w' := by
          rcases lix_lw (p := p) L 0 with z | ⟨k, w', z1, z2, z3⟩
          · exact absurd (hn.mpr z.1) q2'
          · exact ⟨k, w', by rw [z1, Nat.zero_add], z2, z3⟩
        have hkl := lix_lt z1
        have hwk := (hU.2.2 k _ z2).2.2
        have hzfv : zfv (-9) (lix L p 0) = nI k := by rw [z1]; rfl
        rw [hzfv]
        refine yR.adv 3 (pc' := 58) (lv' := [(3, .int (nI k)), (0, .ref 93), (1, .int (nI p0)), (2, .int (nI i))]) (st' := [.int (nI k), .ref 96]) (M' := M) rfl ?_
        refine yR.iald k _ _ _ rfl rfl (by decide) (rfl) (by omega) ?_
        rw [hwk]
        show yR 136 59 [(3, .int (nI k)), (0, .ref 93), (1, .int (nI p0)), (2, .int (nI i))] [.int (w')] M _
        refine yR.adv 3 (pc' := 64) (lv' := [(3, .int (nI k)), (0, .ref 93), (1, .int (nI p0)), (2, .int (nI i))]) (st' := [.int (nI p0), .ref 96, .int (w')]) (M' := M) rfl ?_
        refine yR.iald p0 _ _ _ rfl rfl (by decide) (rfl) (by omega) ?_
        rw [g0]
        refine yR.if2 .eq _ _ _ _ rfl (fun q3 => ?_) (fun q3 => ?_)
        · have q3' : w' = e.2 := zeq_t q3
          refine yR.adv 2 (pc' := 22) (lv' := [(2, .int (nI i + 1)), (3, .int (nI k)), (0, .ref 93), (1, .int (nI p0))]) (st' := []) (M' := M) rfl ?_
          exact (ih (d - 1) (by omega) (i + 1) (by omega) (fun k' p' hk' hp' => if c : k' = i then by subst c; rw [hp1] at hp'; rw [← Option.some.inj hp', z3, q3'] else hp k' p' (by omega) hp')).drop (by refine ⟨?_, ?_⟩ <;> simp [zget, zwf, nI_succ])
        · have q3' : ¬ w' = e.2 := zeq_f q3
          exact (no (by rw [z3]; simp [q3'])).drop (by refine ⟨?_, ?_⟩ <;> simp [zget, zwf])
theorem r_isEven (M : zMm) (dom : Nat) (q W : Int) (L : zPl) (h : zRr dom q W M L) (p : Nat) (e : zPt × Int32) (hp : L[p]? = some e) (v : Int32) (hv : ((∀ p, p ∈ (ofold [] (zpsM (nI dom) (iI q) e.1.1 e.1.2)) → lw L p = some e.2) ∧ v = 1) ∨ (¬ (∀ p, p ∈ (ofold [] (zpsM (nI dom) (iI q) e.1.1 e.1.2)) → lw L p = some e.2) ∧ v = 0)) : yR 136 0 [(0, .ref 93), (1, .int (nI p))] [] M (fun r N => r = some (.int v) ∧ zKp [97, 98] [(93, 13)] M N) := by
  obtain ⟨hU, hk, hd, hq, hW, hdom, bq, bW⟩ := id h
  have hL24 := hU.2.1
  have hpl := (List.getElem?_eq_some_iff.mp hp).1
  obtain ⟨g1, g2, g3⟩ := hU.2.2 p e hp
  obtain ⟨k1, k2, k3⟩ := hk e (List.mem_of_getElem? hp)
  have tq : (iI q).toInt = q := iI_toInt (by omega)
  refine yR.adv 4 (pc' := 6) (lv' := [(0, .ref 93), (1, .int (nI p))]) (st' := [.int (nI p), .ref 94, .ref 93]) (M' := M) rfl ?_
  refine yR.iald p _ _ _ rfl rfl (by decide) (rfl) (by omega) ?_
  rw [g1]
  refine yR.adv 3 (pc' := 12) (lv' := [(0, .ref 93), (1, .int (nI p))]) (st' := [.int (nI p), .ref 95, .int e.1.1, .ref 93]) (M' := M) rfl ?_
  refine yR.iald p _ _ _ rfl rfl (by decide) (rfl) (by omega) ?_
  rw [g2]
  refine yR.adv 2 (pc' := 17) (lv' := [(0, .ref 93), (1, .int (nI p))]) (st' := [.int (M.1 93 5), .int e.1.2, .int e.1.1, .ref 93]) (M' := M) rfl ?_
  rw [hq]
  refine yR.call _ rfl rfl rfl rfl rfl (r_orbitE M (nI dom) (iI q) e.1.1 e.1.2 hd) (fun r1 M1 hq => ?_)
  obtain ⟨rfl, o1, e1⟩ := hq
  show yR 136 20 [(0, .ref 93), (1, .int (nI p))] [] M1 _
  have R1 : zRr dom q W M1 L := h.keep (fun i z1 z2 => (e1 93 i (by decide) (by simp <;> omega)).1) (fun a i z1 z2 => (e1 a i (by simp <;> omega) (by simp <;> omega)).1)
  refine yR.adv 2 (pc' := 22) (lv' := [(2, .int 0), (0, .ref 93), (1, .int (nI p))]) (st' := []) (M' := M1) rfl ?_
  have K := r_even_loop M dom q W L p e hp M1 R1 _ o1 v hv _ 0 (Nat.zero_add _) (fun k p hk => absurd hk (by omega))
  refine (yR.drop (by refine ⟨?_, ?_⟩ <;> simp [zget, zwf, nI_0]) K).mono (fun r N hN => ⟨hN.1, by rw [hN.2]; exact e1⟩)
theorem r_is_loop (M0 : zMm) (dom : Nat) (q W : Int) (L : zPl) (w : Nat) (hw : w < 3) (v : Int32) (hv : ((∀ e, e ∈ L → zisP dom q L w e) ∧ v = 1) ∨ (¬ (∀ e, e ∈ L → zisP dom q L w e) ∧ v = 0)) : ∀ (d i : Nat) (M : zMm) (al : Int32), i + d = L.length → ((al = 1 ∧ ∀ k e, k < i → L[k]? = some e → zisP dom q L w e) ∨ (al = 0 ∧ ¬ ∀ e, e ∈ L → zisP dom q L w e)) → zRr dom q W M L → zKp [97, 98] [(93, 13)] M0 M → yR 137 19 [(0, .ref 93), (1, .int (nI w)), (2, .int al), (3, .int (nI i))] [] M (fun r N => r = some (.int v) ∧ zKp [97, 98] [(93, 13)] M0 N) := by
  intro d
  induction d using Nat.strongRecOn with
  | ind d ih =>
    intro i M al h ha hR hE
    have hU := hR.1
    have hL24 := hU.2.1
    refine yR.adv 3 (pc' := 24) (lv' := [(0, .ref 93), (1, .int (nI w)), (2, .int al), (3, .int (nI i))]) (st' := [.int (M.1 93 7), .int (nI i)]) (M' := M) rfl ?_
    rw [hU.1]
    refine yR.if2 .ge _ _ _ _ rfl (fun q1 => ?_) (fun q1 => ?_)
    · have q1' : (L.length : Int) ≤ i := zcT q1 (nI_toInt (by omega)) (nI_toInt (by omega))
      refine yR.adv 1 (pc' := 76) (lv' := [(0, .ref 93), (1, .int (nI w)), (2, .int al), (3, .int (nI i))]) (st' := [.int al]) (M' := M) rfl ?_
      refine yR.if1 .eq _ _ _ _ rfl (fun q2 => ?_) (fun q2 => ?_)
      · have q2' := zeq_t q2
        have hv0 : v = 0 := hv.elim (fun z => ha.elim (fun y => by rw [y.1] at q2'; exact absurd q2' (by decide)) (fun y => absurd z.1 y.2)) (fun z => z.2)
        refine yR.adv 1 (pc' := 84) (lv' := [(0, .ref 93), (1, .int (nI w)), (2, .int al), (3, .int (nI i))]) (st' := [.int 0]) (M' := M) rfl ?_
        refine yR.ret _ rfl rfl rfl ?_
        exact ⟨by rw [hv0], hE⟩
      · have q2' := zeq_f q2
        have hv0 : v = 1 := hv.elim (fun z => z.2) (fun z => ha.elim (fun y => absurd (zall_e (by omega) y.2) z.1) (fun y => absurd y.1 q2'))
        refine yR.adv 2 (pc' := 84) (lv' := [(0, .ref 93), (1, .int (nI w)), (2, .int al), (3, .int (nI i))]) (st' := [.int 1]) (M' := M) rfl ?_
        refine yR.ret _ rfl rfl rfl ?_
        exact ⟨by rw [hv0], hE⟩
    · have q1' : ¬ (L.length : Int) ≤ i := zcF q1 (nI_toInt (by omega)) (nI_toInt (by omega))
      have hg := List.getElem?_eq_getElem (show i < L.length by omega)
      generalize hee : L[i] = e at hg
      obtain ⟨g1, g2, g3⟩ := hU.2.2 i e hg
      have hmem := List.mem_of_getElem? hg
      have next : ∀ (M' : zMm) (b : Int32), ((zisP dom q L w e ∧ b = 1) ∨ (¬ zisP dom q L w e ∧ b = 0)) → zRr dom q W M' L → zKp [97, 98] [(93, 13)] M0 M' → yR 137 67 [(0, .ref 93), (1, .int (nI w)), (2, .int al), (3, .int (nI i))] [.int b, .int al] M' (fun r N => r = some (.int v) ∧ zKp [97, 98] [(93, 13)] M0 N) := by
        intro M' b hb hR' hE'
        refine yR.adv 4 (pc' := 19) (lv' := [(3, .int (nI i + 1)), (2, .int (al &&& b)), (0, .ref 93), (1, .int (nI w))]) (st' := []) (M' := M') rfl ?_
        have hal : ((al &&& b = 1 ∧ ∀ k e, k < i + 1 → L[k]? = some e → zisP dom q L w e) ∨ (al &&& b = 0 ∧ ¬ ∀ e, e ∈ L → zisP dom q L w e)) := by
          rcases ha with ⟨a1, a2⟩ | ⟨a1, a2⟩ <;> rcases hb with ⟨b1, b2⟩ | ⟨b1, b2⟩
          · exact Or.inl ⟨by rw [a1, b2]; decide, zall_s hg a2 b1⟩
          · exact Or.inr ⟨by rw [a1, b2]; decide, fun z => b1 (z e hmem)⟩
          · exact Or.inr ⟨by rw [a1, b2]; decide, a2⟩
          · exact Or.inr ⟨by rw [a1, b2]; decide, a2⟩
        exact (ih (d - 1) (by omega) (i + 1) M' (al &&& b) (by omega) hal hR' hE').drop (by refine ⟨?_, ?_⟩ <;> simp [zget, zwf, nI_succ])
      obtain ⟨b, hb⟩ := zem (zisP dom q L w e)
      refine yR.adv 2 (pc' := 29) (lv' := [(0, .ref 93), (1, .int (nI w)), (2, .int al), (3, .int (nI i))]) (st' := [.int (nI w), .int al]) (M' := M) rfl ?_
      refine yR.if1 .ne _ _ _ _ rfl (fun q2 => ?_) (fun q2 => ?_)
      · have q2' : ¬ (w : Int) = 0 := zcT q2 (nI_toInt (by omega)) rfl
        refine yR.adv 2 (pc' := 42) (lv' := [(0, .ref 93), (1, .int (nI w)), (2, .int al), (3, .int (nI i))]) (st' := [.int 1, .int (nI w), .int al]) (M' := M) rfl ?_
        refine yR.if2 .ne _ _ _ _ rfl (fun q3 => ?_) (fun q3 => ?_)
        · have q3' : ¬ (w : Int) = 1 := zcT q3 (nI_toInt (by omega)) rfl
          have hw2 : w = 2 := by omega
          subst hw2
          refine yR.adv 2 (pc' := 64) (lv' := [(0, .ref 93), (1, .int (nI 2)), (2, .int al), (3, .int (nI i))]) (st' := [.int (nI i), .ref 93, .int al]) (M' := M) rfl ?_
          refine yR.call _ rfl rfl rfl rfl rfl (r_isEven M dom q W L hR i e hg b hb) (fun r1 M1 hq => ?_)
          obtain ⟨rfl, e1⟩ := hq
          show yR 137 67 [(0, .ref 93), (1, .int (nI 2)), (2, .int al), (3, .int (nI i))] [.int b, .int al] M1 _
          exact next M1 b hb (hR.keep (fun i z1 z2 => (e1 93 i (by decide) (by simp <;> omega)).1) (fun a i z1 z2 => (e1 a i (by simp <;> omega) (by simp <;> omega)).1)) (hE.trans e1)
        · have q3' : ¬ ¬ (w : Int) = 1 := zcF q3 (nI_toInt (by omega)) rfl
          have hw1 : w = 1 := by omega
          subst hw1
          refine yR.adv 3 (pc' := 50) (lv' := [(0, .ref 93), (1, .int (nI 1)), (2, .int al), (3, .int (nI i))]) (st' := [.int (nI i), .ref 96, .int al]) (M' := M) rfl ?_
          refine yR.iald i _ _ _ rfl rfl (by decide) (rfl) (by omega) ?_
          rw [g3]
          refine yR.if1 .le _ _ _ _ rfl (fun q4 => ?_) (fun q4 => ?_)
          · have q4' : e.2.toInt ≤ 0 := zcT q4 rfl rfl
            refine yR.adv 2 (pc' := 67) (lv' := [(0, .ref 93), (1, .int (nI 1)), (2, .int al), (3, .int (nI i))]) (st' := [.int 0, .int al]) (M' := M) rfl ?_
            exact next M 0 (Or.inr ⟨fun z => by have z' : 0 < e.2.toInt := z; omega, rfl⟩) hR hE
          · have q4' : ¬ e.2.toInt ≤ 0 := zcF q4 rfl rfl
            refine yR.adv 2 (pc' := 67) (lv' := [(0, .ref 93), (1, .int (nI 1)), (2, .int al), (3, .int (nI i))]) (st' := [.int 1, .int al]) (M' := M) rfl ?_
            exact next M 1 (Or.inl ⟨show 0 < e.2.toInt by omega, rfl⟩) hR hE
      · have q2' : ¬ ¬ (w : Int) = 0 := zcF q2 (nI_toInt (by omega)) rfl
        have hw0 : w = 0 := by omega
        subst hw0
        refine yR.adv 2 (pc' := 34) (lv' := [(0, .ref 93), (1, .int (nI 0)), (2, .int al), (3, .int (nI i))]) (st' := [.int (nI i), .ref 93, .int al]) (M' := M) rfl ?_
        refine yR.callK (M1 := M) _ rfl rfl rfl rfl rfl (r_isInside M dom q W L hR i e hg b hb) ?_
        show yR 137 37 [(0, .ref 93), (1, .int (nI 0)), (2, .int al), (3, .int (nI i))] [.int b, .int al] M _
        refine yR.adv 1 (pc' := 67) (lv' := [(0, .ref 93), (1, .int (nI 0)), (2, .int al), (3, .int (nI i))]) (st' := [.int b, .int al]) (M' := M) rfl ?_
        exact next M b hb hR hE
theorem r_is_no (M : zMm) (x : Int32) (h : x.toInt < 0 ∨ 2 < x.toInt) : yOk 137 0 [(0, .ref 93), (1, .int x)] [] M (some (.int (-2))) M := by
  refine yR.ok ?_
  refine yR.adv 4 (pc' := 6) (lv' := [(0, .ref 93), (1, .int x)]) (st' := [.long 2, .long 0, .long x.toInt64]) (M' := M) rfl ?_
  refine yR.callK (M1 := M) _ rfl rfl rfl rfl rfl (r_withinV M x.toInt64 0 2 0 2 rfl rfl 0 (Or.inr ⟨by rw [Int32.toInt_toInt64]; omega, rfl⟩)) ?_
  show yR 137 9 [(0, .ref 93), (1, .int x)] [.int 0] M _
  refine yR.if1 .ne _ _ _ _ rfl (fun q1 => ?_) (fun q1 => ?_)
  · exact absurd q1 (by decide)
  · refine yR.adv 1 (pc' := 14) (lv' := [(0, .ref 93), (1, .int x)]) (st' := [.int (-2)]) (M' := M) rfl ?_
    refine yR.ret _ rfl rfl rfl ?_
    exact ⟨rfl, rfl⟩
theorem r_is (M : zMm) (dom : Nat) (q W : Int) (L : zPl) (hR : zRr dom q W M L) (w : Nat) (hw : w < 3) (v : Int32) (hv : ((∀ e, e ∈ L → zisP dom q L w e) ∧ v = 1) ∨ (¬ (∀ e, e ∈ L → zisP dom q L w e) ∧ v = 0)) : yR 137 0 [(0, .ref 93), (1, .int (nI w))] [] M (fun r N => r = some (.int v) ∧ zKp [97, 98] [(93, 13)] M N) := by
  refine yR.adv 4 (pc' := 6) (lv' := [(0, .ref 93), (1, .int (nI w))]) (st' := [.long 2, .long 0, .long ((nI w).toInt64)]) (M' := M) rfl ?_
  refine yR.callK (M1 := M) _ rfl rfl rfl rfl rfl (r_withinV M (nI w).toInt64 0 2 0 2 rfl rfl 1 (Or.inl ⟨by rw [Int32.toInt_toInt64, nI_toInt (by omega)]; omega, rfl⟩)) ?_
  show yR 137 9 [(0, .ref 93), (1, .int (nI w))] [.int 1] M _
  refine yR.if1 .ne _ _ _ _ rfl (fun q1 => ?_) (fun q1 => ?_)
  · refine yR.adv 4 (pc' := 19) (lv' := [(3, .int 0), (2, .int 1), (0, .ref 93), (1, .int (nI w))]) (st' := []) (M' := M) rfl ?_
    exact (r_is_loop M dom q W L w hw v hv L.length 0 M 1 (Nat.zero_add _) (Or.inl ⟨rfl, fun k e hk => absurd hk (by omega)⟩) hR (zKp.refl _ _ _)).drop (by refine ⟨?_, ?_⟩ <;> simp [zget, zwf, nI_0])
  · exact absurd q1 (by decide)
