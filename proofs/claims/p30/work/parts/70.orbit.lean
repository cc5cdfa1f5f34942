/-! ===== orbit, of both ===== -/
theorem lfr_cons (L : zPl) (p : zPt) (r : List zPt) : lfr L (p :: r) = (if lw L p = none then 1 else 0) + lfr L r := rfl
theorem zdrop_c {ps : List zPt} {i : Nat} {p : zPt} (h : ps[i]? = some p) : ps.drop i = p :: ps.drop (i + 1) := by
  have h0 := (List.getElem?_eq_some_iff.mp h).1
  rw [List.drop_eq_getElem_cons h0]
  congr 1
  rw [List.getElem?_eq_getElem h0] at h
  exact Option.some.inj h
theorem zfv_none {o : Option Nat} {c : Int32} (h : ∀ k, o = some k → ¬ nI k = c) : zfv c o = c ↔ o = none := by
  cases o with
  | none => exact ⟨fun _ => rfl, fun _ => rfl⟩
  | some k => exact ⟨fun e => absurd e (h k rfl), fun e => by cases e⟩
theorem lix_lt {L : zPl} {p : zPt} {k : Nat} (h : lix L p 0 = some k) : k < L.length := by
  obtain ⟨_, w, h2⟩ := lix_some L 0 k h
  rw [Nat.sub_zero] at h2
  exact (List.getElem?_eq_some_iff.mp h2).1
theorem m_refOrb_loop (M : zMm) (w : Int32) (ps : List zPt) (L : zPl) (hO : zOrb 9 2 10 11 M ps) (hR : zRu 1 3 2 3 4 M L) (hk : zLok L) (v : Int32)
    (hv : ((∃ p, p ∈ ps ∧ zbadL L p.1 p.2 w) ∧ v = -2) ∨ (¬ (∃ p, p ∈ ps ∧ zbadL L p.1 p.2 w) ∧ ((24 < L.length + lfr L ps ∧ v = -4) ∨ (¬ 24 < L.length + lfr L ps ∧ v = 0)))) :
    ∀ (d i c : Nat), i + d = ps.length → c + lfr L (ps.drop i) = lfr L ps → ((∃ p, p ∈ ps ∧ zbadL L p.1 p.2 w) → ∃ p, p ∈ ps.drop i ∧ zbadL L p.1 p.2 w) → yR 74 4 [(0, .ref 0), (1, .int w), (2, .int (nI c)), (3, .int (nI i))] [] M (fun r N => r = some (.int v) ∧ N = M) := by
  have hlen := hO.2.1
  have hL24 := hR.2.1
  have hfl := lfr_le L ps
  intro d
  induction d using Nat.strongRecOn with
  | ind d ih =>
    intro i c h hc hb
    refine yR.adv 4 (pc' := 12) (lv' := [(0, .ref 0), (1, .int w), (2, .int (nI c)), (3, .int (nI i))]) (st' := [.int (M.1 9 2), .int (nI i)]) (M' := M) rfl ?_
    rw [hO.1]
    refine yR.if2 .ge _ _ _ _ rfl (fun q1 => ?_) (fun q1 => ?_)
    · have q1' : (ps.length : Int) ≤ i := zcT q1 (nI_toInt (by omega)) (nI_toInt (by omega))
      rw [List.drop_eq_nil_of_le (show ps.length ≤ i by omega)] at hc hb
      have hcc : c = lfr L ps := hc
      have hnb : ¬ ∃ p, p ∈ ps ∧ zbadL L p.1 p.2 w := fun z => by
        obtain ⟨p, hp, _⟩ := hb z
        cases hp
      have hv2 := hv.resolve_left (fun z => hnb z.1)
      refine yR.adv 6 (pc' := 100) (lv' := [(0, .ref 0), (1, .int w), (2, .int (nI c)), (3, .int (nI i))]) (st' := [.int (24 - (M.1 1 3)), .int (nI c)]) (M' := M) rfl ?_
      rw [hR.1]
      have hs : (24 : Int32) - nI L.length = iI (24 - L.length) := by rw [nI_iI, ← iI_sub]; rfl
      rw [hs]
      refine yR.if2 .le _ _ _ _ rfl (fun q2 => ?_) (fun q2 => ?_)
      · have q2' : (c : Int) ≤ 24 - L.length := zcT q2 (nI_toInt (by omega)) (iI_toInt (by omega))
        have hv0 : v = 0 := hv2.2.elim (fun z => by have := z.1; omega) (fun z => z.2)
        refine yR.adv 1 (pc' := 109) (lv' := [(0, .ref 0), (1, .int w), (2, .int (nI c)), (3, .int (nI i))]) (st' := [.int 0]) (M' := M) rfl ?_
        refine yR.ret _ rfl rfl rfl ?_
        exact ⟨by rw [hv0], rfl⟩
      · have q2' : ¬ (c : Int) ≤ 24 - L.length := zcF q2 (nI_toInt (by omega)) (iI_toInt (by omega))
        have hv0 : v = -4 := hv2.2.elim (fun z => z.2) (fun z => by have := z.1; omega)
        refine yR.adv 2 (pc' := 109) (lv' := [(0, .ref 0), (1, .int w), (2, .int (nI c)), (3, .int (nI i))]) (st' := [.int (-4)]) (M' := M) rfl ?_
        refine yR.ret _ rfl rfl rfl ?_
        exact ⟨by rw [hv0], rfl⟩
    · have q1' : ¬ (ps.length : Int) ≤ i := zcF q1 (nI_toInt (by omega)) (nI_toInt (by omega))
      obtain ⟨p, hp1, hp2, hp3⟩ := hO.at (show i < ps.length by omega)
      have hmem := List.mem_of_getElem? hp1
      rw [zdrop_c hp1] at hc hb
      have hbiff := hR.bad p.1 p.2 w
      have hv' : ∃ r : Int32, (zbad (M.1 2) (M.1 3) (M.1 4) L.length p.1 p.2 w ∧ r = -2) ∨ (¬ zbad (M.1 2) (M.1 3) (M.1 4) L.length p.1 p.2 w ∧ r = 0) := (Classical.em _).elim (fun z => ⟨-2, Or.inl ⟨z, rfl⟩⟩) (fun z => ⟨0, Or.inr ⟨z, rfl⟩⟩)
      obtain ⟨r, hr⟩ := hv'
      refine yR.adv 6 (pc' := 27) (lv' := [(0, .ref 0), (1, .int w), (2, .int (nI c)), (3, .int (nI i))]) (st' := [.int (nI i), .ref 10, .ref 1]) (M' := M) rfl ?_
      refine yR.iald i _ _ _ rfl rfl (by decide) (rfl) (by omega) ?_
      refine yR.adv 4 (pc' := 36) (lv' := [(0, .ref 0), (1, .int w), (2, .int (nI c)), (3, .int (nI i))]) (st' := [.int (nI i), .ref 11, .int (M.1 10 i), .ref 1]) (M' := M) rfl ?_
      refine yR.iald i _ _ _ rfl rfl (by decide) (rfl) (by omega) ?_
      rw [hp2, hp3]
      refine yR.adv 1 (pc' := 38) (lv' := [(0, .ref 0), (1, .int w), (2, .int (nI c)), (3, .int (nI i))]) (st' := [.int w, .int p.2, .int p.1, .ref 1]) (M' := M) rfl ?_
      refine yR.callK (M1 := M) _ rfl rfl rfl rfl rfl (m_refusal_1 M L.length hR.1 hR.2.1 (hR.W hk) p.1 p.2 w r hr) ?_
      show yR 74 41 [(0, .ref 0), (1, .int w), (2, .int (nI c)), (3, .int (nI i))] [.int r] M _
      refine yR.adv 2 (pc' := 45) (lv' := [(4, .int r), (0, .ref 0), (1, .int w), (2, .int (nI c)), (3, .int (nI i))]) (st' := [.int r]) (M' := M) rfl ?_
      refine yR.if1 .eq _ _ _ _ rfl (fun q2 => ?_) (fun q2 => ?_)
      · have q2' := zeq_t q2
        have hnb : ¬ zbadL L p.1 p.2 w := hr.elim (fun z => by rw [z.2] at q2'; exact absurd q2' (by decide)) (fun z => fun y => z.1 (hbiff.mpr y))
        have fr1 : M.1 10 i = p.1 := hp2
        refine yR.adv 6 (pc' := 63) (lv' := [(4, .int r), (0, .ref 0), (1, .int w), (2, .int (nI c)), (3, .int (nI i))]) (st' := [.int (nI i), .ref 10, .ref 1]) (M' := M) rfl ?_
        refine yR.iald i _ _ _ rfl rfl (by decide) (rfl) (by omega) ?_
        refine yR.adv 4 (pc' := 72) (lv' := [(4, .int r), (0, .ref 0), (1, .int w), (2, .int (nI c)), (3, .int (nI i))]) (st' := [.int (nI i), .ref 11, .int (M.1 10 i), .ref 1]) (M' := M) rfl ?_
        refine yR.iald i _ _ _ rfl rfl (by decide) (rfl) (by omega) ?_
        rw [hp2, hp3]
        refine yR.callK (M1 := M) _ rfl rfl rfl rfl rfl (m_numberOf_1 M L.length hR.1 hR.2.1 p.1 p.2) ?_
        show yR 74 76 [(4, .int r), (0, .ref 0), (1, .int w), (2, .int (nI c)), (3, .int (nI i))] [.int (zfv (-1) (zfnd (M.1 2) (M.1 3) p.1 p.2 L.length 0))] M _
        rw [hR.fnd]
        show yR 74 76 [(4, .int r), (0, .ref 0), (1, .int w), (2, .int (nI c)), (3, .int (nI i))] [.int (zfv (-1) (lix L p 0))] M _
        refine yR.adv 1 (pc' := 77) (lv' := [(4, .int r), (0, .ref 0), (1, .int w), (2, .int (nI c)), (3, .int (nI i))]) (st' := [.int (-1), .int (zfv (-1) (lix L p 0))]) (M' := M) rfl ?_
        have hn := zfv_none (o := lix L p 0) (c := -1) (fun k hk2 => nI_nm1 k (by have := lix_lt hk2; omega))
        have hb2 : (∃ p, p ∈ ps ∧ zbadL L p.1 p.2 w) → ∃ p, p ∈ ps.drop (i + 1) ∧ zbadL L p.1 p.2 w := fun z => by
          obtain ⟨p', h1, h2⟩ := hb z
          rcases List.mem_cons.mp h1 with e | e
          · rw [e] at h2; exact absurd h2 hnb
          · exact ⟨p', e, h2⟩
        refine yR.if2 .ne _ _ _ _ rfl (fun q3 => ?_) (fun q3 => ?_)
        · have q3' := zne_t q3
          have hw : ¬ lw L p = none := fun z => q3' (hn.mpr (lix_none_lw.mpr z))
          rw [lfr_cons, if_neg hw] at hc
          refine yR.adv 2 (pc' := 4) (lv' := [(3, .int (nI i + 1)), (4, .int r), (0, .ref 0), (1, .int w), (2, .int (nI c))]) (st' := []) (M' := M) rfl ?_
          exact (ih (d - 1) (by omega) (i + 1) c (by omega) (by omega) hb2).drop (by refine ⟨?_, ?_⟩ <;> simp [zget, zwf, nI_succ])
        · have q3' := zne_f q3
          have hw : lw L p = none := lix_none_lw.mp (hn.mp q3')
          rw [lfr_cons, if_pos hw] at hc
          refine yR.adv 3 (pc' := 4) (lv' := [(3, .int (nI i + 1)), (2, .int (nI c + 1)), (4, .int r), (0, .ref 0), (1, .int w)]) (st' := []) (M' := M) rfl ?_
          exact (ih (d - 1) (by omega) (i + 1) (c + 1) (by omega) (by omega) hb2).drop (by refine ⟨?_, ?_⟩ <;> simp [zget, zwf, nI_succ])
      · have q2' := zeq_f q2
        have hbd : zbadL L p.1 p.2 w := hr.elim (fun z => hbiff.mp z.1) (fun z => absurd z.2 q2')
        have hr2 : r = -2 := hr.elim (fun z => z.2) (fun z => absurd z.2 q2')
        have hv0 : v = -2 := hv.elim (fun z => z.2) (fun z => absurd ⟨p, hmem, hbd⟩ z.1)
        refine yR.adv 1 (pc' := 50) (lv' := [(4, .int r), (0, .ref 0), (1, .int w), (2, .int (nI c)), (3, .int (nI i))]) (st' := [.int r]) (M' := M) rfl ?_
        refine yR.ret _ rfl rfl rfl ?_
        exact ⟨by rw [hv0, hr2], rfl⟩
def zorbQ (L : zPl) (ps : List zPt) (w : Int32) : Prop := ¬ (∃ p, p ∈ ps ∧ zbadL L p.1 p.2 w) ∧ ¬ 24 < L.length + lfr L ps
theorem m_orbit (M : zMm) (dom : Nat) (q W : Int) (L : zPl) (h : zRm dom q W M L) (x y w : Int32) :
    yR 41 0 [(0, .ref 0), (1, .int x), (2, .int y), (3, .int w)] [] M (fun r N => (¬ (zgr x ∧ zgr y ∧ zwr w.toInt) ∧ r = some (.int (-2)) ∧ N = M) ∨
      ((zgr x ∧ zgr y ∧ zwr w.toInt) ∧ (∃ p, p ∈ ofold [] (zpsM (nI dom) (iI q) x y) ∧ zbadL L p.1 p.2 w) ∧ r = some (.int (-2)) ∧ zKp [9, 10, 11] [] M N) ∨
      ((zgr x ∧ zgr y ∧ zwr w.toInt) ∧ ¬ (∃ p, p ∈ ofold [] (zpsM (nI dom) (iI q) x y) ∧ zbadL L p.1 p.2 w) ∧ 24 < L.length + lfr L (ofold [] (zpsM (nI dom) (iI q) x y)) ∧ r = some (.int (-4)) ∧ zKp [9, 10, 11] [] M N) ∨
      ((zgr x ∧ zgr y ∧ zwr w.toInt) ∧ zorbQ L (ofold [] (zpsM (nI dom) (iI q) x y)) w ∧ r = some (.int (nI (ofold [] (zpsM (nI dom) (iI q) x y)).length)) ∧ zRm dom q W N (laddA L (ofold [] (zpsM (nI dom) (iI q) x y)) w) ∧ zKp [1, 2, 3, 4, 9, 10, 11] [] M N)) := by
  obtain ⟨hR, hk, hd, hq, hW, hdom, bq, bW⟩ := h
  obtain ⟨v1, h1⟩ := zem (-24 ≤ x.toInt ∧ x.toInt ≤ 24)
  obtain ⟨v2, h2⟩ := zem (-24 ≤ y.toInt ∧ y.toInt ≤ 24)
  obtain ⟨v3, h3⟩ := zem (-10000 ≤ w.toInt ∧ w.toInt ≤ 10000)
  refine yR.adv 3 (pc' := 5) (lv' := [(0, .ref 0), (1, .int x), (2, .int y), (3, .int w)]) (st' := [.int 24, .int (-24), .int x]) (M' := M) rfl ?_
  refine yR.callK (M1 := M) _ rfl rfl rfl rfl rfl (m_fromV M x (-24) 24 (-24) 24 rfl rfl v1 h1) ?_
  show yR 41 8 [(0, .ref 0), (1, .int x), (2, .int y), (3, .int w)] [.int v1] M _
  refine yR.if1 .eq _ _ _ _ rfl (fun q1 => ?_) (fun q1 => ?_)
  · refine yR.adv 1 (pc' := 37) (lv' := [(0, .ref 0), (1, .int x), (2, .int y), (3, .int w)]) (st' := [.int (-2)]) (M' := M) rfl ?_
    refine yR.ret _ rfl rfl rfl ?_
    exact Or.inl ⟨fun z => zeq0 h1 q1 z.1, rfl, rfl⟩
  · refine yR.adv 3 (pc' := 16) (lv' := [(0, .ref 0), (1, .int x), (2, .int y), (3, .int w)]) (st' := [.int 24, .int (-24), .int y]) (M' := M) rfl ?_
    refine yR.callK (M1 := M) _ rfl rfl rfl rfl rfl (m_fromV M y (-24) 24 (-24) 24 rfl rfl v2 h2) ?_
    show yR 41 19 [(0, .ref 0), (1, .int x), (2, .int y), (3, .int w)] [.int v2] M _
    refine yR.if1 .eq _ _ _ _ rfl (fun q2 => ?_) (fun q2 => ?_)
    · refine yR.adv 1 (pc' := 37) (lv' := [(0, .ref 0), (1, .int x), (2, .int y), (3, .int w)]) (st' := [.int (-2)]) (M' := M) rfl ?_
      refine yR.ret _ rfl rfl rfl ?_
      exact Or.inl ⟨fun z => zeq0 h2 q2 z.2.1, rfl, rfl⟩
    · refine yR.adv 3 (pc' := 29) (lv' := [(0, .ref 0), (1, .int x), (2, .int y), (3, .int w)]) (st' := [.int 10000, .int (-10000), .int w]) (M' := M) rfl ?_
      refine yR.callK (M1 := M) _ rfl rfl rfl rfl rfl (m_fromV M w (-10000) 10000 (-10000) 10000 rfl rfl v3 h3) ?_
      show yR 41 32 [(0, .ref 0), (1, .int x), (2, .int y), (3, .int w)] [.int v3] M _
      refine yR.if1 .ne _ _ _ _ rfl (fun q3 => ?_) (fun q3 => ?_)
      · have hin : zgr x ∧ zgr y ∧ zwr w.toInt := ⟨zeq1 h1 q1, zeq1 h2 q2, zne0 h3 q3⟩
        refine yR.adv 10 (pc' := 58) (lv' := [(0, .ref 0), (1, .int x), (2, .int y), (3, .int w)]) (st' := [.int y, .int x, .int (M.1 1 1), .int (M.1 1 0), .ref 9]) (M' := M) rfl ?_
        rw [hd]
        rw [hq]
        refine yR.call _ rfl rfl rfl rfl rfl (m_gatherE M (nI dom) (iI q) x y) (fun r1 M1 hq => ?_)
        obtain ⟨rfl, o1, e1⟩ := hq
        show yR 41 61 [(0, .ref 0), (1, .int x), (2, .int y), (3, .int w)] [] M1 _
        have R1 := hR.keep (N := M1) (e1 1 3 (by decide) (by decide)).1 (fun i => (e1 2 i (by decide) (by simp)).1) (fun i => (e1 3 i (by decide) (by simp)).1) (fun i => (e1 4 i (by decide) (by simp)).1)
        generalize hps : ofold [] (zpsM (nI dom) (iI q) x y) = ps at *
        have hnd : ps.Nodup := by rw [← hps]; exact ofold_nd _
        have hlen := o1.2.1
        have hv' : ∃ v : Int32, ((∃ p, p ∈ ps ∧ zbadL L p.1 p.2 w) ∧ v = -2) ∨ (¬ (∃ p, p ∈ ps ∧ zbadL L p.1 p.2 w) ∧ ((24 < L.length + lfr L ps ∧ v = -4) ∨ (¬ 24 < L.length + lfr L ps ∧ v = 0))) := (Classical.em (∃ p, p ∈ ps ∧ zbadL L p.1 p.2 w)).elim (fun z => ⟨-2, Or.inl ⟨z, rfl⟩⟩) (fun z => (Classical.em (24 < L.length + lfr L ps)).elim (fun y => ⟨-4, Or.inr ⟨z, Or.inl ⟨y, rfl⟩⟩⟩) (fun y => ⟨0, Or.inr ⟨z, Or.inr ⟨y, rfl⟩⟩⟩))
        obtain ⟨v, hv⟩ := hv'
        have E1 : zKp [9, 10, 11] [] M M1 := e1.sub (by decide)
        have ref : yOk 74 0 [(0, .ref 0), (1, .int w)] [] M1 (some (.int v)) M1 := by
          refine yR.ok ?_
          refine yR.adv 4 (pc' := 4) (lv' := [(3, .int 0), (2, .int 0), (0, .ref 0), (1, .int w)]) (st' := []) (M' := M1) rfl ?_
          exact (m_refOrb_loop M1 w ps L o1 R1 hk v hv ps.length 0 0 (Nat.zero_add _) (Nat.zero_add _) (fun z => by rw [List.drop_zero]; exact z)).drop (by refine ⟨?_, ?_⟩ <;> simp [zget, zwf, nI_0])
        refine yR.adv 2 (pc' := 63) (lv' := [(0, .ref 0), (1, .int x), (2, .int y), (3, .int w)]) (st' := [.int w, .ref 0]) (M' := M1) rfl ?_
        refine yR.callK (M1 := M1) _ rfl rfl rfl rfl rfl (ref) ?_
        show yR 41 66 [(0, .ref 0), (1, .int x), (2, .int y), (3, .int w)] [.int v] M1 _
        refine yR.adv 2 (pc' := 70) (lv' := [(4, .int v), (0, .ref 0), (1, .int x), (2, .int y), (3, .int w)]) (st' := [.int v]) (M' := M1) rfl ?_
        refine yR.if1 .eq _ _ _ _ rfl (fun q4 => ?_) (fun q4 => ?_)
        · have q4' := zeq_t q4
          have hq : zorbQ L ps w := by
            rcases hv with z | z
            · rw [z.2] at q4'; exact absurd q4' (by decide)
            · rcases z.2 with y | y
              · rw [y.2] at q4'; exact absurd q4' (by decide)
              · exact ⟨z.1, y.1⟩
          have hg : lgood w L ps := lgood_of w ps L hnd (fun p hp hb => hq.1 ⟨p, hp, hb⟩) (by have := hq.2; omega)
          refine yR.adv 5 (pc' := 85) (lv' := [(4, .int v), (0, .ref 0), (1, .int x), (2, .int y), (3, .int w)]) (st' := [.int w, .ref 9, .ref 1]) (M' := M1) rfl ?_
          refine yR.call _ rfl rfl rfl rfl rfl (m_addAll M1 w ps L o1 R1 hk hg) (fun r1 M2 hq => ?_)
          obtain ⟨rfl, R2, K2, e2⟩ := hq
          show yR 41 88 [(4, .int v), (0, .ref 0), (1, .int x), (2, .int y), (3, .int w)] [] M2 _
          have s2 : M2.1 9 2 = nI ps.length := by rw [(e2 9 2 (by decide) (by decide)).1]; exact o1.1
          refine yR.adv 3 (pc' := 95) (lv' := [(4, .int v), (0, .ref 0), (1, .int x), (2, .int y), (3, .int w)]) (st' := [.int (M2.1 9 2)]) (M' := M2) rfl ?_
          rw [s2]
          refine yR.ret _ rfl rfl rfl ?_
          refine Or.inr (Or.inr (Or.inr ⟨hin, hq, rfl, ⟨R2, K2, ?_, ?_, ?_, hdom, bq, bW⟩, (E1.sub (by decide)).trans (e2.sub (by decide))⟩))
          · rw [(e2 1 0 (by decide) (by decide)).1, (e1 1 0 (by decide) (by decide)).1]; exact hd
          · rw [(e2 1 1 (by decide) (by decide)).1, (e1 1 1 (by decide) (by decide)).1]; assumption
          · rw [(e2 1 2 (by decide) (by decide)).1, (e1 1 2 (by decide) (by decide)).1]; exact hW
        · have q4' := zeq_f q4
          refine yR.adv 1 (pc' := 75) (lv' := [(4, .int v), (0, .ref 0), (1, .int x), (2, .int y), (3, .int w)]) (st' := [.int v]) (M' := M1) rfl ?_
          refine yR.ret _ rfl rfl rfl ?_
          rcases hv with z | z
          · exact Or.inr (Or.inl ⟨hin, z.1, by rw [z.2], E1⟩)
          · rcases z.2 with y | y
            · exact Or.inr (Or.inr (Or.inl ⟨hin, z.1, y.1, by rw [y.2], E1⟩))
            · exact absurd y.2 q4'
      · refine yR.adv 1 (pc' := 37) (lv' := [(0, .ref 0), (1, .int x), (2, .int y), (3, .int w)]) (st' := [.int (-2)]) (M' := M) rfl ?_
        refine yR.ret _ rfl rfl rfl ?_
        exact Or.inl ⟨fun z => zne1 h3 q3 z.2.2, rfl, rfl⟩
