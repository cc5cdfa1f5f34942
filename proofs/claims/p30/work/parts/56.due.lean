/-! ===== the moments that are due; a fraction by any lower number; weights of a pair ===== -/
theorem m_powerN (M : zMm) (v : Int64) (n : Nat) (h : n < 1000) : yOk 69 0 [(0, .long v), (2, .int (nI n))] [] M (some (.long (zpw v n))) M := by
  have := m_power M v (nI n) (nI_pos (by omega))
  rwa [nI_clamp (by omega)] at this
def zduU (dom : Nat) (q : Int) (t : Nat) : Int64 := zfu (zmu dom (zpxN t) (zpyN t)) (zmd dom (zpxN t) (zpyN t)) * zpw (lI q) (zpxN t + zpyN t)
def zduL (dom : Nat) (t : Nat) : Int64 := zfd (zmu dom (zpxN t) (zpyN t)) (zmd dom (zpxN t) (zpyN t))
theorem m_due_loop (M0 : zMm) (dom : Nat) (hdom : dom < 3) (q : Int) (hq : 1 ≤ q ∧ q ≤ 6) : ∀ (d i : Nat) (M : zMm), i + d = 21 → M.1 12 0 = nI dom → M.1 12 1 = iI q → (∀ t, t < i → M.2 46 t = zduU dom q t ∧ M.2 47 t = zduL dom t) → zKp [46, 47, 50] [] M0 M →
    yR 6 122 [(0, .ref 12), (4, .int (nI i))] [] M (fun r N => r = none ∧ (∀ t, t < 21 → N.2 46 t = zduU dom q t ∧ N.2 47 t = zduL dom t) ∧ zKp [46, 47, 50] [] M0 N) := by
  intro d
  induction d using Nat.strongRecOn with
  | ind d ih =>
    intro i M h h0 h1 hp hE
    refine yR.adv 2 (pc' := 126) (lv' := [(0, .ref 12), (4, .int (nI i))]) (st' := [.int 21, .int (nI i)]) (M' := M) rfl ?_
    refine yR.if2 .ge _ _ _ _ rfl (fun q1 => ?_) (fun q1 => ?_)
    · have q1' : (21 : Int) ≤ i := zcT q1 (nI_toInt (by omega)) rfl
      refine yR.ret _ rfl rfl rfl ?_
      exact ⟨rfl, fun t ht => hp t (by omega), hE⟩
    · have q1' : ¬ (21 : Int) ≤ i := zcF q1 (nI_toInt (by omega)) rfl
      obtain ⟨hpx, hpy, h7⟩ := zpxN_ok i (by omega)
      refine yR.adv 6 (pc' := 142) (lv' := [(0, .ref 12), (4, .int (nI i))]) (st' := [.int (nI i), .retAddr 0, .int (M.1 12 0), .ref 50]) (M' := M) rfl ?_
      rw [h0]
      refine yR.fald i _ _ _ rfl rfl (by decide) (rfl) (show i < 28 from by omega) ?_
      rw [hpx]
      refine yR.adv 2 (pc' := 148) (lv' := [(0, .ref 12), (4, .int (nI i))]) (st' := [.int (nI i), .retAddr 1, .int (nI (zpxN i)), .int (nI dom), .ref 50]) (M' := M) rfl ?_
      refine yR.fald i _ _ _ rfl rfl (by decide) (rfl) (show i < 28 from by omega) ?_
      rw [hpy]
      refine yR.callK (M1 := zupL (zupL M 50 0 (zfu (zmu dom (zpxN i) (zpyN i)) (zmd dom (zpxN i) (zpyN i)))) 50 1 (zfd (zmu dom (zpxN i) (zpyN i)) (zmd dom (zpxN i) (zpyN i)))) _ rfl rfl rfl rfl rfl (m_moment_50 M dom (zpxN i) (zpyN i) hdom (by omega) (by omega) (by omega)) ?_
      show yR 6 152 [(0, .ref 12), (4, .int (nI i))] [] (zupL (zupL M 50 0 (zfu (zmu dom (zpxN i) (zpyN i)) (zmd dom (zpxN i) (zpyN i)))) 50 1 (zfd (zmu dom (zpxN i) (zpyN i)) (zmd dom (zpxN i) (zpyN i)))) _
      generalize g1 : zupL (zupL M 50 0 (zfu (zmu dom (zpxN i) (zpyN i)) (zmd dom (zpxN i) (zpyN i)))) 50 1 (zfd (zmu dom (zpxN i) (zpyN i)) (zmd dom (zpxN i) (zpyN i))) = M1
      have e1 : zKp [46, 47, 50] [] M M1 := by rw [← g1]; exact ((zKp.refl _ _ M).upL (by simp)).upL (by simp)
      have u1 : M1.2 50 0 = zfu (zmu dom (zpxN i) (zpyN i)) (zmd dom (zpxN i) (zpyN i)) := by rw [← g1]; simp [zupL_l]
      have u2 : M1.2 50 1 = zfd (zmu dom (zpxN i) (zpyN i)) (zmd dom (zpxN i) (zpyN i)) := by rw [← g1]; simp [zupL_l]
      have w0 : M1.1 12 0 = nI dom := by rw [← g1]; exact h0
      have w1 : M1.1 12 1 = iI q := by rw [← g1]; exact h1
      have p1 : ∀ t, t < i → M1.2 46 t = zduU dom q t ∧ M1.2 47 t = zduL dom t := fun t ht => by rw [← g1]; simp only [zupL_l]; simpa using hp t ht
      refine yR.adv 11 (pc' := 175) (lv' := [(0, .ref 12), (4, .int (nI i))]) (st' := [.int (nI i), .retAddr 0, .long ((M1.1 12 1).toInt64), .long (M1.2 50 0), .int (nI i), .ref 46]) (M' := M1) rfl ?_
      refine yR.fald i _ _ _ rfl rfl (by decide) (rfl) (show i < 28 from by omega) ?_
      rw [hpx]
      refine yR.adv 2 (pc' := 181) (lv' := [(0, .ref 12), (4, .int (nI i))]) (st' := [.int (nI i), .retAddr 1, .int (nI (zpxN i)), .long ((M1.1 12 1).toInt64), .long (M1.2 50 0), .int (nI i), .ref 46]) (M' := M1) rfl ?_
      refine yR.fald i _ _ _ rfl rfl (by decide) (rfl) (show i < 28 from by omega) ?_
      rw [hpy]
      refine yR.adv 1 (pc' := 183) (lv' := [(0, .ref 12), (4, .int (nI i))]) (st' := [.int ((nI (zpxN i)) + (nI (zpyN i))), .long ((M1.1 12 1).toInt64), .long (M1.2 50 0), .int (nI i), .ref 46]) (M' := M1) rfl ?_
      rw [nI_add, w1, iI_l (by omega)]
      refine yR.callK (M1 := M1) _ rfl rfl rfl rfl rfl (m_powerN M1 (lI q) (zpxN i + zpyN i) (by omega)) ?_
      show yR 6 186 [(0, .ref 12), (4, .int (nI i))] [.long (zpw (lI q) (zpxN i + zpyN i)), .long (M1.2 50 0), .int (nI i), .ref 46] M1 _
      refine yR.adv 1 (pc' := 187) (lv' := [(0, .ref 12), (4, .int (nI i))]) (st' := [.long ((M1.2 50 0) * (zpw (lI q) (zpxN i + zpyN i))), .int (nI i), .ref 46]) (M' := M1) rfl ?_
      rw [u1]
      show yR 6 187 [(0, .ref 12), (4, .int (nI i))] [.long (zduU dom q i), .int (nI i), .ref 46] M1 _
      refine yR.last i _ _ _ rfl rfl (by decide) (rfl) (by omega) ?_
      generalize g2 : zupL M1 46 i (zduU dom q i) = M2
      have u3 : M2.2 50 1 = zfd (zmu dom (zpxN i) (zpyN i)) (zmd dom (zpxN i) (zpyN i)) := by rw [← g2, zupL_l, if_neg (by omega)]; exact u2
      refine yR.adv 6 (pc' := 201) (lv' := [(0, .ref 12), (4, .int (nI i))]) (st' := [.long (M2.2 50 1), .int (nI i), .ref 47]) (M' := M2) rfl ?_
      rw [u3]
      show yR 6 201 [(0, .ref 12), (4, .int (nI i))] [.long (zduL dom i), .int (nI i), .ref 47] M2 _
      refine yR.last i _ _ _ rfl rfl (by decide) (rfl) (by omega) ?_
      generalize g3 : zupL M2 47 i (zduL dom i) = M3
      refine yR.adv 2 (pc' := 122) (lv' := [(4, .int (nI i + 1)), (0, .ref 12)]) (st' := []) (M' := M3) rfl ?_
      have K := ih (d - 1) (by omega) (i + 1) M3 (by omega) (by rw [← g3, ← g2]; exact w0) (by rw [← g3, ← g2]; exact w1) (fun t ht => by
        rw [← g3, ← g2]
        simp only [zupL_l]
        by_cases e : t = i
        · subst e
          simp
        · have := p1 t (by omega)
          simpa [e] using this) (by rw [← g3, ← g2]; exact ((hE.trans e1).upL (by simp)).upL (by simp))
      exact (K).drop (by refine ⟨?_, ?_⟩ <;> simp [zget, zwf, nI_succ])
theorem zGr.keep {dom : Nat} {q : Int} {M N : zMm} {l : List (Int × Int)} (h : zGr dom q M l) (hl : l.length ≤ 28) (e1 : ∀ i, i ≤ 2 → N.1 12 i = M.1 12 i) (e2 : ∀ a i, 13 ≤ a → a ≤ 16 → N.1 a i = M.1 a i) (e3 : ∀ a i, 18 ≤ a → a < 46 → N.2 a i = M.2 a i) : zGr dom q N l := by
  refine ⟨by rw [e1 0 (by omega)]; exact h.1, by rw [e1 1 (by omega)]; exact h.2.1, by rw [e1 2 (by omega)]; exact h.2.2.1, fun s p hs => ?_⟩
  have hs2 := (List.getElem?_eq_some_iff.mp hs).1
  obtain ⟨g1, g2, g3, g4, g5⟩ := h.2.2.2 s p hs
  exact ⟨by rw [e2 13 s (by omega) (by omega)]; exact g1, by rw [e2 14 s (by omega) (by omega)]; exact g2, by rw [e2 15 s (by omega) (by omega)]; exact g3, by rw [e2 16 s (by omega) (by omega)]; exact g4, fun t ht => by rw [e3 (18 + s) t (by omega) (by omega)]; exact g5 t ht⟩
theorem zreps_len : ∀ dom, dom < 3 → ∀ q, q < 7 → (zreps dom q).length ≤ 28 := by decide +kernel
def zGrD (dom : Nat) (q : Nat) (M : zMm) : Prop := zGr dom q M (zreps dom q) ∧ ∀ t, t < 21 → M.2 46 t = zduU dom q t ∧ M.2 47 t = zduL dom t
theorem m_grid (M : zMm) (dom : Nat) (hdom : dom < 3) (q : Nat) (hq : 1 ≤ q ∧ q ≤ 6) : yR 6 0 [(0, .ref 12), (1, .int (nI dom)), (2, .int (iI q)), (3, .ref 9)] [] M (fun r N => r = none ∧ zGrD dom q N ∧ zKp zA1 [] M N) := by
  refine yR.adv 9 (pc' := 15) (lv' := [(0, .ref 12), (1, .int (nI dom)), (2, .int (iI q)), (3, .ref 9)]) (st' := []) (M' := zup (zup (zup M 12 0 (nI dom)) 12 1 (iI q)) 12 2 0) rfl ?_
  generalize g1 : zup (zup (zup M 12 0 (nI dom)) 12 1 (iI q)) 12 2 0 = M1
  have hA : ∀ a, 9 ≤ a → a < 54 → a ∈ zA1 := fun a h1 h2 => zA1_mem.mpr ⟨h1, h2⟩
  have e1 : zKp zA1 [] M M1 := by rw [← g1]; exact (((zKp.refl _ _ M).up (Or.inl (hA 12 (by omega) (by omega)))).up (Or.inl (hA 12 (by omega) (by omega)))).up (Or.inl (hA 12 (by omega) (by omega)))
  have w0 : M1.1 12 0 = nI dom := by rw [← g1]; simp [zup_i]
  have w1 : M1.1 12 1 = iI q := by rw [← g1]; simp [zup_i]
  have w2 : M1.1 12 2 = nI 0 := by rw [← g1]; simp [zup_i]; rfl
  refine yR.adv 4 (pc' := 22) (lv' := [(4, .int (-(M1.1 12 1))), (0, .ref 12), (1, .int (nI dom)), (2, .int (iI q)), (3, .ref 9)]) (st' := []) (M' := M1) rfl ?_
  rw [w1, iI_neg]
  have hl := zreps_len dom hdom q (by omega)
  refine yR.drop (lv := [(0, .ref 12), (3, .ref 9), (4, .int (iI (-(q : Int))))]) (by refine ⟨?_, ?_⟩ <;> simp [zget, zwf]) ?_
  refine m_grid_out M dom hdom q (by omega) (zreps dom q) hl (fun M' hG hE => ?_) (2 * q + 1) (-(q : Int)) M1 [] (by omega) (by omega) ⟨w0, w1, w2, fun s p h => by simp at h⟩ e1 (by rw [List.nil_append]; rfl)
  refine yR.adv 2 (pc' := 122) (lv' := [(4, .int 0), (0, .ref 12)]) (st' := []) (M' := M') rfl ?_
  have K := m_due_loop M' dom hdom q (by omega) 21 0 M' rfl hG.1 hG.2.1 (fun t ht => absurd ht (by omega)) (zKp.refl _ _ _)
  refine (yR.drop (by refine ⟨?_, ?_⟩ <;> simp [zget, zwf, nI_0]) K).mono (fun r N hN => ?_)
  obtain ⟨n1, n2, n3⟩ := hN
  refine ⟨n1, ⟨hG.keep hl (fun i hi => (n3 12 i (by decide) (by simp)).1) (fun a i h1 h2 => (n3 a i (by simp <;> omega) (by simp)).1) (fun a i h1 h2 => (n3 a i (by simp <;> omega) (by simp)).2), n2⟩, hE.trans (n3.mono (fun a ha => ?_) (by simp))⟩
  simp at ha
  exact hA a (by omega) (by omega)
/-- a fraction by a lower number of any sign but 0 -/
theorem zneg_toInt {x : Int64} (h : x.toInt ≠ -2 ^ 63) : (-x).toInt = - x.toInt := by
  rw [← lI_of x, lI_neg, lI_toInt, lI_of]
  have h1 := Int64.le_toInt x
  have h2 := Int64.toInt_lt x
  omega
theorem ztdiv_neg (u g : Int) : Int.tdiv u (-g) = Int.tdiv (-u) g := by rw [Int.tdiv_neg, Int.neg_tdiv]
theorem zdiv_neg {u g : Int64} (hu : u.toInt ≠ -2 ^ 63) (hg : 0 < g.toInt) : u / (-g) = (-u) / g := by
  have h1 := Int64.le_toInt u
  have h2 := Int64.toInt_lt u
  have h3 := Int64.toInt_lt g
  have e1 : (-g).toInt = - g.toInt := zneg_toInt (by omega)
  have e2 : (-u).toInt = - u.toInt := zneg_toInt hu
  apply Int64.toInt_inj.mp
  rw [Int64.toInt_div_of_ne_left u (-g) (fun e => hu (by rw [e]; rfl)), Int64.toInt_div_of_ne_left (-u) g (fun e => by
    have := congrArg Int64.toInt e
    rw [e2] at this
    have h0 : (Int64.minValue).toInt = -9223372036854775808 := rfl
    rw [h0] at this
    omega), e1, e2, ztdiv_neg]
theorem zg_neg {u d : Int64} (hu : u.toInt ≠ -2 ^ 63) (hd : d.toInt ≠ -2 ^ 63) : zg (-u) (-d) = zg u d := by
  unfold zg
  rw [zneg_toInt hu, zneg_toInt hd, Int.natAbs_neg, Int.natAbs_neg]
theorem m_becomeN_50 (M : zMm) (u d : Int64) (hu : u.toInt ≠ -2 ^ 63) (hd : d.toInt < 0) (hd2 : d.toInt ≠ -2 ^ 63) : yOk 1 0 [(0, .ref 50), (1, .long u), (3, .long d)] [] M none (zupL (zupL M 50 0 (zfu (-u) (-d))) 50 1 (zfd (-u) (-d))) := by
  have hdn : 0 < (-d).toInt := by rw [zneg_toInt hd2]; omega
  have hg : zg u d = zg (-u) (-d) := (zg_neg hu hd2).symm
  have hgp : 0 < (zg u d).toInt := by rw [hg, zg_toInt hdn]; have := zg_pos (u := -u) hdn; omega
  have hgn : ¬ -(zg u d) = 0 := fun e => by
    have e2 := congrArg Int64.toInt e
    have h3 := Int64.toInt_lt (zg u d)
    rw [zneg_toInt (by omega)] at e2
    have h0 : (0 : Int64).toInt = 0 := rfl
    rw [h0] at e2
    omega
  have eu : u / (-(zg u d)) = zfu (-u) (-d) := by rw [zdiv_neg hu hgp]; unfold zfu; rw [hg]
  have ed : d / (-(zg u d)) = zfd (-u) (-d) := by rw [zdiv_neg hd2 hgp]; unfold zfd; rw [hg]
  refine yR.ok ?_
  refine yR.adv 2 (pc' := 2) (lv' := [(0, .ref 50), (1, .long u), (3, .long d)]) (st' := [.long d, .long u]) (M' := M) rfl ?_
  refine yR.callK (M1 := M) _ rfl rfl rfl rfl rfl (m_gcd M u d hu hd2) ?_
  show yR 1 5 [(0, .ref 50), (1, .long u), (3, .long d)] [.long (zg u d)] M _
  refine yR.adv 4 (pc' := 11) (lv' := [(5, .long (zg u d)), (0, .ref 50), (1, .long u), (3, .long d)]) (st' := [.int (lg_cmp (zg u d) 0)]) (M' := M) rfl ?_
  refine yR.if1 .eq _ _ _ _ rfl (fun q1 => ?_) (fun q1 => ?_)
  · exact absurd (zlT q1 rfl rfl) (by show ¬ (zg u d).toInt = (0 : Int64).toInt; have h0 : (0 : Int64).toInt = 0 := rfl; omega)
  · refine yR.adv 3 (pc' := 17) (lv' := [(5, .long (zg u d)), (0, .ref 50), (1, .long u), (3, .long d)]) (st' := [.int (lg_cmp d 0)]) (M' := M) rfl ?_
    refine yR.if1 .ne _ _ _ _ rfl (fun q2 => ?_) (fun q2 => ?_)
    · have q2' : ¬ d.toInt = (0 : Int64).toInt := zlT q2 rfl rfl
      refine yR.adv 3 (pc' := 34) (lv' := [(5, .long (zg u d)), (0, .ref 50), (1, .long u), (3, .long d)]) (st' := [.int (lg_cmp d 0)]) (M' := M) rfl ?_
      refine yR.if1 .ge _ _ _ _ rfl (fun q3 => ?_) (fun q3 => ?_)
      · have q3' : (0 : Int64).toInt ≤ d.toInt := zlT q3 rfl rfl
        have h0 : (0 : Int64).toInt = 0 := rfl
        omega
      · refine yR.adv 7 (pc' := 51) (lv' := [(7, .long (-(zg u d))), (5, .long (zg u d)), (0, .ref 50), (1, .long u), (3, .long d)]) (st' := [.long (-(zg u d)), .long u, .ref 50]) (M' := M) rfl ?_
        refine yR.ldiv _ _ _ rfl (hgn) ?_
        rw [eu]
        refine yR.adv 4 (pc' := 59) (lv' := [(7, .long (-(zg u d))), (5, .long (zg u d)), (0, .ref 50), (1, .long u), (3, .long d)]) (st' := [.long (-(zg u d)), .long d, .ref 50]) (M' := zupL M 50 0 (zfu (-u) (-d))) rfl ?_
        refine yR.ldiv _ _ _ rfl (hgn) ?_
        rw [ed]
        refine yR.adv 1 (pc' := 63) (lv' := [(7, .long (-(zg u d))), (5, .long (zg u d)), (0, .ref 50), (1, .long u), (3, .long d)]) (st' := []) (M' := zupL (zupL M 50 0 (zfu (-u) (-d))) 50 1 (zfd (-u) (-d))) rfl ?_
        refine yR.ret _ rfl rfl rfl ?_
        exact ⟨rfl, rfl⟩
    · have q2' : ¬ ¬ d.toInt = (0 : Int64).toInt := zlF q2 rfl rfl
      have h0 : (0 : Int64).toInt = 0 := rfl
      omega
/-- both signs at once -/
def zsg (d x : Int64) : Int64 := if d.toInt < 0 then -x else x
theorem m_becomeS_50 (M : zMm) (u d : Int64) (hu : u.toInt ≠ -2 ^ 63) (hd : d.toInt ≠ 0) (hd2 : d.toInt ≠ -2 ^ 63) : yOk 1 0 [(0, .ref 50), (1, .long u), (3, .long d)] [] M none (zupL (zupL M 50 0 (zfu (zsg d u) (zsg d d))) 50 1 (zfd (zsg d u) (zsg d d))) := by
  unfold zsg
  by_cases h : d.toInt < 0
  · rw [if_pos h, if_pos h]
    exact m_becomeN_50 M u d hu h hd2
  · rw [if_neg h, if_neg h]
    exact m_become_50 M u d hu (by omega)
theorem m_becomeN_51 (M : zMm) (u d : Int64) (hu : u.toInt ≠ -2 ^ 63) (hd : d.toInt < 0) (hd2 : d.toInt ≠ -2 ^ 63) : yOk 1 0 [(0, .ref 51), (1, .long u), (3, .long d)] [] M none (zupL (zupL M 51 0 (zfu (-u) (-d))) 51 1 (zfd (-u) (-d))) := by
  have hdn : 0 < (-d).toInt := by rw [zneg_toInt hd2]; omega
  have hg : zg u d = zg (-u) (-d) := (zg_neg hu hd2).symm
  have hgp : 0 < (zg u d).toInt := by rw [hg, zg_toInt hdn]; have := zg_pos (u := -u) hdn; omega
  have hgn : ¬ -(zg u d) = 0 := fun e => by
    have e2 := congrArg Int64.toInt e
    have h3 := Int64.toInt_lt (zg u d)
    rw [zneg_toInt (by omega)] at e2
    have h0 : (0 : Int64).toInt = 0 := rfl
    rw [h0] at e2
    omega
  have eu : u / (-(zg u d)) = zfu (-u) (-d) := by rw [zdiv_neg hu hgp]; unfold zfu; rw [hg]
  have ed : d / (-(zg u d)) = zfd (-u) (-d) := by rw [zdiv_neg hd2 hgp]; unfold zfd; rw [hg]
  refine yR.ok ?_
  refine yR.adv 2 (pc' := 2) (lv' := [(0, .ref 51), (1, .long u), (3, .long d)]) (st' := [.long d, .long u]) (M' := M) rfl ?_
  refine yR.callK (M1 := M) _ rfl rfl rfl rfl rfl (m_gcd M u d hu hd2) ?_
  show yR 1 5 [(0, .ref 51), (1, .long u), (3, .long d)] [.long (zg u d)] M _
  refine yR.adv 4 (pc' := 11) (lv' := [(5, .long (zg u d)), (0, .ref 51), (1, .long u), (3, .long d)]) (st' := [.int (lg_cmp (zg u d) 0)]) (M' := M) rfl ?_
  refine yR.if1 .eq _ _ _ _ rfl (fun q1 => ?_) (fun q1 => ?_)
  · exact absurd (zlT q1 rfl rfl) (by show ¬ (zg u d).toInt = (0 : Int64).toInt; have h0 : (0 : Int64).toInt = 0 := rfl; omega)
  · refine yR.adv 3 (pc' := 17) (lv' := [(5, .long (zg u d)), (0, .ref 51), (1, .long u), (3, .long d)]) (st' := [.int (lg_cmp d 0)]) (M' := M) rfl ?_
    refine yR.if1 .ne _ _ _ _ rfl (fun q2 => ?_) (fun q2 => ?_)
    · have q2' : ¬ d.toInt = (0 : Int64).toInt := zlT q2 rfl rfl
      refine yR.adv 3 (pc' := 34) (lv' := [(5, .long (zg u d)), (0, .ref 51), (1, .long u), (3, .long d)]) (st' := [.int (lg_cmp d 0)]) (M' := M) rfl ?_
      refine yR.if1 .ge _ _ _ _ rfl (fun q3 => ?_) (fun q3 => ?_)
      · have q3' : (0 : Int64).toInt ≤ d.toInt := zlT q3 rfl rfl
        have h0 : (0 : Int64).toInt = 0 := rfl
        omega
      · refine yR.adv 7 (pc' := 51) (lv' := [(7, .long (-(zg u d))), (5, .long (zg u d)), (0, .ref 51), (1, .long u), (3, .long d)]) (st' := [.long (-(zg u d)), .long u, .ref 51]) (M' := M) rfl ?_
        refine yR.ldiv _ _ _ rfl (hgn) ?_
        rw [eu]
        refine yR.adv 4 (pc' := 59) (lv' := [(7, .long (-(zg u d))), (5, .long (zg u d)), (0, .ref 51), (1, .long u), (3, .long d)]) (st' := [.long (-(zg u d)), .long d, .ref 51]) (M' := zupL M 51 0 (zfu (-u) (-d))) rfl ?_
        refine yR.ldiv _ _ _ rfl (hgn) ?_
        rw [ed]
        refine yR.adv 1 (pc' := 63) (lv' := [(7, .long (-(zg u d))), (5, .long (zg u d)), (0, .ref 51), (1, .long u), (3, .long d)]) (st' := []) (M' := zupL (zupL M 51 0 (zfu (-u) (-d))) 51 1 (zfd (-u) (-d))) rfl ?_
        refine yR.ret _ rfl rfl rfl ?_
        exact ⟨rfl, rfl⟩
    · have q2' : ¬ ¬ d.toInt = (0 : Int64).toInt := zlF q2 rfl rfl
      have h0 : (0 : Int64).toInt = 0 := rfl
      omega
theorem m_becomeS_51 (M : zMm) (u d : Int64) (hu : u.toInt ≠ -2 ^ 63) (hd : d.toInt ≠ 0) (hd2 : d.toInt ≠ -2 ^ 63) : yOk 1 0 [(0, .ref 51), (1, .long u), (3, .long d)] [] M none (zupL (zupL M 51 0 (zfu (zsg d u) (zsg d d))) 51 1 (zfd (zsg d u) (zsg d d))) := by
  unfold zsg
  by_cases h : d.toInt < 0
  · rw [if_pos h, if_pos h]
    exact m_becomeN_51 M u d hu h hd2
  · rw [if_neg h, if_neg h]
    exact m_become_51 M u d hu (by omega)
