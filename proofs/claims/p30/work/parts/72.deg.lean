/-! ===== degree, first, of both ===== -/
theorem m_errE (M : zMm) (dom : Nat) (q W : Int) (L : zPl) (h : zRm dom q W M L) (a b : Nat) (hab : a + b < 7) : yR 78 0 [(0, .ref 0), (1, .int (nI a)), (2, .int (nI b))] [] M (fun r N => r = none ∧ (N.2 52 0 = 0 ↔ zE0 dom q W L a b) ∧ zKp [52, 53] [] M N) := by
  obtain ⟨hR, hk, hm, hq, hW, hdom, bq, bW⟩ := h
  obtain ⟨s1, s2⟩ := zsm_L hR hk a b (by omega)
  obtain ⟨d1, d2, d3⟩ := zD_ok bW bq (a + b) (by omega)
  have hmp := zmd_pos (dom := dom) a (by omega) b (by omega) hab
  have hmb := zmd_b (dom := dom) a (by omega) b (by omega) hab
  have hub := zmu_b (dom := dom) a (by omega) b (by omega) hab
  generalize hS : zsm (M.1 4) (M.1 2) (M.1 3) a b L.length = S at s1
  have hD : (M.1 1 2).toInt64 * zpw (M.1 1 1).toInt64 (a + b) = (iI W).toInt64 * zpw (iI q).toInt64 (a + b) := by rw [hq, hW]
  generalize hDD : (iI W).toInt64 * zpw (iI q).toInt64 (a + b) = D at d1 hD
  have pD : 0 < D.toInt := by omega
  have l1 := zfu_le (u := S) pD
  have l2 := zfd_le (u := S) pD
  have l3 := zfu_le (u := zmu dom a b) hmp
  have l4 := zfd_le (u := zmu dom a b) hmp
  have c1 := zf_cross (u := S) pD
  have c2 := zf_cross (u := zmu dom a b) hmp
  obtain ⟨k1, k2, k3⟩ := zerr_m (A := zfu S D) (B := zfd S D) (m := zfu (zmu dom a b) (zmd dom a b)) (e := zfd (zmu dom a b) (zmd dom a b)) (by omega) ⟨l2.1, by omega⟩ (by omega) ⟨l4.1, by omega⟩
  refine yR.of (m_findError M L.length dom a b hR.1 hR.2.1 hm hdom (by omega) (by omega) hab S D hS hD (by omega) ⟨pD, by omega⟩) ⟨rfl, ?_, ?_⟩
  · rw [show ∀ (M' : zMm) (U V : Int64), (zansM M' U V).2 52 0 = zfu U V from fun M' U V => by simp [zupL_l]]
    rw [zfu_0 (by rw [k2]; exact k3), k1]
    unfold zE0
    rw [← zero_iff (A := (zfu S D).toInt) (B := (zfd S D).toInt) (m := (zfu (zmu dom a b) (zmd dom a b)).toInt) (e := (zfd (zmu dom a b) (zmd dom a b)).toInt) l2.1 l4.1 d2 hmp (by rw [← d1, ← s1]; exact c1) c2]
    omega
  · exact ((((((zKp.refl _ _ M).upL (by simp)).upL (by simp)).upL (by simp)).upL (by simp)).upL (by simp)).upL (by simp)
/-- the first wrong term -/
def zFW (P : Nat → Prop) (v : Int32) : Prop := (∃ t, t < 28 ∧ ¬ P t ∧ (∀ s, s < t → P s) ∧ v = nI t) ∨ ((∀ t, t < 28 → P t) ∧ v = -9)
theorem zFW_ex (P : Nat → Prop) : ∀ n, (∃ t, t < n ∧ ¬ P t ∧ ∀ s, s < t → P s) ∨ ∀ t, t < n → P t
  | 0 => Or.inr (fun t ht => absurd ht (by omega))
  | n + 1 => by
    rcases zFW_ex P n with ⟨t, h1, h2, h3⟩ | h
    · exact Or.inl ⟨t, by omega, h2, h3⟩
    · by_cases hp : P n
      · exact Or.inr (fun t ht => if e : t = n then e ▸ hp else h t (by omega))
      · exact Or.inl ⟨n, by omega, hp, h⟩
theorem m_fw_loop (M0 : zMm) (dom : Nat) (q W : Int) (L : zPl) (v : Int32) (hv : zFW (fun t => zE0 dom q W L (zpxN t) (zpyN t)) v) : ∀ (d t : Nat) (M : zMm), t + d = 28 → (∀ s, s < t → zE0 dom q W L (zpxN s) (zpyN s)) → zRm dom q W M L → zKp [52, 53] [] M0 M → yR 79 2 [(0, .ref 0), (1, .int (nI t))] [] M (fun r N => r = some (.int v) ∧ zKp [52, 53] [] M0 N) := by
  intro d
  induction d using Nat.strongRecOn with
  | ind d ih =>
    intro t M h hp hR hE
    refine yR.adv 2 (pc' := 5) (lv' := [(0, .ref 0), (1, .int (nI t))]) (st' := [.int 28, .int (nI t)]) (M' := M) rfl ?_
    refine yR.if2 .ge _ _ _ _ rfl (fun q1 => ?_) (fun q1 => ?_)
    · have q1' : (28 : Int) ≤ t := zcT q1 (nI_toInt (by omega)) rfl
      have hv0 : v = -9 := hv.elim (fun ⟨t', z1, z2, _⟩ => absurd (hp t' (by omega)) z2) (fun z => z.2)
      refine yR.adv 1 (pc' := 44) (lv' := [(0, .ref 0), (1, .int (nI t))]) (st' := [.int (-9)]) (M' := M) rfl ?_
      refine yR.ret _ rfl rfl rfl ?_
      exact ⟨by rw [hv0], hE⟩
    · have q1' : ¬ (28 : Int) ≤ t := zcF q1 (nI_toInt (by omega)) rfl
      obtain ⟨hpx, hpy, h7⟩ := zpxN_ok t (by omega)
      refine yR.adv 3 (pc' := 13) (lv' := [(0, .ref 0), (1, .int (nI t))]) (st' := [.int (nI t), .retAddr 0, .ref 0]) (M' := M) rfl ?_
      refine yR.fald t _ _ _ rfl rfl (by decide) (rfl) (show t < 28 from by omega) ?_
      rw [hpx]
      refine yR.adv 2 (pc' := 18) (lv' := [(0, .ref 0), (1, .int (nI t))]) (st' := [.int (nI t), .retAddr 1, .int (nI (zpxN t)), .ref 0]) (M' := M) rfl ?_
      refine yR.fald t _ _ _ rfl rfl (by decide) (rfl) (show t < 28 from by omega) ?_
      rw [hpy]
      refine yR.call _ rfl rfl rfl rfl rfl (m_errE M dom q W L hR (zpxN t) (zpyN t) h7) (fun r1 M1 hq => ?_)
      obtain ⟨rfl, h1, e1⟩ := hq
      show yR 79 22 [(0, .ref 0), (1, .int (nI t))] [] M1 _
      refine yR.adv 5 (pc' := 31) (lv' := [(0, .ref 0), (1, .int (nI t))]) (st' := [.int (lg_cmp (M1.2 52 0) 0)]) (M' := M1) rfl ?_
      refine yR.if1 .eq _ _ _ _ rfl (fun q2 => ?_) (fun q2 => ?_)
      · have q2' : M1.2 52 0 = 0 := Int64.toInt_inj.mp (zlT q2 rfl rfl)
        refine yR.adv 2 (pc' := 2) (lv' := [(1, .int (nI t + 1)), (0, .ref 0)]) (st' := []) (M' := M1) rfl ?_
        exact (ih (d - 1) (by omega) (t + 1) M1 (by omega) (fun s hs => if e : s = t then e ▸ h1.mp q2' else hp s (by omega)) (hR.keep (fun a i z1 z2 => (e1 a i (by simp <;> omega) (by simp)).1)) (hE.trans e1)).drop (by refine ⟨?_, ?_⟩ <;> simp [zget, zwf, nI_succ])
      · have q2' : ¬ M1.2 52 0 = 0 := fun e => zlF q2 rfl rfl (by rw [e]; rfl)
        have hnt : ¬ zE0 dom q W L (zpxN t) (zpyN t) := fun z => q2' (h1.mpr z)
        have hv0 : v = nI t := hv.elim (fun ⟨t', z1, z2, z3, z4⟩ => by
          have : t' = t := by
            rcases Nat.lt_trichotomy t' t with y | y | y
            · exact absurd (hp t' y) z2
            · exact y
            · exact absurd (z3 t y) hnt
          rw [← this]; exact z4) (fun z => absurd (z.1 t (by omega)) hnt)
        refine yR.adv 1 (pc' := 35) (lv' := [(0, .ref 0), (1, .int (nI t))]) (st' := [.int (nI t)]) (M' := M1) rfl ?_
        refine yR.ret _ rfl rfl rfl ?_
        exact ⟨by rw [hv0], hE.trans e1⟩
theorem m_fw (M : zMm) (dom : Nat) (q W : Int) (L : zPl) (hR : zRm dom q W M L) (v : Int32) (hv : zFW (fun t => zE0 dom q W L (zpxN t) (zpyN t)) v) : yR 79 0 [(0, .ref 0)] [] M (fun r N => r = some (.int v) ∧ zKp [52, 53] [] M N) := by
  refine yR.adv 2 (pc' := 2) (lv' := [(1, .int 0), (0, .ref 0)]) (st' := []) (M' := M) rfl ?_
  exact (m_fw_loop M dom q W L v hv 28 0 M rfl (fun s hs => absurd hs (by omega)) hR (zKp.refl _ _ _)).drop (by refine ⟨?_, ?_⟩ <;> simp [zget, zwf, nI_0])
/-- the degree by the first wrong term -/
def zdegV (P : Nat → Prop) (r : Int32) : Prop := (∃ t, t < 28 ∧ ¬ P t ∧ (∀ s, s < t → P s) ∧ r = iI (if zpxN t + zpyN t = 0 then -9 else (zpxN t + zpyN t : Nat) - 1)) ∨ ((∀ t, t < 28 → P t) ∧ r = 6)
theorem m_degree (M : zMm) (dom : Nat) (q W : Int) (L : zPl) (hR : zRm dom q W M L) (r : Int32) (hr : zdegV (fun t => zE0 dom q W L (zpxN t) (zpyN t)) r) : yR 47 0 [(0, .ref 0)] [] M (fun r' N => r' = some (.int r) ∧ zKp [52, 53] [] M N) := by
  rcases hr with ⟨t, t1, t2, t3, t4⟩ | ⟨t1, t2⟩
  · obtain ⟨hpx, hpy, h7⟩ := zpxN_ok t t1
    refine yR.adv 1 (pc' := 1) (lv' := [(0, .ref 0)]) (st' := [.ref 0]) (M' := M) rfl ?_
    refine yR.call _ rfl rfl rfl rfl rfl (m_fw M dom q W L hR (nI t) (Or.inl ⟨t, t1, t2, t3, rfl⟩)) (fun r1 M1 hq => ?_)
    obtain ⟨rfl, e1⟩ := hq
    show yR 47 4 [(0, .ref 0)] [.int (nI t)] M1 _
    refine yR.adv 3 (pc' := 8) (lv' := [(1, .int (nI t)), (0, .ref 0)]) (st' := [.int (-9), .int (nI t)]) (M' := M1) rfl ?_
    refine yR.if2 .ne _ _ _ _ rfl (fun q1 => ?_) (fun q1 => ?_)
    · refine yR.adv 2 (pc' := 18) (lv' := [(1, .int (nI t)), (0, .ref 0)]) (st' := [.int (nI t), .retAddr 0]) (M' := M1) rfl ?_
      refine yR.fald t _ _ _ rfl rfl (by decide) (rfl) (show t < 28 from by omega) ?_
      rw [hpx]
      refine yR.adv 2 (pc' := 23) (lv' := [(1, .int (nI t)), (0, .ref 0)]) (st' := [.int (nI t), .retAddr 1, .int (nI (zpxN t))]) (M' := M1) rfl ?_
      refine yR.fald t _ _ _ rfl rfl (by decide) (rfl) (show t < 28 from by omega) ?_
      rw [hpy]
      refine yR.adv 3 (pc' := 27) (lv' := [(2, .int ((nI (zpxN t)) + (nI (zpyN t)))), (1, .int (nI t)), (0, .ref 0)]) (st' := [.int ((nI (zpxN t)) + (nI (zpyN t)))]) (M' := M1) rfl ?_
      rw [nI_add]
      refine yR.if1 .ne _ _ _ _ rfl (fun q2 => ?_) (fun q2 => ?_)
      · have q2' : ¬ ((zpxN t + zpyN t : Nat) : Int) = 0 := zcT q2 (nI_toInt (by omega)) rfl
        refine yR.adv 3 (pc' := 38) (lv' := [(2, .int (nI (zpxN t + zpyN t))), (1, .int (nI t)), (0, .ref 0)]) (st' := [.int ((nI (zpxN t + zpyN t)) - 1)]) (M' := M1) rfl ?_
        refine yR.ret _ rfl rfl rfl ?_
        refine ⟨?_, e1⟩
        rw [t4, if_neg (by omega), nI_iI, ← iI_sub]
        rfl
      · have q2' : ¬ ¬ ((zpxN t + zpyN t : Nat) : Int) = 0 := zcF q2 (nI_toInt (by omega)) rfl
        refine yR.adv 2 (pc' := 38) (lv' := [(2, .int (nI (zpxN t + zpyN t))), (1, .int (nI t)), (0, .ref 0)]) (st' := [.int (-9)]) (M' := M1) rfl ?_
        refine yR.ret _ rfl rfl rfl ?_
        refine ⟨?_, e1⟩
        rw [t4, if_pos (by omega)]
        rfl
    · exact absurd (zne_f q1) (nI_nm9 t (by omega))
  · skip
    refine yR.adv 1 (pc' := 1) (lv' := [(0, .ref 0)]) (st' := [.ref 0]) (M' := M) rfl ?_
    refine yR.call _ rfl rfl rfl rfl rfl (m_fw M dom q W L hR (-9) (Or.inr ⟨t1, rfl⟩)) (fun r1 M1 hq => ?_)
    obtain ⟨rfl, e1⟩ := hq
    show yR 47 4 [(0, .ref 0)] [.int (-9)] M1 _
    refine yR.adv 3 (pc' := 8) (lv' := [(1, .int (-9)), (0, .ref 0)]) (st' := [.int (-9), .int (-9)]) (M' := M1) rfl ?_
    refine yR.if2 .ne _ _ _ _ rfl (fun q1 => ?_) (fun q1 => ?_)
    · exact absurd q1 (by decide)
    · refine yR.adv 1 (pc' := 13) (lv' := [(1, .int (-9)), (0, .ref 0)]) (st' := [.int 6]) (M' := M1) rfl ?_
      refine yR.ret _ rfl rfl rfl ?_
      exact ⟨by rw [t2], e1⟩
def zfstV (P : Nat → Prop) (w : Int32) (r : Int32) : Prop := (∃ t, t < 28 ∧ ¬ P t ∧ (∀ s, s < t → P s) ∧ r = nI (if w = 0 then zpxN t else zpyN t)) ∨ ((∀ t, t < 28 → P t) ∧ r = -3)
theorem m_first_no (M : zMm) (w : Int32) (h : ¬ (0 ≤ w.toInt ∧ w.toInt ≤ 1)) : yOk 48 0 [(0, .ref 0), (1, .int w)] [] M (some (.int (-2))) M := by
  refine yR.ok ?_
  refine yR.adv 3 (pc' := 3) (lv' := [(0, .ref 0), (1, .int w)]) (st' := [.int 1, .int 0, .int w]) (M' := M) rfl ?_
  refine yR.callK (M1 := M) _ rfl rfl rfl rfl rfl (m_fromV M w 0 1 0 1 rfl rfl 0 (Or.inr ⟨h, rfl⟩)) ?_
  show yR 48 6 [(0, .ref 0), (1, .int w)] [.int 0] M _
  refine yR.if1 .ne _ _ _ _ rfl (fun q1 => ?_) (fun q1 => ?_)
  · exact absurd q1 (by decide)
  · refine yR.adv 1 (pc' := 11) (lv' := [(0, .ref 0), (1, .int w)]) (st' := [.int (-2)]) (M' := M) rfl ?_
    refine yR.ret _ rfl rfl rfl ?_
    exact ⟨rfl, rfl⟩
theorem m_first (M : zMm) (dom : Nat) (q W : Int) (L : zPl) (hR : zRm dom q W M L) (w : Int32) (hw : 0 ≤ w.toInt ∧ w.toInt ≤ 1) (r : Int32) (hr : zfstV (fun t => zE0 dom q W L (zpxN t) (zpyN t)) w r) : yR 48 0 [(0, .ref 0), (1, .int w)] [] M (fun r' N => r' = some (.int r) ∧ zKp [52, 53] [] M N) := by
  refine yR.adv 3 (pc' := 3) (lv' := [(0, .ref 0), (1, .int w)]) (st' := [.int 1, .int 0, .int w]) (M' := M) rfl ?_
  refine yR.callK (M1 := M) _ rfl rfl rfl rfl rfl (m_fromV M w 0 1 0 1 rfl rfl 1 (Or.inl ⟨hw, rfl⟩)) ?_
  show yR 48 6 [(0, .ref 0), (1, .int w)] [.int 1] M _
  refine yR.if1 .ne _ _ _ _ rfl (fun q0 => ?_) (fun q0 => ?_)
  · rcases hr with ⟨t, t1, t2, t3, t4⟩ | ⟨t1, t2⟩
    · obtain ⟨hpx, hpy, h7⟩ := zpxN_ok t t1
      refine yR.adv 1 (pc' := 13) (lv' := [(0, .ref 0), (1, .int w)]) (st' := [.ref 0]) (M' := M) rfl ?_
      refine yR.call _ rfl rfl rfl rfl rfl (m_fw M dom q W L hR (nI t) (Or.inl ⟨t, t1, t2, t3, rfl⟩)) (fun r1 M1 hq => ?_)
      obtain ⟨rfl, e1⟩ := hq
      show yR 48 16 [(0, .ref 0), (1, .int w)] [.int (nI t)] M1 _
      refine yR.adv 3 (pc' := 20) (lv' := [(2, .int (nI t)), (0, .ref 0), (1, .int w)]) (st' := [.int (-9), .int (nI t)]) (M' := M1) rfl ?_
      refine yR.if2 .ne _ _ _ _ rfl (fun q1 => ?_) (fun q1 => ?_)
      · refine yR.adv 1 (pc' := 27) (lv' := [(2, .int (nI t)), (0, .ref 0), (1, .int w)]) (st' := [.int w]) (M' := M1) rfl ?_
        refine yR.if1 .ne _ _ _ _ rfl (fun q2 => ?_) (fun q2 => ?_)
        · have q2' := zne_t q2
          refine yR.adv 2 (pc' := 42) (lv' := [(2, .int (nI t)), (0, .ref 0), (1, .int w)]) (st' := [.int (nI t), .retAddr 1]) (M' := M1) rfl ?_
          refine yR.fald t _ _ _ rfl rfl (by decide) (rfl) (show t < 28 from by omega) ?_
          rw [hpy]
          refine yR.ret _ rfl rfl rfl ?_
          exact ⟨by rw [t4, if_neg q2'], e1⟩
        · have q2' := zne_f q2
          refine yR.adv 2 (pc' := 34) (lv' := [(2, .int (nI t)), (0, .ref 0), (1, .int w)]) (st' := [.int (nI t), .retAddr 0]) (M' := M1) rfl ?_
          refine yR.fald t _ _ _ rfl rfl (by decide) (rfl) (show t < 28 from by omega) ?_
          rw [hpx]
          refine yR.adv 1 (pc' := 43) (lv' := [(2, .int (nI t)), (0, .ref 0), (1, .int w)]) (st' := [.int (nI (zpxN t))]) (M' := M1) rfl ?_
          refine yR.ret _ rfl rfl rfl ?_
          exact ⟨by rw [t4, if_pos q2'], e1⟩
      · exact absurd (zne_f q1) (nI_nm9 t (by omega))
    · skip
      refine yR.adv 1 (pc' := 13) (lv' := [(0, .ref 0), (1, .int w)]) (st' := [.ref 0]) (M' := M) rfl ?_
      refine yR.call _ rfl rfl rfl rfl rfl (m_fw M dom q W L hR (-9) (Or.inr ⟨t1, rfl⟩)) (fun r1 M1 hq => ?_)
      obtain ⟨rfl, e1⟩ := hq
      show yR 48 16 [(0, .ref 0), (1, .int w)] [.int (-9)] M1 _
      refine yR.adv 3 (pc' := 20) (lv' := [(2, .int (-9)), (0, .ref 0), (1, .int w)]) (st' := [.int (-9), .int (-9)]) (M' := M1) rfl ?_
      refine yR.if2 .ne _ _ _ _ rfl (fun q1 => ?_) (fun q1 => ?_)
      · exact absurd q1 (by decide)
      · refine yR.adv 1 (pc' := 25) (lv' := [(2, .int (-9)), (0, .ref 0), (1, .int w)]) (st' := [.int (-3)]) (M' := M1) rfl ?_
        refine yR.ret _ rfl rfl rfl ?_
        exact ⟨by rw [t2], e1⟩
  · exact absurd q0 (by decide)
-- the reference
def ztt (d a : Nat) : Nat := d * (d + 1) / 2 + (d - a)
theorem ztt_ok : ∀ d, d < 7 → ∀ a, a ≤ d → ztt d a < 28 ∧ zpxN (ztt d a) = a ∧ zpyN (ztt d a) = d - a := by decide
theorem ztt_of : ∀ t, t < 28 → ztt (zpxN t + zpyN t) (zpxN t) = t ∧ zpxN t + zpyN t < 7 := by decide
theorem ztt_s : ∀ d, d < 7 → ∀ a, a < d → ztt d a = ztt d (a + 1) + 1 := by decide
theorem ztt_d : ∀ d, d < 6 → ztt (d + 1) (d + 1) = ztt d 0 + 1 := by decide
theorem ztt_lt : ∀ t, t < 28 → ∀ s, s < 28 → (zpxN s + zpyN s < zpxN t + zpyN t → s < t) := by decide
theorem ztt_28 : ztt 6 0 = 27 := by decide
theorem r_degree_loop (M0 : zMm) (dom : Nat) (q W : Int) (L : zPl) (r : Int32) (hr : zdegV (fun t => zE0 dom q W L (zpxN t) (zpyN t)) r) : ∀ (c d : Nat) (M : zMm), d + c = 7 → (∀ k, k < d → ∀ a, a ≤ k → zE0 dom q W L a (k - a)) → zRr dom q W M L → zKp [] [(93, 2), (93, 3)] M0 M → yR 134 2 [(0, .ref 93), (1, .int (nI d))] [] M (fun r' N => r' = some (.int r) ∧ zKp [] [(93, 2), (93, 3)] M0 N) := by
  intro c
  induction c using Nat.strongRecOn with
  | ind c ih =>
    intro d M h hp hR hE
    -- the end, with what the degree is
    have fin : ∀ (M' : zMm), zKp [] [(93, 2), (93, 3)] M0 M' → (d = 7 ∨ (d < 7 ∧ ¬ ∀ a, a ≤ d → zE0 dom q W L a (d - a))) → yR 134 22 [(0, .ref 93), (1, .int (nI d))] [] M' (fun r' N => r' = some (.int r) ∧ zKp [] [(93, 2), (93, 3)] M0 N) := by
      intro M' hE' hd
      have hval : r = iI (if d = 0 then -9 else (d : Int) - 1) := by
        rcases hr with ⟨t, t1, t2, t3, t4⟩ | ⟨t1, t2⟩
        · obtain ⟨o1, o2⟩ := ztt_of t t1
          have hdt : d = zpxN t + zpyN t := by
            rcases Nat.lt_trichotomy d (zpxN t + zpyN t) with y | y | y
            · rcases hd with e | ⟨e1, e2⟩
              · omega
              · exfalso
                apply e2
                intro a ha
                obtain ⟨g1, g2, g3⟩ := ztt_ok d e1 a ha
                have this : zE0 dom q W L (zpxN (ztt d a)) (zpyN (ztt d a)) := t3 (ztt d a) (ztt_lt t t1 _ g1 (by rw [g2, g3]; omega))
                rwa [g2, g3] at this
            · exact y
            · have := hp _ y (zpxN t) (by omega)
              rw [show zpxN t + zpyN t - zpxN t = zpyN t by omega] at this
              exact absurd this t2
          rw [t4, hdt]
        · have hd7 : d = 7 := by
            rcases hd with e | ⟨e1, e2⟩
            · exact e
            · exfalso
              apply e2
              intro a ha
              obtain ⟨g1, g2, g3⟩ := ztt_ok d e1 a ha
              have this : zE0 dom q W L (zpxN (ztt d a)) (zpyN (ztt d a)) := t1 (ztt d a) g1
              rwa [g2, g3] at this
          rw [t2, hd7]
          rfl
      refine yR.adv 1 (pc' := 23) (lv' := [(0, .ref 93), (1, .int (nI d))]) (st' := [.int (nI d)]) (M' := M') rfl ?_
      refine yR.if1 .ne _ _ _ _ rfl (fun q2 => ?_) (fun q2 => ?_)
      · have q2' : ¬ (d : Int) = 0 := zcT q2 (nI_toInt (by omega)) rfl
        refine yR.adv 3 (pc' := 34) (lv' := [(0, .ref 93), (1, .int (nI d))]) (st' := [.int ((nI d) - 1)]) (M' := M') rfl ?_
        refine yR.ret _ rfl rfl rfl ?_
        refine ⟨?_, hE'⟩
        rw [hval, if_neg (by omega), nI_iI, ← iI_sub]
        rfl
      · have q2' : ¬ ¬ (d : Int) = 0 := zcF q2 (nI_toInt (by omega)) rfl
        refine yR.adv 2 (pc' := 34) (lv' := [(0, .ref 93), (1, .int (nI d))]) (st' := [.int (-9)]) (M' := M') rfl ?_
        refine yR.ret _ rfl rfl rfl ?_
        refine ⟨?_, hE'⟩
        rw [hval, if_pos (by omega)]
        rfl
    refine yR.adv 2 (pc' := 5) (lv' := [(0, .ref 93), (1, .int (nI d))]) (st' := [.int 6, .int (nI d)]) (M' := M) rfl ?_
    refine yR.if2 .gt _ _ _ _ rfl (fun q1 => ?_) (fun q1 => ?_)
    · have q1' : (6 : Int) < d := zcT q1 (nI_toInt (by omega)) rfl
      exact fin M hE (Or.inl (by omega))
    · have q1' : ¬ (6 : Int) < d := zcF q1 (nI_toInt (by omega)) rfl
      obtain ⟨v, hv⟩ := zem (∀ a, a ≤ d → zE0 dom q W L a (d - a))
      refine yR.adv 2 (pc' := 10) (lv' := [(0, .ref 93), (1, .int (nI d))]) (st' := [.int (nI d), .ref 93]) (M' := M) rfl ?_
      refine yR.call _ rfl rfl rfl rfl rfl (r_isRight M dom q W L hR d (by omega) v hv) (fun r1 M1 hq => ?_)
      obtain ⟨rfl, e1⟩ := hq
      show yR 134 13 [(0, .ref 93), (1, .int (nI d))] [.int v] M1 _
      refine yR.if1 .eq _ _ _ _ rfl (fun q2 => ?_) (fun q2 => ?_)
      · exact fin M1 (hE.trans e1) (Or.inr ⟨by omega, zeq0 hv q2⟩)
      · have q2' := zeq1 hv q2
        refine yR.adv 2 (pc' := 2) (lv' := [(1, .int (nI d + 1)), (0, .ref 93)]) (st' := []) (M' := M1) rfl ?_
        exact (ih (c - 1) (by omega) (d + 1) M1 (by omega) (fun k hk => if e : k = d then e ▸ q2' else hp k (by omega)) (e1.rr hR) (hE.trans e1)).drop (by refine ⟨?_, ?_⟩ <;> simp [zget, zwf, nI_succ])
theorem r_degree (M : zMm) (dom : Nat) (q W : Int) (L : zPl) (hR : zRr dom q W M L) (r : Int32) (hr : zdegV (fun t => zE0 dom q W L (zpxN t) (zpyN t)) r) : yR 134 0 [(0, .ref 93)] [] M (fun r' N => r' = some (.int r) ∧ zKp [] [(93, 2), (93, 3)] M N) := by
  refine yR.adv 2 (pc' := 2) (lv' := [(1, .int 0), (0, .ref 93)]) (st' := []) (M' := M) rfl ?_
  exact (r_degree_loop M dom q W L r hr 7 0 M rfl (fun k hk => absurd hk (by omega)) hR (zKp.refl _ _ _)).drop (by refine ⟨?_, ?_⟩ <;> simp [zget, zwf, nI_0])
theorem r_first_in {Q : Option Value → zMm → Prop} (M0 : zMm) (dom : Nat) (q W : Int) (L : zPl) (w r : Int32) (hr : zfstV (fun t => zE0 dom q W L (zpxN t) (zpyN t)) w r) (hQ : ∀ M', zKp [] [(93, 2), (93, 3)] M0 M' → Q (some (.int r)) M') (d : Nat) (hd : d < 7) (K : ∀ M', (∀ s, s ≤ ztt d 0 → zE0 dom q W L (zpxN s) (zpyN s)) → zRr dom q W M' L → zKp [] [(93, 2), (93, 3)] M0 M' → yR 135 62 [(0, .ref 93), (1, .int w), (2, .int (nI d))] [] M' Q) :
    ∀ (c : Nat) (M : zMm), c ≤ d + 1 → (∀ s, s < ztt d d + (d + 1 - c) → zE0 dom q W L (zpxN s) (zpyN s)) → zRr dom q W M L → zKp [] [(93, 2), (93, 3)] M0 M → yR 135 23 [(0, .ref 93), (1, .int w), (2, .int (nI d)), (3, .int (iI ((c : Int) - 1)))] [] M Q := by
  intro c
  induction c using Nat.strongRecOn with
  | ind c ih =>
    intro M hc hp hR hE
    refine yR.adv 1 (pc' := 24) (lv' := [(0, .ref 93), (1, .int w), (2, .int (nI d)), (3, .int (iI ((c : Int) - 1)))]) (st' := [.int (iI ((c : Int) - 1))]) (M' := M) rfl ?_
    refine yR.if1 .lt _ _ _ _ rfl (fun q1 => ?_) (fun q1 => ?_)
    · have q1' : (c : Int) - 1 < 0 := zcT q1 (iI_toInt (by omega)) rfl
      have hc0 : c = 0 := by omega
      subst hc0
      exact (K M (fun s hs => hp s (by
        have h1 : ztt d 0 = d * (d + 1) / 2 + d := by unfold ztt; omega
        have h2 : ztt d d = d * (d + 1) / 2 := by unfold ztt; omega
        omega)) hR hE).drop (by refine ⟨?_, ?_⟩ <;> simp [zget, zwf])
    · have q1' : ¬ (c : Int) - 1 < 0 := zcF q1 (iI_toInt (by omega)) rfl
      obtain ⟨a, rfl⟩ : ∃ a, c = a + 1 := ⟨c - 1, by omega⟩
      have hi : iI (((a + 1 : Nat) : Int) - 1) = nI a := by rw [nI_iI]; congr 1; omega
      rw [hi]
      refine yR.adv 5 (pc' := 32) (lv' := [(0, .ref 93), (1, .int w), (2, .int (nI d)), (3, .int (nI a))]) (st' := [.int ((nI d) - (nI a)), .int (nI a), .ref 93]) (M' := M) rfl ?_
      have hs : nI d - nI a = nI (d - a) := by rw [nI_iI, nI_iI, nI_iI, iI_sub]; congr 1; omega
      rw [hs]
      obtain ⟨g1, g2, g3⟩ := ztt_ok d hd a (by omega)
      have gt : ztt d a = ztt d d + (d - a) := by unfold ztt; omega
      refine yR.call _ rfl rfl rfl rfl rfl (r_errE M dom q W L hR a (d - a) (by omega)) (fun r1 M1 hq => ?_)
      obtain ⟨rfl, h1, e1⟩ := hq
      show yR 135 35 [(0, .ref 93), (1, .int w), (2, .int (nI d)), (3, .int (nI a))] [] M1 _
      refine yR.adv 4 (pc' := 41) (lv' := [(0, .ref 93), (1, .int w), (2, .int (nI d)), (3, .int (nI a))]) (st' := [.int (lg_cmp (M1.2 93 2) 0)]) (M' := M1) rfl ?_
      refine yR.if1 .eq _ _ _ _ rfl (fun q2 => ?_) (fun q2 => ?_)
      · have q2' : M1.2 93 2 = 0 := Int64.toInt_inj.mp (zlT q2 rfl rfl)
        have hz := h1.mp q2'
        refine yR.adv 2 (pc' := 23) (lv' := [(3, .int (nI a + (-1))), (0, .ref 93), (1, .int w), (2, .int (nI d))]) (st' := []) (M' := M1) rfl ?_
        have K2 := ih a (by omega) M1 (by omega) (fun s hs2 => if e : s = ztt d a then by rw [e, g2, g3]; exact hz else hp s (by omega)) (e1.rr hR) (hE.trans e1)
        rw [nI_iI a, iI_m1]
        exact (K2).drop (by refine ⟨?_, ?_⟩ <;> simp [zget, zwf, nI_succ])
      · have q2' : ¬ M1.2 93 2 = 0 := fun e => zlF q2 rfl rfl (by rw [e]; rfl)
        have hnt : ¬ zE0 dom q W L (zpxN (ztt d a)) (zpyN (ztt d a)) := fun z => q2' (h1.mpr (by rw [g2, g3] at z; exact z))
        have hv0 : r = nI (if w = 0 then a else d - a) := hr.elim (fun ⟨t', z1, z2, z3, z4⟩ => by
          have : t' = ztt d a := by
            rcases Nat.lt_trichotomy t' (ztt d a) with y | y | y
            · exact absurd (hp t' (by omega)) z2
            · exact y
            · exact absurd (z3 _ y) hnt
          rw [z4, this, g2, g3]) (fun z => absurd (z.1 _ g1) hnt)
        refine yR.adv 1 (pc' := 45) (lv' := [(0, .ref 93), (1, .int w), (2, .int (nI d)), (3, .int (nI a))]) (st' := [.int w]) (M' := M1) rfl ?_
        refine yR.if1 .ne _ _ _ _ rfl (fun q3 => ?_) (fun q3 => ?_)
        · have q3' := zne_t q3
          refine yR.adv 3 (pc' := 55) (lv' := [(0, .ref 93), (1, .int w), (2, .int (nI d)), (3, .int (nI a))]) (st' := [.int ((nI d) - (nI a))]) (M' := M1) rfl ?_
          rw [hs]
          refine yR.ret _ rfl rfl rfl ?_
          rw [if_neg q3'] at hv0
          rw [← hv0]
          exact hQ M1 (hE.trans e1)
        · have q3' := zne_f q3
          refine yR.adv 2 (pc' := 55) (lv' := [(0, .ref 93), (1, .int w), (2, .int (nI d)), (3, .int (nI a))]) (st' := [.int (nI a)]) (M' := M1) rfl ?_
          refine yR.ret _ rfl rfl rfl ?_
          rw [if_pos q3'] at hv0
          rw [← hv0]
          exact hQ M1 (hE.trans e1)
theorem r_first_out (M0 : zMm) (dom : Nat) (q W : Int) (L : zPl) (w r : Int32) (hr : zfstV (fun t => zE0 dom q W L (zpxN t) (zpyN t)) w r) : ∀ (c d : Nat) (M : zMm), d + c = 7 → (∀ s, s < d * (d + 1) / 2 → zE0 dom q W L (zpxN s) (zpyN s)) → zRr dom q W M L → zKp [] [(93, 2), (93, 3)] M0 M → yR 135 15 [(0, .ref 93), (1, .int w), (2, .int (nI d))] [] M (fun r' N => r' = some (.int r) ∧ zKp [] [(93, 2), (93, 3)] M0 N) := by
  intro c
  induction c using Nat.strongRecOn with
  | ind c ih =>
    intro d M h hp hR hE
    refine yR.adv 2 (pc' := 18) (lv' := [(0, .ref 93), (1, .int w), (2, .int (nI d))]) (st' := [.int 6, .int (nI d)]) (M' := M) rfl ?_
    refine yR.if2 .gt _ _ _ _ rfl (fun q1 => ?_) (fun q1 => ?_)
    · have q1' : (6 : Int) < d := zcT q1 (nI_toInt (by omega)) rfl
      have hd7 : d = 7 := by omega
      rw [hd7] at hp
      have hv0 : r = -3 := hr.elim (fun ⟨t', z1, z2, _⟩ => absurd (hp t' (by omega)) z2) (fun z => z.2)
      refine yR.adv 1 (pc' := 70) (lv' := [(0, .ref 93), (1, .int w), (2, .int (nI d))]) (st' := [.int (-3)]) (M' := M) rfl ?_
      refine yR.ret _ rfl rfl rfl ?_
      exact ⟨by rw [hv0], hE⟩
    · have q1' : ¬ (6 : Int) < d := zcF q1 (nI_toInt (by omega)) rfl
      refine yR.adv 2 (pc' := 23) (lv' := [(3, .int (nI d)), (0, .ref 93), (1, .int w), (2, .int (nI d))]) (st' := []) (M' := M) rfl ?_
      have hi : nI d = iI (((d + 1 : Nat) : Int) - 1) := by rw [nI_iI]; congr 1; omega
      refine yR.drop (lv := [(0, .ref 93), (1, .int w), (2, .int (nI d)), (3, .int (iI (((d + 1 : Nat) : Int) - 1)))]) (by refine ⟨?_, ?_⟩ <;> simp [zget, zwf, hi]) ?_
      refine r_first_in M0 dom q W L w r hr (fun M' hE' => ⟨rfl, hE'⟩) d (by omega) (fun M' hp' hR' hE' => ?_) (d + 1) M (by omega) (fun s hs => hp s (by
        have h2 : ztt d d = d * (d + 1) / 2 := by unfold ztt; omega
        omega)) hR hE
      refine yR.adv 2 (pc' := 15) (lv' := [(2, .int (nI d + 1)), (0, .ref 93), (1, .int w)]) (st' := []) (M' := M') rfl ?_
      have K := ih (c - 1) (by omega) (d + 1) M' (by omega) (fun s hs => hp' s (by
        have h1 : ztt d 0 = d * (d + 1) / 2 + d := by unfold ztt; omega
        have h2 : (d + 1) * (d + 1 + 1) / 2 = d * (d + 1) / 2 + (d + 1) := by
          have : (d + 1) * (d + 1 + 1) = d * (d + 1) + 2 * (d + 1) := by rw [Nat.mul_comm, ← Nat.add_mul]
          omega
        omega)) hR' hE'
      exact (K).drop (by refine ⟨?_, ?_⟩ <;> simp [zget, zwf, nI_succ])
theorem r_first_no (M : zMm) (w : Int32) (h : ¬ (0 ≤ w.toInt ∧ w.toInt ≤ 1)) : yOk 135 0 [(0, .ref 93), (1, .int w)] [] M (some (.int (-2))) M := by
  refine yR.ok ?_
  refine yR.adv 4 (pc' := 4) (lv' := [(0, .ref 93), (1, .int w)]) (st' := [.long 1, .long 0, .long w.toInt64]) (M' := M) rfl ?_
  refine yR.callK (M1 := M) _ rfl rfl rfl rfl rfl (r_withinV M w.toInt64 0 1 0 1 rfl rfl 0 (Or.inr ⟨by rw [Int32.toInt_toInt64]; exact h, rfl⟩)) ?_
  show yR 135 7 [(0, .ref 93), (1, .int w)] [.int 0] M _
  refine yR.if1 .ne _ _ _ _ rfl (fun q1 => ?_) (fun q1 => ?_)
  · exact absurd q1 (by decide)
  · refine yR.adv 1 (pc' := 12) (lv' := [(0, .ref 93), (1, .int w)]) (st' := [.int (-2)]) (M' := M) rfl ?_
    refine yR.ret _ rfl rfl rfl ?_
    exact ⟨rfl, rfl⟩
theorem r_first (M : zMm) (dom : Nat) (q W : Int) (L : zPl) (hR : zRr dom q W M L) (w : Int32) (hw : 0 ≤ w.toInt ∧ w.toInt ≤ 1) (r : Int32) (hr : zfstV (fun t => zE0 dom q W L (zpxN t) (zpyN t)) w r) : yR 135 0 [(0, .ref 93), (1, .int w)] [] M (fun r' N => r' = some (.int r) ∧ zKp [] [(93, 2), (93, 3)] M N) := by
  refine yR.adv 4 (pc' := 4) (lv' := [(0, .ref 93), (1, .int w)]) (st' := [.long 1, .long 0, .long w.toInt64]) (M' := M) rfl ?_
  refine yR.callK (M1 := M) _ rfl rfl rfl rfl rfl (r_withinV M w.toInt64 0 1 0 1 rfl rfl 1 (Or.inl ⟨by rw [Int32.toInt_toInt64]; exact hw, rfl⟩)) ?_
  show yR 135 7 [(0, .ref 93), (1, .int w)] [.int 1] M _
  refine yR.if1 .ne _ _ _ _ rfl (fun q1 => ?_) (fun q1 => ?_)
  · refine yR.adv 2 (pc' := 15) (lv' := [(2, .int 0), (0, .ref 93), (1, .int w)]) (st' := []) (M' := M) rfl ?_
    exact (r_first_out M dom q W L w r hr 7 0 M rfl (fun s hs => absurd hs (by omega)) hR (zKp.refl _ _ _)).drop (by refine ⟨?_, ?_⟩ <;> simp [zget, zwf, nI_0])
  · exact absurd q1 (by decide)
