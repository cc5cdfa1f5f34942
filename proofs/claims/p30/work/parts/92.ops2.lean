/-! ===== the other calls keep it ===== -/
theorem zcpm_i (M : zMm) (a0 sp a dp n a' i' : Nat) : (zcpm M a0 sp a dp n).1 a' i' = if a' = a ∧ dp ≤ i' ∧ i' < dp + n then M.1 a0 (sp + (i' - dp)) else M.1 a' i' := rfl
theorem zkpM_i (M : zMm) (o i a j : Nat) : (zkpM M o i).1 a j = if (a = 107 ∨ a = 108 ∨ a = 109) ∧ o ≤ j ∧ j < o + i then M.1 (a - 13) (j - o) else M.1 a j := rfl
theorem zldM_i (M : zMm) (o i a j : Nat) : (zldM M o i).1 a j = if (a = 94 ∨ a = 95 ∨ a = 96) ∧ j < i then M.1 (a + 13) (o + j) else M.1 a j := rfl
theorem zfil_i (M : zMm) (a n : Nat) (x : Int32) (a' i' : Nat) : (zfil M a n x).1 a' i' = if a' = a ∧ i' < n then x else M.1 a' i' := rfl
theorem zfilR_i (M : zMm) (a o n : Nat) (x : Int32) (a' i' : Nat) : (zfilR M a o n x).1 a' i' = if a' = a ∧ o ≤ i' ∧ i' < o + n then x else M.1 a' i' := rfl
theorem zInv.kpt {M N : zMm} (h : zInv M) (K : Nat) (hK : K < 6) (e : ∀ a i, ¬ (a = 55 ∧ i = K) → ¬ (61 + 4 * K ≤ a ∧ a ≤ 64 + 4 * K) → ¬ (103 ≤ a ∧ a ≤ 106 ∧ i = K) → ¬ (107 ≤ a ∧ a ≤ 109 ∧ 24 * K ≤ i ∧ i < 24 * K + 24) → N.1 a i = M.1 a i) (hs : zKpt N K) : zInv N := by
  refine ⟨(by obtain ⟨dom, q, W, L, hm, hr⟩ := h.1; exact ⟨dom, q, W, L, hm.keep (fun a i z1 z2 => e _ _ (by omega) (by omega) (by omega) (by omega)), hr.keep (fun i z1 z2 => e _ _ (by omega) (by omega) (by omega) (by omega)) (fun a i z1 z2 => e _ _ (by omega) (by omega) (by omega) (by omega))⟩), fun k hk => ?_, (fun k hk => (h.2.2.1 k hk).keep (fun a i z1 z2 => e _ _ (by omega) (by omega) (by omega) (by omega)) (fun a z1 z2 => e _ _ (by omega) (by omega) (by omega) (by omega)) (fun i hi => e _ _ (by omega) (by omega) (by omega) (by omega))), (h.2.2.2.1.keep (fun t => e _ _ (by omega) (by omega) (by omega) (by omega)) (fun t => e _ _ (by omega) (by omega) (by omega) (by omega))), (by rw [e 0 13 (by omega) (by omega) (by omega) (by omega), e 93 1 (by omega) (by omega) (by omega) (by omega)]; exact h.2.2.2.2)⟩
  by_cases hz : k = K
  · rw [hz]; exact hs
  · exact (h.2.1 k hk).keep (e _ _ (by omega) (by omega) (by omega) (by omega)) (fun a i z1 z2 => e _ _ (by omega) (by omega) (by omega) (by omega)) (fun a z1 z2 => e _ _ (by omega) (by omega) (by omega) (by omega)) (fun a p z1 z2 z3 => e _ _ (by omega) (by omega) (by omega) (by omega))
theorem zInv.sht {M N : zMm} (h : zInv M) (K : Nat) (hK : K < 4) (e : ∀ a i, ¬ (a = 0 ∧ i = 14) → ¬ (a = 93 ∧ i = 0) → ¬ (85 + 2 * K ≤ a ∧ a ≤ 86 + 2 * K) → ¬ ((a = 99 ∨ a = 100) ∧ i = K) → ¬ (a = 101 ∧ 72 * K ≤ i ∧ i < 72 * K + 72) → N.1 a i = M.1 a i) (hs : zSht N K) : zInv N := by
  refine ⟨(by obtain ⟨dom, q, W, L, hm, hr⟩ := h.1; exact ⟨dom, q, W, L, hm.keep (fun a i z1 z2 => e _ _ (by omega) (by omega) (by omega) (by omega) (by omega)), hr.keep (fun i z1 z2 => e _ _ (by omega) (by omega) (by omega) (by omega) (by omega)) (fun a i z1 z2 => e _ _ (by omega) (by omega) (by omega) (by omega) (by omega))⟩), (fun k hk => (h.2.1 k hk).keep (e _ _ (by omega) (by omega) (by omega) (by omega) (by omega)) (fun a i z1 z2 => e _ _ (by omega) (by omega) (by omega) (by omega) (by omega)) (fun a z1 z2 => e _ _ (by omega) (by omega) (by omega) (by omega) (by omega)) (fun a p z1 z2 z3 => e _ _ (by omega) (by omega) (by omega) (by omega) (by omega))), fun k hk => ?_, (h.2.2.2.1.keep (fun t => e _ _ (by omega) (by omega) (by omega) (by omega) (by omega)) (fun t => e _ _ (by omega) (by omega) (by omega) (by omega) (by omega))), (by rw [e 0 13 (by omega) (by omega) (by omega) (by omega) (by omega), e 93 1 (by omega) (by omega) (by omega) (by omega) (by omega)]; exact h.2.2.2.2)⟩
  by_cases hz : k = K
  · rw [hz]; exact hs
  · exact (h.2.2.1 k hk).keep (fun a i z1 z2 => e _ _ (by omega) (by omega) (by omega) (by omega) (by omega)) (fun a z1 z2 => e _ _ (by omega) (by omega) (by omega) (by omega) (by omega)) (fun i hi => e _ _ (by omega) (by omega) (by omega) (by omega) (by omega))
theorem zInv.trc {M N : zMm} (h : zInv M) (e : ∀ a i, ¬ (a = 0 ∧ i = 13) → ¬ (a = 93 ∧ (i = 1 ∨ i = 13)) → ¬ (9 ≤ a ∧ a ≤ 11) → ¬ (a = 97 ∨ a = 98) → N.1 a i = M.1 a i) (hs : N.1 0 13 = N.1 93 1) : zInv N := ⟨(by obtain ⟨dom, q, W, L, hm, hr⟩ := h.1; exact ⟨dom, q, W, L, hm.keep (fun a i z1 z2 => e _ _ (by omega) (by omega) (by omega) (by omega)), hr.keep (fun i z1 z2 => e _ _ (by omega) (by omega) (by omega) (by omega)) (fun a i z1 z2 => e _ _ (by omega) (by omega) (by omega) (by omega))⟩), (fun k hk => (h.2.1 k hk).keep (e _ _ (by omega) (by omega) (by omega) (by omega)) (fun a i z1 z2 => e _ _ (by omega) (by omega) (by omega) (by omega)) (fun a z1 z2 => e _ _ (by omega) (by omega) (by omega) (by omega)) (fun a p z1 z2 z3 => e _ _ (by omega) (by omega) (by omega) (by omega))), (fun k hk => (h.2.2.1 k hk).keep (fun a i z1 z2 => e _ _ (by omega) (by omega) (by omega) (by omega)) (fun a z1 z2 => e _ _ (by omega) (by omega) (by omega) (by omega)) (fun i hi => e _ _ (by omega) (by omega) (by omega) (by omega))), (h.2.2.2.1.keep (fun t => e _ _ (by omega) (by omega) (by omega) (by omega)) (fun t => e _ _ (by omega) (by omega) (by omega) (by omega))), hs⟩
theorem zInv.trm {M N : zMm} (h : zInv M) (e : ∀ a i, ¬ a = 56 → ¬ a = 117 → N.1 a i = M.1 a i) (hs : zTrm N) : zInv N := ⟨(by obtain ⟨dom, q, W, L, hm, hr⟩ := h.1; exact ⟨dom, q, W, L, hm.keep (fun a i z1 z2 => e _ _ (by omega) (by omega)), hr.keep (fun i z1 z2 => e _ _ (by omega) (by omega)) (fun a i z1 z2 => e _ _ (by omega) (by omega))⟩), (fun k hk => (h.2.1 k hk).keep (e _ _ (by omega) (by omega)) (fun a i z1 z2 => e _ _ (by omega) (by omega)) (fun a z1 z2 => e _ _ (by omega) (by omega)) (fun a p z1 z2 z3 => e _ _ (by omega) (by omega))), (fun k hk => (h.2.2.1 k hk).keep (fun a i z1 z2 => e _ _ (by omega) (by omega)) (fun a z1 z2 => e _ _ (by omega) (by omega)) (fun i hi => e _ _ (by omega) (by omega))), hs, (by rw [e 0 13 (by omega) (by omega), e 93 1 (by omega) (by omega)]; exact h.2.2.2.2)⟩
theorem zkC {M M1 : zMm} (b K n : Nat) (v : Int32) (hb : 61 ≤ b ∧ b ≤ 81) (g : zup (zcpm (zcpm (zcpm (zup (zup (zup (zup (zup M b 0 (M.1 1 0)) b 1 (M.1 1 1)) b 2 (M.1 1 2)) b 3 0) b 3 (nI n)) 2 0 (b + 1) 0 n) 3 0 (b + 2) 0 n) 4 0 (b + 3) 0 n) 55 K v = M1) : (∀ a i, ¬ (a = 55 ∧ i = K) → ¬ (b ≤ a ∧ a ≤ b + 3) → M1.1 a i = M.1 a i) ∧ M1.1 55 K = v ∧ M1.1 b 0 = M.1 1 0 ∧ M1.1 b 1 = M.1 1 1 ∧ M1.1 b 2 = M.1 1 2 ∧ M1.1 b 3 = nI n ∧ ∀ p, p < n → M1.1 (b + 1) p = M.1 2 p ∧ M1.1 (b + 2) p = M.1 3 p ∧ M1.1 (b + 3) p = M.1 4 p := by
  subst g
  refine ⟨fun a i h1 h2 => ?_, ?_, ?_, ?_, ?_, ?_, fun p hp => ⟨?_, ?_, ?_⟩⟩
  all_goals (repeat (first | rw [zup_i, if_neg (by omega)] | rw [zup_i, if_pos (by omega)] | rw [zcpm_i, if_neg (by omega)] | rw [zcpm_i, if_pos (by omega)] | rw [zkpM_i, if_neg (by omega)] | rw [zkpM_i, if_pos (by omega)] | rw [zldM_i, if_neg (by omega)] | rw [zldM_i, if_pos (by omega)] | rw [zfil_i, if_neg (by omega)] | rw [zfil_i, if_pos (by omega)] | rw [zfilR_i, if_neg (by omega)] | rw [zfilR_i, if_pos (by omega)]))
  all_goals first | done | (simp only [Nat.zero_add, Nat.sub_zero]; (repeat (first | rw [zup_i, if_neg (by omega)] | rw [zup_i, if_pos (by omega)] | rw [zcpm_i, if_neg (by omega)] | rw [zcpm_i, if_pos (by omega)] | rw [zkpM_i, if_neg (by omega)] | rw [zkpM_i, if_pos (by omega)] | rw [zldM_i, if_neg (by omega)] | rw [zldM_i, if_pos (by omega)] | rw [zfil_i, if_neg (by omega)] | rw [zfil_i, if_pos (by omega)] | rw [zfilR_i, if_neg (by omega)] | rw [zfilR_i, if_pos (by omega)])))
theorem zkR {M M1 : zMm} (K n : Nat) (hn : n ≤ 24) (g : zkpM (zup (zup (zup (zup M 103 K (nI n)) 104 K (M.1 93 4)) 105 K (M.1 93 5)) 106 K (M.1 93 6)) (24 * K) n = M1) : (∀ a i, ¬ (103 ≤ a ∧ a ≤ 106 ∧ i = K) → ¬ (107 ≤ a ∧ a ≤ 109 ∧ 24 * K ≤ i ∧ i < 24 * K + 24) → M1.1 a i = M.1 a i) ∧ M1.1 103 K = nI n ∧ M1.1 104 K = M.1 93 4 ∧ M1.1 105 K = M.1 93 5 ∧ M1.1 106 K = M.1 93 6 ∧ ∀ p, p < n → M1.1 107 (24 * K + p) = M.1 94 p ∧ M1.1 108 (24 * K + p) = M.1 95 p ∧ M1.1 109 (24 * K + p) = M.1 96 p := by
  subst g
  refine ⟨fun a i h1 h2 => ?_, ?_, ?_, ?_, ?_, fun p hp => ⟨?_, ?_, ?_⟩⟩
  all_goals (repeat (first | rw [zup_i, if_neg (by omega)] | rw [zup_i, if_pos (by omega)] | rw [zcpm_i, if_neg (by omega)] | rw [zcpm_i, if_pos (by omega)] | rw [zkpM_i, if_neg (by omega)] | rw [zkpM_i, if_pos (by omega)] | rw [zldM_i, if_neg (by omega)] | rw [zldM_i, if_pos (by omega)] | rw [zfil_i, if_neg (by omega)] | rw [zfil_i, if_pos (by omega)] | rw [zfilR_i, if_neg (by omega)] | rw [zfilR_i, if_pos (by omega)]))
  all_goals first | done | (simp only [Nat.add_sub_cancel_left]; (repeat (first | rw [zup_i, if_neg (by omega)] | rw [zup_i, if_pos (by omega)] | rw [zcpm_i, if_neg (by omega)] | rw [zcpm_i, if_pos (by omega)] | rw [zkpM_i, if_neg (by omega)] | rw [zkpM_i, if_pos (by omega)] | rw [zldM_i, if_neg (by omega)] | rw [zldM_i, if_pos (by omega)] | rw [zfil_i, if_neg (by omega)] | rw [zfil_i, if_pos (by omega)] | rw [zfilR_i, if_neg (by omega)] | rw [zfilR_i, if_pos (by omega)])))
theorem zkeepI {M M1 M2 : zMm} (h : zInv M) (dom : Nat) (q W : Int) (L : zPl) (hm : zRm dom q W M L) (hr : zRr dom q W M L) (b K : Nat) (hK : K < 6) (hb : b = 61 + 4 * K) (v : Int32) (hv : ¬ v = 0) (g1 : zup (zcpm (zcpm (zcpm (zup (zup (zup (zup (zup M b 0 (M.1 1 0)) b 1 (M.1 1 1)) b 2 (M.1 1 2)) b 3 0) b 3 (nI L.length)) 2 0 (b + 1) 0 L.length) 3 0 (b + 2) 0 L.length) 4 0 (b + 3) 0 L.length) 55 K v = M1) (g2 : zkpM (zup (zup (zup (zup M1 103 K (nI L.length)) 104 K (M1.1 93 4)) 105 K (M1.1 93 5)) 106 K (M1.1 93 6)) (24 * K) L.length = M2) : zInv M2 := by
  obtain ⟨c1, c2, c3, c4, c5, c6, c7⟩ := zkC b K L.length v (by omega) g1
  obtain ⟨d1, d2, d3, d4, d5, d6⟩ := zkR K L.length hm.1.2.1 g2
  subst hb
  refine h.kpt K hK (fun a i z1 z2 z3 z4 => (d1 a i z3 z4).trans (c1 a i z1 (by omega))) (Or.inr ⟨?_, dom, q, W, L, ⟨?_, hm.1.2.1, fun p e hp => ?_⟩, hm.2.1, ?_, ?_, ?_, hm.2.2.2.2.2, d2, ?_, ?_, ?_, fun p e hp => ?_⟩)
  · rw [d1 _ _ (by omega) (by omega), c2]; exact hv
  · rw [d1 _ _ (by omega) (by omega)]; exact c6
  · have hl := (List.getElem?_eq_some_iff.mp hp).1
    rw [d1 _ _ (by omega) (by omega), d1 _ _ (by omega) (by omega), d1 _ _ (by omega) (by omega)]
    obtain ⟨x1, x2, x3⟩ := c7 p hl
    obtain ⟨w1, w2, w3⟩ := hm.1.2.2 p e hp
    rw [show 62 + 4 * K = 61 + 4 * K + 1 from by omega, show 63 + 4 * K = 61 + 4 * K + 2 from by omega, show 64 + 4 * K = 61 + 4 * K + 3 from by omega]
    exact ⟨x1.trans w1, x2.trans w2, x3.trans w3⟩
  · rw [d1 _ _ (by omega) (by omega), c3]; exact hm.2.2.1
  · rw [d1 _ _ (by omega) (by omega), c4]; exact hm.2.2.2.1
  · rw [d1 _ _ (by omega) (by omega), c5]; exact hm.2.2.2.2.1
  · rw [d3, c1 _ _ (by omega) (by omega)]; exact hr.2.2.1
  · rw [d4, c1 _ _ (by omega) (by omega)]; exact hr.2.2.2.1
  · rw [d5, c1 _ _ (by omega) (by omega)]; exact hr.2.2.2.2.1
  · have hl := (List.getElem?_eq_some_iff.mp hp).1
    obtain ⟨x1, x2, x3⟩ := d6 p hl
    obtain ⟨w1, w2, w3⟩ := hr.1.2.2 p e hp
    rw [x1, x2, x3, c1 _ _ (by omega) (by omega), c1 _ _ (by omega) (by omega), c1 _ _ (by omega) (by omega)]
    exact ⟨w1, w2, w3⟩
theorem zop13 (M : zMm) (hI : zInv M) (k : Int32) : zopI2 51 139 [.int k] M := by
  obtain ⟨dom, q, W, L, hm, hr⟩ := hI.1
  by_cases h : 0 ≤ k.toInt ∧ k.toInt ≤ 5
  · rcases zcases6 k h with rfl | rfl | rfl | rfl | rfl | rfl
    · have y1 := m_keep_0 M L.length hm.1.1 hm.1.2.1
      generalize g1 : zup (zcpm (zcpm (zcpm (zup (zup (zup (zup (zup M 61 0 (M.1 1 0)) 61 1 (M.1 1 1)) 61 2 (M.1 1 2)) 61 3 0) 61 3 (nI L.length)) 2 0 62 0 L.length) 3 0 63 0 L.length) 4 0 64 0 L.length) 55 0 (vp_nar .boolean 1) = M1 at y1
      have y2 := r_keep_0 M1 L.length (by rw [(zkC 61 0 L.length _ (by omega) g1).1 _ _ (by omega) (by omega)]; exact hr.1.1) hm.1.2.1
      exact ⟨_, M1, _, y1, y2, zkeepI hI dom q W L hm hr 61 0 (by omega) rfl (vp_nar .boolean 1) (by decide) g1 rfl⟩
    · have y1 := m_keep_1 M L.length hm.1.1 hm.1.2.1
      generalize g1 : zup (zcpm (zcpm (zcpm (zup (zup (zup (zup (zup M 65 0 (M.1 1 0)) 65 1 (M.1 1 1)) 65 2 (M.1 1 2)) 65 3 0) 65 3 (nI L.length)) 2 0 66 0 L.length) 3 0 67 0 L.length) 4 0 68 0 L.length) 55 1 (vp_nar .boolean 1) = M1 at y1
      have y2 := r_keep_1 M1 L.length (by rw [(zkC 65 1 L.length _ (by omega) g1).1 _ _ (by omega) (by omega)]; exact hr.1.1) hm.1.2.1
      exact ⟨_, M1, _, y1, y2, zkeepI hI dom q W L hm hr 65 1 (by omega) rfl (vp_nar .boolean 1) (by decide) g1 rfl⟩
    · have y1 := m_keep_2 M L.length hm.1.1 hm.1.2.1
      generalize g1 : zup (zcpm (zcpm (zcpm (zup (zup (zup (zup (zup M 69 0 (M.1 1 0)) 69 1 (M.1 1 1)) 69 2 (M.1 1 2)) 69 3 0) 69 3 (nI L.length)) 2 0 70 0 L.length) 3 0 71 0 L.length) 4 0 72 0 L.length) 55 2 (vp_nar .boolean 1) = M1 at y1
      have y2 := r_keep_2 M1 L.length (by rw [(zkC 69 2 L.length _ (by omega) g1).1 _ _ (by omega) (by omega)]; exact hr.1.1) hm.1.2.1
      exact ⟨_, M1, _, y1, y2, zkeepI hI dom q W L hm hr 69 2 (by omega) rfl (vp_nar .boolean 1) (by decide) g1 rfl⟩
    · have y1 := m_keep_3 M L.length hm.1.1 hm.1.2.1
      generalize g1 : zup (zcpm (zcpm (zcpm (zup (zup (zup (zup (zup M 73 0 (M.1 1 0)) 73 1 (M.1 1 1)) 73 2 (M.1 1 2)) 73 3 0) 73 3 (nI L.length)) 2 0 74 0 L.length) 3 0 75 0 L.length) 4 0 76 0 L.length) 55 3 (vp_nar .boolean 1) = M1 at y1
      have y2 := r_keep_3 M1 L.length (by rw [(zkC 73 3 L.length _ (by omega) g1).1 _ _ (by omega) (by omega)]; exact hr.1.1) hm.1.2.1
      exact ⟨_, M1, _, y1, y2, zkeepI hI dom q W L hm hr 73 3 (by omega) rfl (vp_nar .boolean 1) (by decide) g1 rfl⟩
    · have y1 := m_keep_4 M L.length hm.1.1 hm.1.2.1
      generalize g1 : zup (zcpm (zcpm (zcpm (zup (zup (zup (zup (zup M 77 0 (M.1 1 0)) 77 1 (M.1 1 1)) 77 2 (M.1 1 2)) 77 3 0) 77 3 (nI L.length)) 2 0 78 0 L.length) 3 0 79 0 L.length) 4 0 80 0 L.length) 55 4 (vp_nar .boolean 1) = M1 at y1
      have y2 := r_keep_4 M1 L.length (by rw [(zkC 77 4 L.length _ (by omega) g1).1 _ _ (by omega) (by omega)]; exact hr.1.1) hm.1.2.1
      exact ⟨_, M1, _, y1, y2, zkeepI hI dom q W L hm hr 77 4 (by omega) rfl (vp_nar .boolean 1) (by decide) g1 rfl⟩
    · have y1 := m_keep_5 M L.length hm.1.1 hm.1.2.1
      generalize g1 : zup (zcpm (zcpm (zcpm (zup (zup (zup (zup (zup M 81 0 (M.1 1 0)) 81 1 (M.1 1 1)) 81 2 (M.1 1 2)) 81 3 0) 81 3 (nI L.length)) 2 0 82 0 L.length) 3 0 83 0 L.length) 4 0 84 0 L.length) 55 5 (vp_nar .boolean 1) = M1 at y1
      have y2 := r_keep_5 M1 L.length (by rw [(zkC 81 5 L.length _ (by omega) g1).1 _ _ (by omega) (by omega)]; exact hr.1.1) hm.1.2.1
      exact ⟨_, M1, _, y1, y2, zkeepI hI dom q W L hm hr 81 5 (by omega) rfl (vp_nar .boolean 1) (by decide) g1 rfl⟩
  · exact ⟨-1, M, M, m_keep_no M k h, r_keep_no M k h, hI⟩
theorem zlC {M M1 : zMm} (b n : Nat) (hb : 61 ≤ b ∧ b ≤ 81) (g : zcpm (zcpm (zcpm (zup (zup (zup (zup (zup M 1 0 (M.1 b 0)) 1 1 (M.1 b 1)) 1 2 (M.1 b 2)) 1 3 0) 1 3 (nI n)) (b + 1) 0 2 0 n) (b + 2) 0 3 0 n) (b + 3) 0 4 0 n = M1) : zKp [1, 2, 3, 4] [] M M1 ∧ M1.1 1 0 = M.1 b 0 ∧ M1.1 1 1 = M.1 b 1 ∧ M1.1 1 2 = M.1 b 2 ∧ M1.1 1 3 = nI n ∧ ∀ p, p < n → M1.1 2 p = M.1 (b + 1) p ∧ M1.1 3 p = M.1 (b + 2) p ∧ M1.1 4 p = M.1 (b + 3) p := by
  subst g
  refine ⟨fun a i h1 h2 => ⟨?_, rfl⟩, ?_, ?_, ?_, ?_, fun p hp => ⟨?_, ?_, ?_⟩⟩
  · simp at h1
    (repeat (first | rw [zup_i, if_neg (by omega)] | rw [zup_i, if_pos (by omega)] | rw [zcpm_i, if_neg (by omega)] | rw [zcpm_i, if_pos (by omega)] | rw [zkpM_i, if_neg (by omega)] | rw [zkpM_i, if_pos (by omega)] | rw [zldM_i, if_neg (by omega)] | rw [zldM_i, if_pos (by omega)] | rw [zfil_i, if_neg (by omega)] | rw [zfil_i, if_pos (by omega)] | rw [zfilR_i, if_neg (by omega)] | rw [zfilR_i, if_pos (by omega)]))
  all_goals (repeat (first | rw [zup_i, if_neg (by omega)] | rw [zup_i, if_pos (by omega)] | rw [zcpm_i, if_neg (by omega)] | rw [zcpm_i, if_pos (by omega)] | rw [zkpM_i, if_neg (by omega)] | rw [zkpM_i, if_pos (by omega)] | rw [zldM_i, if_neg (by omega)] | rw [zldM_i, if_pos (by omega)] | rw [zfil_i, if_neg (by omega)] | rw [zfil_i, if_pos (by omega)] | rw [zfilR_i, if_neg (by omega)] | rw [zfilR_i, if_pos (by omega)]))
  all_goals first | done | (simp only [Nat.zero_add, Nat.sub_zero]; (repeat (first | rw [zup_i, if_neg (by omega)] | rw [zup_i, if_pos (by omega)] | rw [zcpm_i, if_neg (by omega)] | rw [zcpm_i, if_pos (by omega)] | rw [zkpM_i, if_neg (by omega)] | rw [zkpM_i, if_pos (by omega)] | rw [zldM_i, if_neg (by omega)] | rw [zldM_i, if_pos (by omega)] | rw [zfil_i, if_neg (by omega)] | rw [zfil_i, if_pos (by omega)] | rw [zfilR_i, if_neg (by omega)] | rw [zfilR_i, if_pos (by omega)])))
theorem zlR {M M1 : zMm} (K n : Nat) (hn : n ≤ 24) (g : zldM (zup (zup (zup (zup M 93 7 (nI n)) 93 4 (M.1 104 K)) 93 5 (M.1 105 K)) 93 6 (M.1 106 K)) (24 * K) n = M1) : zKp [94, 95, 96] [(93, 4), (93, 5), (93, 6), (93, 7)] M M1 ∧ M1.1 93 4 = M.1 104 K ∧ M1.1 93 5 = M.1 105 K ∧ M1.1 93 6 = M.1 106 K ∧ M1.1 93 7 = nI n ∧ ∀ p, p < n → M1.1 94 p = M.1 107 (24 * K + p) ∧ M1.1 95 p = M.1 108 (24 * K + p) ∧ M1.1 96 p = M.1 109 (24 * K + p) := by
  subst g
  refine ⟨fun a i h1 h2 => ⟨?_, rfl⟩, ?_, ?_, ?_, ?_, fun p hp => ⟨?_, ?_, ?_⟩⟩
  · simp at h1 h2
    (repeat (first | rw [zup_i, if_neg (by omega)] | rw [zup_i, if_pos (by omega)] | rw [zcpm_i, if_neg (by omega)] | rw [zcpm_i, if_pos (by omega)] | rw [zkpM_i, if_neg (by omega)] | rw [zkpM_i, if_pos (by omega)] | rw [zldM_i, if_neg (by omega)] | rw [zldM_i, if_pos (by omega)] | rw [zfil_i, if_neg (by omega)] | rw [zfil_i, if_pos (by omega)] | rw [zfilR_i, if_neg (by omega)] | rw [zfilR_i, if_pos (by omega)]))
  all_goals (repeat (first | rw [zup_i, if_neg (by omega)] | rw [zup_i, if_pos (by omega)] | rw [zcpm_i, if_neg (by omega)] | rw [zcpm_i, if_pos (by omega)] | rw [zkpM_i, if_neg (by omega)] | rw [zkpM_i, if_pos (by omega)] | rw [zldM_i, if_neg (by omega)] | rw [zldM_i, if_pos (by omega)] | rw [zfil_i, if_neg (by omega)] | rw [zfil_i, if_pos (by omega)] | rw [zfilR_i, if_neg (by omega)] | rw [zfilR_i, if_pos (by omega)]))
theorem zop14 (M : zMm) (hI : zInv M) (k : Int32) : zopI2 52 140 [.int k] M := by
  by_cases h : 0 ≤ k.toInt ∧ k.toInt ≤ 5
  · rcases zcases6 k h with rfl | rfl | rfl | rfl | rfl | rfl
    · rcases hI.2.1 0 (by decide) with ⟨n1, n2⟩ | ⟨h1, dom, q, W, L, h2, h3, h4, h5, h6, h7, h8, h9, h10, h11, h12⟩
      · exact ⟨-1, M, M, m_load_0_no M n1, r_load_0_no M n2, hI⟩
      · have y1 := m_load_0 M h1 L.length h2.1 h2.2.1
        generalize g1 : zcpm (zcpm (zcpm (zup (zup (zup (zup (zup M 1 0 (M.1 61 0)) 1 1 (M.1 61 1)) 1 2 (M.1 61 2)) 1 3 0) 1 3 (nI L.length)) 62 0 2 0 L.length) 63 0 3 0 L.length) 64 0 4 0 L.length = M1 at y1
        obtain ⟨c1, c2, c3, c4, c5, c6⟩ := zlC 61 L.length (by omega) g1
        have lo := zlow c1 (by decide)
        have y2 := r_load_0 M1 L.length (by rw [lo 103 0 (by omega)]; exact h8) h2.2.1
        generalize g2 : zldM (zup (zup (zup (zup M1 93 7 (nI L.length)) 93 4 (M1.1 104 0)) 93 5 (M1.1 105 0)) 93 6 (M1.1 106 0)) 0 L.length = M2 at y2
        obtain ⟨d1, d2, d3, d4, d5, d6⟩ := zlR 0 L.length h2.2.1 g2
        have m1 : zRm dom q W M1 L := ⟨⟨c5, h2.2.1, fun p e hp => by
          obtain ⟨x1, x2, x3⟩ := c6 p (List.getElem?_eq_some_iff.mp hp).1
          obtain ⟨w1, w2, w3⟩ := h2.2.2 p e hp
          exact ⟨x1.trans w1, x2.trans w2, x3.trans w3⟩⟩, h3, c2.trans h4, c3.trans h5, c4.trans h6, h7⟩
        have r2 : zRr dom q W M2 L := ⟨⟨d5, h2.2.1, fun p e hp => by
          obtain ⟨x1, x2, x3⟩ := d6 p (List.getElem?_eq_some_iff.mp hp).1
          obtain ⟨w1, w2, w3⟩ := h12 p e hp
          rw [x1, x2, x3, lo _ _ (by omega), lo _ _ (by omega), lo _ _ (by omega)]
          exact ⟨w1, w2, w3⟩⟩, h3, by rw [d2, lo _ _ (by omega)]; exact h9, by rw [d3, lo _ _ (by omega)]; exact h10, by rw [d4, lo _ _ (by omega)]; exact h11, h7⟩
        exact ⟨_, M1, M2, y1, y2, hI.rule c1 d1 m1 r2 (by decide) (by decide) (by decide)⟩
    · rcases hI.2.1 1 (by decide) with ⟨n1, n2⟩ | ⟨h1, dom, q, W, L, h2, h3, h4, h5, h6, h7, h8, h9, h10, h11, h12⟩
      · exact ⟨-1, M, M, m_load_1_no M n1, r_load_1_no M n2, hI⟩
      · have y1 := m_load_1 M h1 L.length h2.1 h2.2.1
        generalize g1 : zcpm (zcpm (zcpm (zup (zup (zup (zup (zup M 1 0 (M.1 65 0)) 1 1 (M.1 65 1)) 1 2 (M.1 65 2)) 1 3 0) 1 3 (nI L.length)) 66 0 2 0 L.length) 67 0 3 0 L.length) 68 0 4 0 L.length = M1 at y1
        obtain ⟨c1, c2, c3, c4, c5, c6⟩ := zlC 65 L.length (by omega) g1
        have lo := zlow c1 (by decide)
        have y2 := r_load_1 M1 L.length (by rw [lo 103 1 (by omega)]; exact h8) h2.2.1
        generalize g2 : zldM (zup (zup (zup (zup M1 93 7 (nI L.length)) 93 4 (M1.1 104 1)) 93 5 (M1.1 105 1)) 93 6 (M1.1 106 1)) 24 L.length = M2 at y2
        obtain ⟨d1, d2, d3, d4, d5, d6⟩ := zlR 1 L.length h2.2.1 g2
        have m1 : zRm dom q W M1 L := ⟨⟨c5, h2.2.1, fun p e hp => by
          obtain ⟨x1, x2, x3⟩ := c6 p (List.getElem?_eq_some_iff.mp hp).1
          obtain ⟨w1, w2, w3⟩ := h2.2.2 p e hp
          exact ⟨x1.trans w1, x2.trans w2, x3.trans w3⟩⟩, h3, c2.trans h4, c3.trans h5, c4.trans h6, h7⟩
        have r2 : zRr dom q W M2 L := ⟨⟨d5, h2.2.1, fun p e hp => by
          obtain ⟨x1, x2, x3⟩ := d6 p (List.getElem?_eq_some_iff.mp hp).1
          obtain ⟨w1, w2, w3⟩ := h12 p e hp
          rw [x1, x2, x3, lo _ _ (by omega), lo _ _ (by omega), lo _ _ (by omega)]
          exact ⟨w1, w2, w3⟩⟩, h3, by rw [d2, lo _ _ (by omega)]; exact h9, by rw [d3, lo _ _ (by omega)]; exact h10, by rw [d4, lo _ _ (by omega)]; exact h11, h7⟩
        exact ⟨_, M1, M2, y1, y2, hI.rule c1 d1 m1 r2 (by decide) (by decide) (by decide)⟩
    · rcases hI.2.1 2 (by decide) with ⟨n1, n2⟩ | ⟨h1, dom, q, W, L, h2, h3, h4, h5, h6, h7, h8, h9, h10, h11, h12⟩
      · exact ⟨-1, M, M, m_load_2_no M n1, r_load_2_no M n2, hI⟩
      · have y1 := m_load_2 M h1 L.length h2.1 h2.2.1
        generalize g1 : zcpm (zcpm (zcpm (zup (zup (zup (zup (zup M 1 0 (M.1 69 0)) 1 1 (M.1 69 1)) 1 2 (M.1 69 2)) 1 3 0) 1 3 (nI L.length)) 70 0 2 0 L.length) 71 0 3 0 L.length) 72 0 4 0 L.length = M1 at y1
        obtain ⟨c1, c2, c3, c4, c5, c6⟩ := zlC 69 L.length (by omega) g1
        have lo := zlow c1 (by decide)
        have y2 := r_load_2 M1 L.length (by rw [lo 103 2 (by omega)]; exact h8) h2.2.1
        generalize g2 : zldM (zup (zup (zup (zup M1 93 7 (nI L.length)) 93 4 (M1.1 104 2)) 93 5 (M1.1 105 2)) 93 6 (M1.1 106 2)) 48 L.length = M2 at y2
        obtain ⟨d1, d2, d3, d4, d5, d6⟩ := zlR 2 L.length h2.2.1 g2
        have m1 : zRm dom q W M1 L := ⟨⟨c5, h2.2.1, fun p e hp => by
          obtain ⟨x1, x2, x3⟩ := c6 p (List.getElem?_eq_some_iff.mp hp).1
          obtain ⟨w1, w2, w3⟩ := h2.2.2 p e hp
          exact ⟨x1.trans w1, x2.trans w2, x3.trans w3⟩⟩, h3, c2.trans h4, c3.trans h5, c4.trans h6, h7⟩
        have r2 : zRr dom q W M2 L := ⟨⟨d5, h2.2.1, fun p e hp => by
          obtain ⟨x1, x2, x3⟩ := d6 p (List.getElem?_eq_some_iff.mp hp).1
          obtain ⟨w1, w2, w3⟩ := h12 p e hp
          rw [x1, x2, x3, lo _ _ (by omega), lo _ _ (by omega), lo _ _ (by omega)]
          exact ⟨w1, w2, w3⟩⟩, h3, by rw [d2, lo _ _ (by omega)]; exact h9, by rw [d3, lo _ _ (by omega)]; exact h10, by rw [d4, lo _ _ (by omega)]; exact h11, h7⟩
        exact ⟨_, M1, M2, y1, y2, hI.rule c1 d1 m1 r2 (by decide) (by decide) (by decide)⟩
    · rcases hI.2.1 3 (by decide) with ⟨n1, n2⟩ | ⟨h1, dom, q, W, L, h2, h3, h4, h5, h6, h7, h8, h9, h10, h11, h12⟩
      · exact ⟨-1, M, M, m_load_3_no M n1, r_load_3_no M n2, hI⟩
      · have y1 := m_load_3 M h1 L.length h2.1 h2.2.1
        generalize g1 : zcpm (zcpm (zcpm (zup (zup (zup (zup (zup M 1 0 (M.1 73 0)) 1 1 (M.1 73 1)) 1 2 (M.1 73 2)) 1 3 0) 1 3 (nI L.length)) 74 0 2 0 L.length) 75 0 3 0 L.length) 76 0 4 0 L.length = M1 at y1
        obtain ⟨c1, c2, c3, c4, c5, c6⟩ := zlC 73 L.length (by omega) g1
        have lo := zlow c1 (by decide)
        have y2 := r_load_3 M1 L.length (by rw [lo 103 3 (by omega)]; exact h8) h2.2.1
        generalize g2 : zldM (zup (zup (zup (zup M1 93 7 (nI L.length)) 93 4 (M1.1 104 3)) 93 5 (M1.1 105 3)) 93 6 (M1.1 106 3)) 72 L.length = M2 at y2
        obtain ⟨d1, d2, d3, d4, d5, d6⟩ := zlR 3 L.length h2.2.1 g2
        have m1 : zRm dom q W M1 L := ⟨⟨c5, h2.2.1, fun p e hp => by
          obtain ⟨x1, x2, x3⟩ := c6 p (List.getElem?_eq_some_iff.mp hp).1
          obtain ⟨w1, w2, w3⟩ := h2.2.2 p e hp
          exact ⟨x1.trans w1, x2.trans w2, x3.trans w3⟩⟩, h3, c2.trans h4, c3.trans h5, c4.trans h6, h7⟩
        have r2 : zRr dom q W M2 L := ⟨⟨d5, h2.2.1, fun p e hp => by
          obtain ⟨x1, x2, x3⟩ := d6 p (List.getElem?_eq_some_iff.mp hp).1
          obtain ⟨w1, w2, w3⟩ := h12 p e hp
          rw [x1, x2, x3, lo _ _ (by omega), lo _ _ (by omega), lo _ _ (by omega)]
          exact ⟨w1, w2, w3⟩⟩, h3, by rw [d2, lo _ _ (by omega)]; exact h9, by rw [d3, lo _ _ (by omega)]; exact h10, by rw [d4, lo _ _ (by omega)]; exact h11, h7⟩
        exact ⟨_, M1, M2, y1, y2, hI.rule c1 d1 m1 r2 (by decide) (by decide) (by decide)⟩
    · rcases hI.2.1 4 (by decide) with ⟨n1, n2⟩ | ⟨h1, dom, q, W, L, h2, h3, h4, h5, h6, h7, h8, h9, h10, h11, h12⟩
      · exact ⟨-1, M, M, m_load_4_no M n1, r_load_4_no M n2, hI⟩
      · have y1 := m_load_4 M h1 L.length h2.1 h2.2.1
        generalize g1 : zcpm (zcpm (zcpm (zup (zup (zup (zup (zup M 1 0 (M.1 77 0)) 1 1 (M.1 77 1)) 1 2 (M.1 77 2)) 1 3 0) 1 3 (nI L.length)) 78 0 2 0 L.length) 79 0 3 0 L.length) 80 0 4 0 L.length = M1 at y1
        obtain ⟨c1, c2, c3, c4, c5, c6⟩ := zlC 77 L.length (by omega) g1
        have lo := zlow c1 (by decide)
        have y2 := r_load_4 M1 L.length (by rw [lo 103 4 (by omega)]; exact h8) h2.2.1
        generalize g2 : zldM (zup (zup (zup (zup M1 93 7 (nI L.length)) 93 4 (M1.1 104 4)) 93 5 (M1.1 105 4)) 93 6 (M1.1 106 4)) 96 L.length = M2 at y2
        obtain ⟨d1, d2, d3, d4, d5, d6⟩ := zlR 4 L.length h2.2.1 g2
        have m1 : zRm dom q W M1 L := ⟨⟨c5, h2.2.1, fun p e hp => by
          obtain ⟨x1, x2, x3⟩ := c6 p (List.getElem?_eq_some_iff.mp hp).1
          obtain ⟨w1, w2, w3⟩ := h2.2.2 p e hp
          exact ⟨x1.trans w1, x2.trans w2, x3.trans w3⟩⟩, h3, c2.trans h4, c3.trans h5, c4.trans h6, h7⟩
        have r2 : zRr dom q W M2 L := ⟨⟨d5, h2.2.1, fun p e hp => by
          obtain ⟨x1, x2, x3⟩ := d6 p (List.getElem?_eq_some_iff.mp hp).1
          obtain ⟨w1, w2, w3⟩ := h12 p e hp
          rw [x1, x2, x3, lo _ _ (by omega), lo _ _ (by omega), lo _ _ (by omega)]
          exact ⟨w1, w2, w3⟩⟩, h3, by rw [d2, lo _ _ (by omega)]; exact h9, by rw [d3, lo _ _ (by omega)]; exact h10, by rw [d4, lo _ _ (by omega)]; exact h11, h7⟩
        exact ⟨_, M1, M2, y1, y2, hI.rule c1 d1 m1 r2 (by decide) (by decide) (by decide)⟩
    · rcases hI.2.1 5 (by decide) with ⟨n1, n2⟩ | ⟨h1, dom, q, W, L, h2, h3, h4, h5, h6, h7, h8, h9, h10, h11, h12⟩
      · exact ⟨-1, M, M, m_load_5_no M n1, r_load_5_no M n2, hI⟩
      · have y1 := m_load_5 M h1 L.length h2.1 h2.2.1
        generalize g1 : zcpm (zcpm (zcpm (zup (zup (zup (zup (zup M 1 0 (M.1 81 0)) 1 1 (M.1 81 1)) 1 2 (M.1 81 2)) 1 3 0) 1 3 (nI L.length)) 82 0 2 0 L.length) 83 0 3 0 L.length) 84 0 4 0 L.length = M1 at y1
        obtain ⟨c1, c2, c3, c4, c5, c6⟩ := zlC 81 L.length (by omega) g1
        have lo := zlow c1 (by decide)
        have y2 := r_load_5 M1 L.length (by rw [lo 103 5 (by omega)]; exact h8) h2.2.1
        generalize g2 : zldM (zup (zup (zup (zup M1 93 7 (nI L.length)) 93 4 (M1.1 104 5)) 93 5 (M1.1 105 5)) 93 6 (M1.1 106 5)) 120 L.length = M2 at y2
        obtain ⟨d1, d2, d3, d4, d5, d6⟩ := zlR 5 L.length h2.2.1 g2
        have m1 : zRm dom q W M1 L := ⟨⟨c5, h2.2.1, fun p e hp => by
          obtain ⟨x1, x2, x3⟩ := c6 p (List.getElem?_eq_some_iff.mp hp).1
          obtain ⟨w1, w2, w3⟩ := h2.2.2 p e hp
          exact ⟨x1.trans w1, x2.trans w2, x3.trans w3⟩⟩, h3, c2.trans h4, c3.trans h5, c4.trans h6, h7⟩
        have r2 : zRr dom q W M2 L := ⟨⟨d5, h2.2.1, fun p e hp => by
          obtain ⟨x1, x2, x3⟩ := d6 p (List.getElem?_eq_some_iff.mp hp).1
          obtain ⟨w1, w2, w3⟩ := h12 p e hp
          rw [x1, x2, x3, lo _ _ (by omega), lo _ _ (by omega), lo _ _ (by omega)]
          exact ⟨w1, w2, w3⟩⟩, h3, by rw [d2, lo _ _ (by omega)]; exact h9, by rw [d3, lo _ _ (by omega)]; exact h10, by rw [d4, lo _ _ (by omega)]; exact h11, h7⟩
        exact ⟨_, M1, M2, y1, y2, hI.rule c1 d1 m1 r2 (by decide) (by decide) (by decide)⟩
  · exact ⟨-1, M, M, m_load_no M k h, r_load_no M k h, hI⟩
theorem zop15 (M : zMm) (hI : zInv M) (d q : Int32) : zopI2 53 147 [.int d, .int q] M := by
  obtain ⟨dom, q0, W0, L0, hm, hr⟩ := hI.1
  by_cases h : (1 ≤ d.toInt ∧ d.toInt ≤ 5) ∧ (1 ≤ q.toInt ∧ q.toInt ≤ 6)
  · obtain ⟨dg, hdg⟩ : ∃ dg : Nat, d.toInt = dg := ⟨d.toInt.toNat, by omega⟩
    obtain ⟨qq, hqq⟩ : ∃ qq : Nat, q.toInt = qq := ⟨q.toInt.toNat, by omega⟩
    have ed : d = nI dg := by rw [nI_iI, ← hdg, iI_of]
    have eq : q = iI (qq : Int) := by rw [← hqq, iI_of]
    rw [ed, eq]
    have hdom := hm.2.2.2.2.2.1
    obtain ⟨r1, M1, y1, h1⟩ := m_pair M dom hdom qq (by omega) dg (by omega) hm.2.2.1 _ rfl
    have r1' : zRr dom q0 W0 M1 L0 := by
      rcases h1 with ⟨_, _, _, _, _, _, _, e⟩ | ⟨_, _, e⟩
      · exact hr.low e (by decide)
      · exact hr.low e (by decide)
    obtain ⟨r2, M2, y2, h2⟩ := r_pair M1 dom hdom qq (by omega) dg (by omega) q0 W0 L0 r1' _ rfl
    rcases h1 with ⟨a, e, x0, x1, x2, x3, x4, f⟩ | ⟨a, e, f⟩ <;> rcases h2 with ⟨a', e', g', f'⟩ | ⟨a', e', g', f'⟩
    · subst e e'
      exact ⟨_, M1, M2, y1, y2, hI.rule f f' ⟨x3, x4, x0, x1, by rw [x2]; exact zl2iI g'.2.2.2.2.2.2.2, g'.2.2.2.2.2⟩ g' (by decide) (by decide) (by decide)⟩
    · exact absurd a a'
    · exact absurd a' a
    · subst e e'
      exact ⟨_, M1, M2, y1, y2, hI.rule f f' (hm.keep (fun b i z1 z2 => (f b i (fun hz => by have := (by decide : ∀ b, b ∈ zA1 → 4 < b) b hz; omega) (by simp)).1)) g' (by decide) (by decide) (by decide)⟩
  · exact ⟨-2, M, M, m_pair_no M d q h, r_pair_no M d q h, hI⟩
theorem zop16 (M : zMm) (hI : zInv M) (t c : Int32) : zopL2 54 148 [.int t, .int c] M := by
  by_cases h : zterm t c
  · obtain ⟨tn, ht⟩ : ∃ tn : Nat, t.toInt = tn := ⟨t.toInt.toNat, by have := h.1.1; omega⟩
    have et : t = nI tn := by rw [nI_iI, ← ht, iI_of]
    have hlt : tn < 15 := by have := h.1.2; omega
    rw [et]
    obtain ⟨cf, hcf⟩ := hI.2.2.2.1
    have y1 := m_term M tn hlt c h.2
    have y2 := r_term (zup M 56 tn c) tn hlt c h.2
    rw [show ((zup M 56 tn c).1 117 tn) = M.1 56 tn from by rw [zup_i, if_neg (by omega), (hcf tn hlt).2.1, (hcf tn hlt).2.2]] at y2
    refine ⟨_, _, _, y1, y2, hI.trm (fun a i z1 z2 => by rw [zup_i, if_neg (by omega), zup_i, if_neg (by omega)]) ⟨fun s => if s = tn then c.toInt else cf s, fun s hs => ?_⟩⟩
    by_cases hz : s = tn
    · subst hz
      simp only [zup_i, and_self, if_true, iI_of]
      exact ⟨by have := h.2; omega, by simp, trivial⟩
    · rw [zup_i, if_neg (by omega), zup_i, if_neg (by omega)]
      simp only [if_neg hz]
      rw [zup_i, if_neg (by omega), zup_i, if_neg (by omega)]
      exact hcf s hs
  · exact ⟨zlost, M, M, m_term_no M t c h, r_term_no M t c h, hI⟩
theorem zop17 (M : zMm) (hI : zInv M) (w : Int32) : zopL2 55 150 [.int w] M := by
  obtain ⟨dom, q, W, L, hm, hr⟩ := hI.1
  obtain ⟨cf, hcf⟩ := hI.2.2.2.1
  by_cases hw : w = 0 ∨ w = 1
  · obtain ⟨r1, M1, y1, rfl, e1⟩ := m_whole M dom hm.2.2.2.2.2.1 hm.2.2.1 cf (fun t ht => (hcf t ht).1) (fun t ht => (hcf t ht).2.1) w hw
    have lo := zlow e1 (by decide)
    obtain ⟨r2, M2, y2, rfl, e2⟩ := r_whole M1 dom hm.2.2.2.2.2.1 (by rw [lo 93 4 (by omega)]; exact hr.2.2.1) cf (fun t ht => (hcf t ht).1) (fun t ht => by rw [lo 117 t (by omega)]; exact (hcf t ht).2.2) w hw
    exact ⟨_, M1, M2, y1, y2, hI.fr e1 e2 (by decide) (by decide)⟩
  · exact ⟨zlost, M, M, m_whole_no M w hw, r_whole_no M w hw, hI⟩
theorem zop18 (M : zMm) (hI : zInv M) (k w : Int32) : zopL2 56 152 [.int k, .int w] M := by
  obtain ⟨dom, q, W, L, hm, hr⟩ := hI.1
  obtain ⟨cf, hcf⟩ := hI.2.2.2.1
  by_cases h : zbyok dom k w
  · obtain ⟨kn, hk⟩ : ∃ kn : Nat, k.toInt = kn := ⟨k.toInt.toNat, by have := h.1.1; omega⟩
    have ek : k = nI kn := by rw [nI_iI, ← hk, iI_of]
    have h13 := h.1
    rw [ek] at h ⊢
    obtain ⟨r1, M1, y1, rfl, e1⟩ := m_byRule M dom q W L hm cf (fun t ht => (hcf t ht).1) (fun t ht => (hcf t ht).2.1) kn w h (by omega)
    have lo := zlow e1 (by decide)
    obtain ⟨r2, M2, y2, rfl, e2⟩ := r_byRule M1 dom q W L (hr.low e1 (by decide)) cf (fun t ht => (hcf t ht).1) (fun t ht => by rw [lo 117 t (by omega)]; exact (hcf t ht).2.2) kn w h (by omega)
    exact ⟨_, M1, M2, y1, y2, hI.fr e1 e2 (by decide) (by decide)⟩
  · exact ⟨zlost, M, M, m_byRule_no M dom hm.2.2.2.2.2.1 hm.2.2.1 k w h, r_byRule_no M dom hm.2.2.2.2.2.1 hr.2.2.1 k w h, hI⟩
theorem zop19 (M : zMm) (hI : zInv M) (k l n : Int32) : zopI2 57 153 [.int k, .int l, .int n] M := by
  by_cases h1 : 0 ≤ k.toInt ∧ k.toInt ≤ 3
  · by_cases h2 : (0 ≤ l.toInt ∧ l.toInt ≤ 2) ∧ n.toInt ≤ 72
    · rcases zcases4 k h1 with rfl | rfl | rfl | rfl
      · by_cases h3 : n.toInt < 0
        · exact ⟨-10 - 4, _, _, m_sheet_0 M _ l n _ h2.1 h2.2 (Or.inl ⟨h3, rfl, rfl⟩), r_sheet_0 _ _ l n _ h2.1 h2.2 (Or.inl ⟨h3, rfl, rfl⟩), hI.fr (A1 := []) (B1 := [(0, 14)]) (A2 := []) (B2 := [(93, 0)]) (((zKp.refl _ _ M).up (by simp)).up (by simp)) (((zKp.refl _ _ _).up (by simp)).up (by simp)) (by decide) (by decide)⟩
        · refine ⟨1, _, _, m_sheet_0 M _ l n _ h2.1 h2.2 (Or.inr ⟨by omega, rfl, rfl⟩), r_sheet_0 _ _ l n _ h2.1 h2.2 (Or.inr ⟨by omega, rfl, rfl⟩), hI.sht 0 (by omega) (fun a i z1 z2 z3 z4 z5 => ?_) (Or.inr ⟨l.toInt.toNat, n.toInt.toNat, by omega, by omega, ?_, ?_, ?_, ?_, fun i hi => ?_⟩)⟩
          · (repeat (first | rw [zup_i, if_neg (by omega)] | rw [zup_i, if_pos (by omega)] | rw [zcpm_i, if_neg (by omega)] | rw [zcpm_i, if_pos (by omega)] | rw [zkpM_i, if_neg (by omega)] | rw [zkpM_i, if_pos (by omega)] | rw [zldM_i, if_neg (by omega)] | rw [zldM_i, if_pos (by omega)] | rw [zfil_i, if_neg (by omega)] | rw [zfil_i, if_pos (by omega)] | rw [zfilR_i, if_neg (by omega)] | rw [zfilR_i, if_pos (by omega)]))
          · rw [← znat h2.1.1]; (repeat (first | rw [zup_i, if_neg (by omega)] | rw [zup_i, if_pos (by omega)] | rw [zcpm_i, if_neg (by omega)] | rw [zcpm_i, if_pos (by omega)] | rw [zkpM_i, if_neg (by omega)] | rw [zkpM_i, if_pos (by omega)] | rw [zldM_i, if_neg (by omega)] | rw [zldM_i, if_pos (by omega)] | rw [zfil_i, if_neg (by omega)] | rw [zfil_i, if_pos (by omega)] | rw [zfilR_i, if_neg (by omega)] | rw [zfilR_i, if_pos (by omega)]))
          · rw [← znat h2.1.1]; (repeat (first | rw [zup_i, if_neg (by omega)] | rw [zup_i, if_pos (by omega)] | rw [zcpm_i, if_neg (by omega)] | rw [zcpm_i, if_pos (by omega)] | rw [zkpM_i, if_neg (by omega)] | rw [zkpM_i, if_pos (by omega)] | rw [zldM_i, if_neg (by omega)] | rw [zldM_i, if_pos (by omega)] | rw [zfil_i, if_neg (by omega)] | rw [zfil_i, if_pos (by omega)] | rw [zfilR_i, if_neg (by omega)] | rw [zfilR_i, if_pos (by omega)]))
          · rw [← znat (by omega)]; (repeat (first | rw [zup_i, if_neg (by omega)] | rw [zup_i, if_pos (by omega)] | rw [zcpm_i, if_neg (by omega)] | rw [zcpm_i, if_pos (by omega)] | rw [zkpM_i, if_neg (by omega)] | rw [zkpM_i, if_pos (by omega)] | rw [zldM_i, if_neg (by omega)] | rw [zldM_i, if_pos (by omega)] | rw [zfil_i, if_neg (by omega)] | rw [zfil_i, if_pos (by omega)] | rw [zfilR_i, if_neg (by omega)] | rw [zfilR_i, if_pos (by omega)]))
          · rw [← znat (by omega)]; (repeat (first | rw [zup_i, if_neg (by omega)] | rw [zup_i, if_pos (by omega)] | rw [zcpm_i, if_neg (by omega)] | rw [zcpm_i, if_pos (by omega)] | rw [zkpM_i, if_neg (by omega)] | rw [zkpM_i, if_pos (by omega)] | rw [zldM_i, if_neg (by omega)] | rw [zldM_i, if_pos (by omega)] | rw [zfil_i, if_neg (by omega)] | rw [zfil_i, if_pos (by omega)] | rw [zfilR_i, if_neg (by omega)] | rw [zfilR_i, if_pos (by omega)]))
          · (repeat (first | rw [zup_i, if_neg (by omega)] | rw [zup_i, if_pos (by omega)] | rw [zcpm_i, if_neg (by omega)] | rw [zcpm_i, if_pos (by omega)] | rw [zkpM_i, if_neg (by omega)] | rw [zkpM_i, if_pos (by omega)] | rw [zldM_i, if_neg (by omega)] | rw [zldM_i, if_pos (by omega)] | rw [zfil_i, if_neg (by omega)] | rw [zfil_i, if_pos (by omega)] | rw [zfilR_i, if_neg (by omega)] | rw [zfilR_i, if_pos (by omega)]))
      · by_cases h3 : n.toInt < 0
        · exact ⟨-10 - 4, _, _, m_sheet_1 M _ l n _ h2.1 h2.2 (Or.inl ⟨h3, rfl, rfl⟩), r_sheet_1 _ _ l n _ h2.1 h2.2 (Or.inl ⟨h3, rfl, rfl⟩), hI.fr (A1 := []) (B1 := [(0, 14)]) (A2 := []) (B2 := [(93, 0)]) (((zKp.refl _ _ M).up (by simp)).up (by simp)) (((zKp.refl _ _ _).up (by simp)).up (by simp)) (by decide) (by decide)⟩
        · refine ⟨1, _, _, m_sheet_1 M _ l n _ h2.1 h2.2 (Or.inr ⟨by omega, rfl, rfl⟩), r_sheet_1 _ _ l n _ h2.1 h2.2 (Or.inr ⟨by omega, rfl, rfl⟩), hI.sht 1 (by omega) (fun a i z1 z2 z3 z4 z5 => ?_) (Or.inr ⟨l.toInt.toNat, n.toInt.toNat, by omega, by omega, ?_, ?_, ?_, ?_, fun i hi => ?_⟩)⟩
          · (repeat (first | rw [zup_i, if_neg (by omega)] | rw [zup_i, if_pos (by omega)] | rw [zcpm_i, if_neg (by omega)] | rw [zcpm_i, if_pos (by omega)] | rw [zkpM_i, if_neg (by omega)] | rw [zkpM_i, if_pos (by omega)] | rw [zldM_i, if_neg (by omega)] | rw [zldM_i, if_pos (by omega)] | rw [zfil_i, if_neg (by omega)] | rw [zfil_i, if_pos (by omega)] | rw [zfilR_i, if_neg (by omega)] | rw [zfilR_i, if_pos (by omega)]))
          · rw [← znat h2.1.1]; (repeat (first | rw [zup_i, if_neg (by omega)] | rw [zup_i, if_pos (by omega)] | rw [zcpm_i, if_neg (by omega)] | rw [zcpm_i, if_pos (by omega)] | rw [zkpM_i, if_neg (by omega)] | rw [zkpM_i, if_pos (by omega)] | rw [zldM_i, if_neg (by omega)] | rw [zldM_i, if_pos (by omega)] | rw [zfil_i, if_neg (by omega)] | rw [zfil_i, if_pos (by omega)] | rw [zfilR_i, if_neg (by omega)] | rw [zfilR_i, if_pos (by omega)]))
          · rw [← znat h2.1.1]; (repeat (first | rw [zup_i, if_neg (by omega)] | rw [zup_i, if_pos (by omega)] | rw [zcpm_i, if_neg (by omega)] | rw [zcpm_i, if_pos (by omega)] | rw [zkpM_i, if_neg (by omega)] | rw [zkpM_i, if_pos (by omega)] | rw [zldM_i, if_neg (by omega)] | rw [zldM_i, if_pos (by omega)] | rw [zfil_i, if_neg (by omega)] | rw [zfil_i, if_pos (by omega)] | rw [zfilR_i, if_neg (by omega)] | rw [zfilR_i, if_pos (by omega)]))
          · rw [← znat (by omega)]; (repeat (first | rw [zup_i, if_neg (by omega)] | rw [zup_i, if_pos (by omega)] | rw [zcpm_i, if_neg (by omega)] | rw [zcpm_i, if_pos (by omega)] | rw [zkpM_i, if_neg (by omega)] | rw [zkpM_i, if_pos (by omega)] | rw [zldM_i, if_neg (by omega)] | rw [zldM_i, if_pos (by omega)] | rw [zfil_i, if_neg (by omega)] | rw [zfil_i, if_pos (by omega)] | rw [zfilR_i, if_neg (by omega)] | rw [zfilR_i, if_pos (by omega)]))
          · rw [← znat (by omega)]; (repeat (first | rw [zup_i, if_neg (by omega)] | rw [zup_i, if_pos (by omega)] | rw [zcpm_i, if_neg (by omega)] | rw [zcpm_i, if_pos (by omega)] | rw [zkpM_i, if_neg (by omega)] | rw [zkpM_i, if_pos (by omega)] | rw [zldM_i, if_neg (by omega)] | rw [zldM_i, if_pos (by omega)] | rw [zfil_i, if_neg (by omega)] | rw [zfil_i, if_pos (by omega)] | rw [zfilR_i, if_neg (by omega)] | rw [zfilR_i, if_pos (by omega)]))
          · (repeat (first | rw [zup_i, if_neg (by omega)] | rw [zup_i, if_pos (by omega)] | rw [zcpm_i, if_neg (by omega)] | rw [zcpm_i, if_pos (by omega)] | rw [zkpM_i, if_neg (by omega)] | rw [zkpM_i, if_pos (by omega)] | rw [zldM_i, if_neg (by omega)] | rw [zldM_i, if_pos (by omega)] | rw [zfil_i, if_neg (by omega)] | rw [zfil_i, if_pos (by omega)] | rw [zfilR_i, if_neg (by omega)] | rw [zfilR_i, if_pos (by omega)]))
      · by_cases h3 : n.toInt < 0
        · exact ⟨-10 - 4, _, _, m_sheet_2 M _ l n _ h2.1 h2.2 (Or.inl ⟨h3, rfl, rfl⟩), r_sheet_2 _ _ l n _ h2.1 h2.2 (Or.inl ⟨h3, rfl, rfl⟩), hI.fr (A1 := []) (B1 := [(0, 14)]) (A2 := []) (B2 := [(93, 0)]) (((zKp.refl _ _ M).up (by simp)).up (by simp)) (((zKp.refl _ _ _).up (by simp)).up (by simp)) (by decide) (by decide)⟩
        · refine ⟨1, _, _, m_sheet_2 M _ l n _ h2.1 h2.2 (Or.inr ⟨by omega, rfl, rfl⟩), r_sheet_2 _ _ l n _ h2.1 h2.2 (Or.inr ⟨by omega, rfl, rfl⟩), hI.sht 2 (by omega) (fun a i z1 z2 z3 z4 z5 => ?_) (Or.inr ⟨l.toInt.toNat, n.toInt.toNat, by omega, by omega, ?_, ?_, ?_, ?_, fun i hi => ?_⟩)⟩
          · (repeat (first | rw [zup_i, if_neg (by omega)] | rw [zup_i, if_pos (by omega)] | rw [zcpm_i, if_neg (by omega)] | rw [zcpm_i, if_pos (by omega)] | rw [zkpM_i, if_neg (by omega)] | rw [zkpM_i, if_pos (by omega)] | rw [zldM_i, if_neg (by omega)] | rw [zldM_i, if_pos (by omega)] | rw [zfil_i, if_neg (by omega)] | rw [zfil_i, if_pos (by omega)] | rw [zfilR_i, if_neg (by omega)] | rw [zfilR_i, if_pos (by omega)]))
          · rw [← znat h2.1.1]; (repeat (first | rw [zup_i, if_neg (by omega)] | rw [zup_i, if_pos (by omega)] | rw [zcpm_i, if_neg (by omega)] | rw [zcpm_i, if_pos (by omega)] | rw [zkpM_i, if_neg (by omega)] | rw [zkpM_i, if_pos (by omega)] | rw [zldM_i, if_neg (by omega)] | rw [zldM_i, if_pos (by omega)] | rw [zfil_i, if_neg (by omega)] | rw [zfil_i, if_pos (by omega)] | rw [zfilR_i, if_neg (by omega)] | rw [zfilR_i, if_pos (by omega)]))
          · rw [← znat h2.1.1]; (repeat (first | rw [zup_i, if_neg (by omega)] | rw [zup_i, if_pos (by omega)] | rw [zcpm_i, if_neg (by omega)] | rw [zcpm_i, if_pos (by omega)] | rw [zkpM_i, if_neg (by omega)] | rw [zkpM_i, if_pos (by omega)] | rw [zldM_i, if_neg (by omega)] | rw [zldM_i, if_pos (by omega)] | rw [zfil_i, if_neg (by omega)] | rw [zfil_i, if_pos (by omega)] | rw [zfilR_i, if_neg (by omega)] | rw [zfilR_i, if_pos (by omega)]))
          · rw [← znat (by omega)]; (repeat (first | rw [zup_i, if_neg (by omega)] | rw [zup_i, if_pos (by omega)] | rw [zcpm_i, if_neg (by omega)] | rw [zcpm_i, if_pos (by omega)] | rw [zkpM_i, if_neg (by omega)] | rw [zkpM_i, if_pos (by omega)] | rw [zldM_i, if_neg (by omega)] | rw [zldM_i, if_pos (by omega)] | rw [zfil_i, if_neg (by omega)] | rw [zfil_i, if_pos (by omega)] | rw [zfilR_i, if_neg (by omega)] | rw [zfilR_i, if_pos (by omega)]))
          · rw [← znat (by omega)]; (repeat (first | rw [zup_i, if_neg (by omega)] | rw [zup_i, if_pos (by omega)] | rw [zcpm_i, if_neg (by omega)] | rw [zcpm_i, if_pos (by omega)] | rw [zkpM_i, if_neg (by omega)] | rw [zkpM_i, if_pos (by omega)] | rw [zldM_i, if_neg (by omega)] | rw [zldM_i, if_pos (by omega)] | rw [zfil_i, if_neg (by omega)] | rw [zfil_i, if_pos (by omega)] | rw [zfilR_i, if_neg (by omega)] | rw [zfilR_i, if_pos (by omega)]))
          · (repeat (first | rw [zup_i, if_neg (by omega)] | rw [zup_i, if_pos (by omega)] | rw [zcpm_i, if_neg (by omega)] | rw [zcpm_i, if_pos (by omega)] | rw [zkpM_i, if_neg (by omega)] | rw [zkpM_i, if_pos (by omega)] | rw [zldM_i, if_neg (by omega)] | rw [zldM_i, if_pos (by omega)] | rw [zfil_i, if_neg (by omega)] | rw [zfil_i, if_pos (by omega)] | rw [zfilR_i, if_neg (by omega)] | rw [zfilR_i, if_pos (by omega)]))
      · by_cases h3 : n.toInt < 0
        · exact ⟨-10 - 4, _, _, m_sheet_3 M _ l n _ h2.1 h2.2 (Or.inl ⟨h3, rfl, rfl⟩), r_sheet_3 _ _ l n _ h2.1 h2.2 (Or.inl ⟨h3, rfl, rfl⟩), hI.fr (A1 := []) (B1 := [(0, 14)]) (A2 := []) (B2 := [(93, 0)]) (((zKp.refl _ _ M).up (by simp)).up (by simp)) (((zKp.refl _ _ _).up (by simp)).up (by simp)) (by decide) (by decide)⟩
        · refine ⟨1, _, _, m_sheet_3 M _ l n _ h2.1 h2.2 (Or.inr ⟨by omega, rfl, rfl⟩), r_sheet_3 _ _ l n _ h2.1 h2.2 (Or.inr ⟨by omega, rfl, rfl⟩), hI.sht 3 (by omega) (fun a i z1 z2 z3 z4 z5 => ?_) (Or.inr ⟨l.toInt.toNat, n.toInt.toNat, by omega, by omega, ?_, ?_, ?_, ?_, fun i hi => ?_⟩)⟩
          · (repeat (first | rw [zup_i, if_neg (by omega)] | rw [zup_i, if_pos (by omega)] | rw [zcpm_i, if_neg (by omega)] | rw [zcpm_i, if_pos (by omega)] | rw [zkpM_i, if_neg (by omega)] | rw [zkpM_i, if_pos (by omega)] | rw [zldM_i, if_neg (by omega)] | rw [zldM_i, if_pos (by omega)] | rw [zfil_i, if_neg (by omega)] | rw [zfil_i, if_pos (by omega)] | rw [zfilR_i, if_neg (by omega)] | rw [zfilR_i, if_pos (by omega)]))
          · rw [← znat h2.1.1]; (repeat (first | rw [zup_i, if_neg (by omega)] | rw [zup_i, if_pos (by omega)] | rw [zcpm_i, if_neg (by omega)] | rw [zcpm_i, if_pos (by omega)] | rw [zkpM_i, if_neg (by omega)] | rw [zkpM_i, if_pos (by omega)] | rw [zldM_i, if_neg (by omega)] | rw [zldM_i, if_pos (by omega)] | rw [zfil_i, if_neg (by omega)] | rw [zfil_i, if_pos (by omega)] | rw [zfilR_i, if_neg (by omega)] | rw [zfilR_i, if_pos (by omega)]))
          · rw [← znat h2.1.1]; (repeat (first | rw [zup_i, if_neg (by omega)] | rw [zup_i, if_pos (by omega)] | rw [zcpm_i, if_neg (by omega)] | rw [zcpm_i, if_pos (by omega)] | rw [zkpM_i, if_neg (by omega)] | rw [zkpM_i, if_pos (by omega)] | rw [zldM_i, if_neg (by omega)] | rw [zldM_i, if_pos (by omega)] | rw [zfil_i, if_neg (by omega)] | rw [zfil_i, if_pos (by omega)] | rw [zfilR_i, if_neg (by omega)] | rw [zfilR_i, if_pos (by omega)]))
          · rw [← znat (by omega)]; (repeat (first | rw [zup_i, if_neg (by omega)] | rw [zup_i, if_pos (by omega)] | rw [zcpm_i, if_neg (by omega)] | rw [zcpm_i, if_pos (by omega)] | rw [zkpM_i, if_neg (by omega)] | rw [zkpM_i, if_pos (by omega)] | rw [zldM_i, if_neg (by omega)] | rw [zldM_i, if_pos (by omega)] | rw [zfil_i, if_neg (by omega)] | rw [zfil_i, if_pos (by omega)] | rw [zfilR_i, if_neg (by omega)] | rw [zfilR_i, if_pos (by omega)]))
          · rw [← znat (by omega)]; (repeat (first | rw [zup_i, if_neg (by omega)] | rw [zup_i, if_pos (by omega)] | rw [zcpm_i, if_neg (by omega)] | rw [zcpm_i, if_pos (by omega)] | rw [zkpM_i, if_neg (by omega)] | rw [zkpM_i, if_pos (by omega)] | rw [zldM_i, if_neg (by omega)] | rw [zldM_i, if_pos (by omega)] | rw [zfil_i, if_neg (by omega)] | rw [zfil_i, if_pos (by omega)] | rw [zfilR_i, if_neg (by omega)] | rw [zfilR_i, if_pos (by omega)]))
          · (repeat (first | rw [zup_i, if_neg (by omega)] | rw [zup_i, if_pos (by omega)] | rw [zcpm_i, if_neg (by omega)] | rw [zcpm_i, if_pos (by omega)] | rw [zkpM_i, if_neg (by omega)] | rw [zkpM_i, if_pos (by omega)] | rw [zldM_i, if_neg (by omega)] | rw [zldM_i, if_pos (by omega)] | rw [zfil_i, if_neg (by omega)] | rw [zfil_i, if_pos (by omega)] | rw [zfilR_i, if_neg (by omega)] | rw [zfilR_i, if_pos (by omega)]))
    · exact ⟨-2, _, _, m_sheet_no M k l n _ (Or.inr ⟨h1, h2, rfl⟩), r_sheet_no _ k l n _ (Or.inr ⟨h1, h2, rfl⟩), hI.fr (A1 := []) (B1 := [(0, 14)]) (A2 := []) (B2 := [(93, 0)]) ((zKp.refl _ _ M).up (by simp)) ((zKp.refl _ _ _).up (by simp)) (by decide) (by decide)⟩
  · exact ⟨-1, _, _, m_sheet_no M k l n _ (Or.inl ⟨h1, rfl⟩), r_sheet_no _ k l n _ (Or.inl ⟨h1, rfl⟩), hI.fr (A1 := []) (B1 := [(0, 14)]) (A2 := []) (B2 := [(93, 0)]) ((zKp.refl _ _ M).up (by simp)) ((zKp.refl _ _ _).up (by simp)) (by decide) (by decide)⟩
theorem zlane_ne {x : Int32} {lane : Nat} (h : lane < 3) (e : x = nI lane) : ¬ x = -1 ∧ ¬ x = -9 := by
  subst e
  have : lane = 0 ∨ lane = 1 ∨ lane = 2 := by omega
  rcases this with rfl | rfl | rfl <;> exact ⟨by decide, by decide⟩
theorem zop20 (M : zMm) (hI : zInv M) (k : Int32) : zopI2 58 154 [.int k] M := by
  by_cases h : 0 ≤ k.toInt ∧ k.toInt ≤ 3
  · rcases zcases4 k h with rfl | rfl | rfl | rfl
    · rcases hI.2.2.1 0 (by decide) with ⟨n1, n2⟩ | ⟨lane, len, p1, p2, p3, p4, p5, p6, p7⟩
      · refine ⟨0, M, _, m_lose_0 M M 0 (Or.inl ⟨n1, rfl, rfl⟩), r_lose_0 M 0 (Or.inl ⟨n2, rfl⟩), hI.sht 0 (by omega) (fun a i z1 z2 z3 z4 z5 => ?_) (Or.inl ⟨?_, ?_⟩)⟩
        · (repeat (first | rw [zup_i, if_neg (by omega)] | rw [zup_i, if_pos (by omega)] | rw [zcpm_i, if_neg (by omega)] | rw [zcpm_i, if_pos (by omega)] | rw [zkpM_i, if_neg (by omega)] | rw [zkpM_i, if_pos (by omega)] | rw [zldM_i, if_neg (by omega)] | rw [zldM_i, if_pos (by omega)] | rw [zfil_i, if_neg (by omega)] | rw [zfil_i, if_pos (by omega)] | rw [zfilR_i, if_neg (by omega)] | rw [zfilR_i, if_pos (by omega)]))
        · rw [zup_i, if_neg (by omega)]; exact n1
        · (repeat (first | rw [zup_i, if_neg (by omega)] | rw [zup_i, if_pos (by omega)] | rw [zcpm_i, if_neg (by omega)] | rw [zcpm_i, if_pos (by omega)] | rw [zkpM_i, if_neg (by omega)] | rw [zkpM_i, if_pos (by omega)] | rw [zldM_i, if_neg (by omega)] | rw [zldM_i, if_pos (by omega)] | rw [zfil_i, if_neg (by omega)] | rw [zfil_i, if_pos (by omega)] | rw [zfilR_i, if_neg (by omega)] | rw [zfilR_i, if_pos (by omega)]))
      · refine ⟨1, _, _, m_lose_0 M _ 1 (Or.inr ⟨(zlane_ne p1 p3).1, rfl, rfl⟩), r_lose_0 (zup (zup M 85 0 (-1)) 85 1 0) 1 (Or.inr ⟨(zlane_ne p1 p4).2, rfl⟩), hI.sht 0 (by omega) (fun a i z1 z2 z3 z4 z5 => ?_) (Or.inl ⟨?_, ?_⟩)⟩
        · (repeat (first | rw [zup_i, if_neg (by omega)] | rw [zup_i, if_pos (by omega)] | rw [zcpm_i, if_neg (by omega)] | rw [zcpm_i, if_pos (by omega)] | rw [zkpM_i, if_neg (by omega)] | rw [zkpM_i, if_pos (by omega)] | rw [zldM_i, if_neg (by omega)] | rw [zldM_i, if_pos (by omega)] | rw [zfil_i, if_neg (by omega)] | rw [zfil_i, if_pos (by omega)] | rw [zfilR_i, if_neg (by omega)] | rw [zfilR_i, if_pos (by omega)]))
        · (repeat (first | rw [zup_i, if_neg (by omega)] | rw [zup_i, if_pos (by omega)] | rw [zcpm_i, if_neg (by omega)] | rw [zcpm_i, if_pos (by omega)] | rw [zkpM_i, if_neg (by omega)] | rw [zkpM_i, if_pos (by omega)] | rw [zldM_i, if_neg (by omega)] | rw [zldM_i, if_pos (by omega)] | rw [zfil_i, if_neg (by omega)] | rw [zfil_i, if_pos (by omega)] | rw [zfilR_i, if_neg (by omega)] | rw [zfilR_i, if_pos (by omega)]))
        · (repeat (first | rw [zup_i, if_neg (by omega)] | rw [zup_i, if_pos (by omega)] | rw [zcpm_i, if_neg (by omega)] | rw [zcpm_i, if_pos (by omega)] | rw [zkpM_i, if_neg (by omega)] | rw [zkpM_i, if_pos (by omega)] | rw [zldM_i, if_neg (by omega)] | rw [zldM_i, if_pos (by omega)] | rw [zfil_i, if_neg (by omega)] | rw [zfil_i, if_pos (by omega)] | rw [zfilR_i, if_neg (by omega)] | rw [zfilR_i, if_pos (by omega)]))
    · rcases hI.2.2.1 1 (by decide) with ⟨n1, n2⟩ | ⟨lane, len, p1, p2, p3, p4, p5, p6, p7⟩
      · refine ⟨0, M, _, m_lose_1 M M 0 (Or.inl ⟨n1, rfl, rfl⟩), r_lose_1 M 0 (Or.inl ⟨n2, rfl⟩), hI.sht 1 (by omega) (fun a i z1 z2 z3 z4 z5 => ?_) (Or.inl ⟨?_, ?_⟩)⟩
        · (repeat (first | rw [zup_i, if_neg (by omega)] | rw [zup_i, if_pos (by omega)] | rw [zcpm_i, if_neg (by omega)] | rw [zcpm_i, if_pos (by omega)] | rw [zkpM_i, if_neg (by omega)] | rw [zkpM_i, if_pos (by omega)] | rw [zldM_i, if_neg (by omega)] | rw [zldM_i, if_pos (by omega)] | rw [zfil_i, if_neg (by omega)] | rw [zfil_i, if_pos (by omega)] | rw [zfilR_i, if_neg (by omega)] | rw [zfilR_i, if_pos (by omega)]))
        · rw [zup_i, if_neg (by omega)]; exact n1
        · (repeat (first | rw [zup_i, if_neg (by omega)] | rw [zup_i, if_pos (by omega)] | rw [zcpm_i, if_neg (by omega)] | rw [zcpm_i, if_pos (by omega)] | rw [zkpM_i, if_neg (by omega)] | rw [zkpM_i, if_pos (by omega)] | rw [zldM_i, if_neg (by omega)] | rw [zldM_i, if_pos (by omega)] | rw [zfil_i, if_neg (by omega)] | rw [zfil_i, if_pos (by omega)] | rw [zfilR_i, if_neg (by omega)] | rw [zfilR_i, if_pos (by omega)]))
      · refine ⟨1, _, _, m_lose_1 M _ 1 (Or.inr ⟨(zlane_ne p1 p3).1, rfl, rfl⟩), r_lose_1 (zup (zup M 87 0 (-1)) 87 1 0) 1 (Or.inr ⟨(zlane_ne p1 p4).2, rfl⟩), hI.sht 1 (by omega) (fun a i z1 z2 z3 z4 z5 => ?_) (Or.inl ⟨?_, ?_⟩)⟩
        · (repeat (first | rw [zup_i, if_neg (by omega)] | rw [zup_i, if_pos (by omega)] | rw [zcpm_i, if_neg (by omega)] | rw [zcpm_i, if_pos (by omega)] | rw [zkpM_i, if_neg (by omega)] | rw [zkpM_i, if_pos (by omega)] | rw [zldM_i, if_neg (by omega)] | rw [zldM_i, if_pos (by omega)] | rw [zfil_i, if_neg (by omega)] | rw [zfil_i, if_pos (by omega)] | rw [zfilR_i, if_neg (by omega)] | rw [zfilR_i, if_pos (by omega)]))
        · (repeat (first | rw [zup_i, if_neg (by omega)] | rw [zup_i, if_pos (by omega)] | rw [zcpm_i, if_neg (by omega)] | rw [zcpm_i, if_pos (by omega)] | rw [zkpM_i, if_neg (by omega)] | rw [zkpM_i, if_pos (by omega)] | rw [zldM_i, if_neg (by omega)] | rw [zldM_i, if_pos (by omega)] | rw [zfil_i, if_neg (by omega)] | rw [zfil_i, if_pos (by omega)] | rw [zfilR_i, if_neg (by omega)] | rw [zfilR_i, if_pos (by omega)]))
        · (repeat (first | rw [zup_i, if_neg (by omega)] | rw [zup_i, if_pos (by omega)] | rw [zcpm_i, if_neg (by omega)] | rw [zcpm_i, if_pos (by omega)] | rw [zkpM_i, if_neg (by omega)] | rw [zkpM_i, if_pos (by omega)] | rw [zldM_i, if_neg (by omega)] | rw [zldM_i, if_pos (by omega)] | rw [zfil_i, if_neg (by omega)] | rw [zfil_i, if_pos (by omega)] | rw [zfilR_i, if_neg (by omega)] | rw [zfilR_i, if_pos (by omega)]))
    · rcases hI.2.2.1 2 (by decide) with ⟨n1, n2⟩ | ⟨lane, len, p1, p2, p3, p4, p5, p6, p7⟩
      · refine ⟨0, M, _, m_lose_2 M M 0 (Or.inl ⟨n1, rfl, rfl⟩), r_lose_2 M 0 (Or.inl ⟨n2, rfl⟩), hI.sht 2 (by omega) (fun a i z1 z2 z3 z4 z5 => ?_) (Or.inl ⟨?_, ?_⟩)⟩
        · (repeat (first | rw [zup_i, if_neg (by omega)] | rw [zup_i, if_pos (by omega)] | rw [zcpm_i, if_neg (by omega)] | rw [zcpm_i, if_pos (by omega)] | rw [zkpM_i, if_neg (by omega)] | rw [zkpM_i, if_pos (by omega)] | rw [zldM_i, if_neg (by omega)] | rw [zldM_i, if_pos (by omega)] | rw [zfil_i, if_neg (by omega)] | rw [zfil_i, if_pos (by omega)] | rw [zfilR_i, if_neg (by omega)] | rw [zfilR_i, if_pos (by omega)]))
        · rw [zup_i, if_neg (by omega)]; exact n1
        · (repeat (first | rw [zup_i, if_neg (by omega)] | rw [zup_i, if_pos (by omega)] | rw [zcpm_i, if_neg (by omega)] | rw [zcpm_i, if_pos (by omega)] | rw [zkpM_i, if_neg (by omega)] | rw [zkpM_i, if_pos (by omega)] | rw [zldM_i, if_neg (by omega)] | rw [zldM_i, if_pos (by omega)] | rw [zfil_i, if_neg (by omega)] | rw [zfil_i, if_pos (by omega)] | rw [zfilR_i, if_neg (by omega)] | rw [zfilR_i, if_pos (by omega)]))
      · refine ⟨1, _, _, m_lose_2 M _ 1 (Or.inr ⟨(zlane_ne p1 p3).1, rfl, rfl⟩), r_lose_2 (zup (zup M 89 0 (-1)) 89 1 0) 1 (Or.inr ⟨(zlane_ne p1 p4).2, rfl⟩), hI.sht 2 (by omega) (fun a i z1 z2 z3 z4 z5 => ?_) (Or.inl ⟨?_, ?_⟩)⟩
        · (repeat (first | rw [zup_i, if_neg (by omega)] | rw [zup_i, if_pos (by omega)] | rw [zcpm_i, if_neg (by omega)] | rw [zcpm_i, if_pos (by omega)] | rw [zkpM_i, if_neg (by omega)] | rw [zkpM_i, if_pos (by omega)] | rw [zldM_i, if_neg (by omega)] | rw [zldM_i, if_pos (by omega)] | rw [zfil_i, if_neg (by omega)] | rw [zfil_i, if_pos (by omega)] | rw [zfilR_i, if_neg (by omega)] | rw [zfilR_i, if_pos (by omega)]))
        · (repeat (first | rw [zup_i, if_neg (by omega)] | rw [zup_i, if_pos (by omega)] | rw [zcpm_i, if_neg (by omega)] | rw [zcpm_i, if_pos (by omega)] | rw [zkpM_i, if_neg (by omega)] | rw [zkpM_i, if_pos (by omega)] | rw [zldM_i, if_neg (by omega)] | rw [zldM_i, if_pos (by omega)] | rw [zfil_i, if_neg (by omega)] | rw [zfil_i, if_pos (by omega)] | rw [zfilR_i, if_neg (by omega)] | rw [zfilR_i, if_pos (by omega)]))
        · (repeat (first | rw [zup_i, if_neg (by omega)] | rw [zup_i, if_pos (by omega)] | rw [zcpm_i, if_neg (by omega)] | rw [zcpm_i, if_pos (by omega)] | rw [zkpM_i, if_neg (by omega)] | rw [zkpM_i, if_pos (by omega)] | rw [zldM_i, if_neg (by omega)] | rw [zldM_i, if_pos (by omega)] | rw [zfil_i, if_neg (by omega)] | rw [zfil_i, if_pos (by omega)] | rw [zfilR_i, if_neg (by omega)] | rw [zfilR_i, if_pos (by omega)]))
    · rcases hI.2.2.1 3 (by decide) with ⟨n1, n2⟩ | ⟨lane, len, p1, p2, p3, p4, p5, p6, p7⟩
      · refine ⟨0, M, _, m_lose_3 M M 0 (Or.inl ⟨n1, rfl, rfl⟩), r_lose_3 M 0 (Or.inl ⟨n2, rfl⟩), hI.sht 3 (by omega) (fun a i z1 z2 z3 z4 z5 => ?_) (Or.inl ⟨?_, ?_⟩)⟩
        · (repeat (first | rw [zup_i, if_neg (by omega)] | rw [zup_i, if_pos (by omega)] | rw [zcpm_i, if_neg (by omega)] | rw [zcpm_i, if_pos (by omega)] | rw [zkpM_i, if_neg (by omega)] | rw [zkpM_i, if_pos (by omega)] | rw [zldM_i, if_neg (by omega)] | rw [zldM_i, if_pos (by omega)] | rw [zfil_i, if_neg (by omega)] | rw [zfil_i, if_pos (by omega)] | rw [zfilR_i, if_neg (by omega)] | rw [zfilR_i, if_pos (by omega)]))
        · rw [zup_i, if_neg (by omega)]; exact n1
        · (repeat (first | rw [zup_i, if_neg (by omega)] | rw [zup_i, if_pos (by omega)] | rw [zcpm_i, if_neg (by omega)] | rw [zcpm_i, if_pos (by omega)] | rw [zkpM_i, if_neg (by omega)] | rw [zkpM_i, if_pos (by omega)] | rw [zldM_i, if_neg (by omega)] | rw [zldM_i, if_pos (by omega)] | rw [zfil_i, if_neg (by omega)] | rw [zfil_i, if_pos (by omega)] | rw [zfilR_i, if_neg (by omega)] | rw [zfilR_i, if_pos (by omega)]))
      · refine ⟨1, _, _, m_lose_3 M _ 1 (Or.inr ⟨(zlane_ne p1 p3).1, rfl, rfl⟩), r_lose_3 (zup (zup M 91 0 (-1)) 91 1 0) 1 (Or.inr ⟨(zlane_ne p1 p4).2, rfl⟩), hI.sht 3 (by omega) (fun a i z1 z2 z3 z4 z5 => ?_) (Or.inl ⟨?_, ?_⟩)⟩
        · (repeat (first | rw [zup_i, if_neg (by omega)] | rw [zup_i, if_pos (by omega)] | rw [zcpm_i, if_neg (by omega)] | rw [zcpm_i, if_pos (by omega)] | rw [zkpM_i, if_neg (by omega)] | rw [zkpM_i, if_pos (by omega)] | rw [zldM_i, if_neg (by omega)] | rw [zldM_i, if_pos (by omega)] | rw [zfil_i, if_neg (by omega)] | rw [zfil_i, if_pos (by omega)] | rw [zfilR_i, if_neg (by omega)] | rw [zfilR_i, if_pos (by omega)]))
        · (repeat (first | rw [zup_i, if_neg (by omega)] | rw [zup_i, if_pos (by omega)] | rw [zcpm_i, if_neg (by omega)] | rw [zcpm_i, if_pos (by omega)] | rw [zkpM_i, if_neg (by omega)] | rw [zkpM_i, if_pos (by omega)] | rw [zldM_i, if_neg (by omega)] | rw [zldM_i, if_pos (by omega)] | rw [zfil_i, if_neg (by omega)] | rw [zfil_i, if_pos (by omega)] | rw [zfilR_i, if_neg (by omega)] | rw [zfilR_i, if_pos (by omega)]))
        · (repeat (first | rw [zup_i, if_neg (by omega)] | rw [zup_i, if_pos (by omega)] | rw [zcpm_i, if_neg (by omega)] | rw [zcpm_i, if_pos (by omega)] | rw [zkpM_i, if_neg (by omega)] | rw [zkpM_i, if_pos (by omega)] | rw [zldM_i, if_neg (by omega)] | rw [zldM_i, if_pos (by omega)] | rw [zfil_i, if_neg (by omega)] | rw [zfil_i, if_pos (by omega)] | rw [zfilR_i, if_neg (by omega)] | rw [zfilR_i, if_pos (by omega)]))
  · exact ⟨-1, M, M, m_lose_no M k h, r_lose_no M k h, hI⟩
theorem zop21 (M : zMm) (hI : zInv M) (s i n : Int32) : zopI2 59 155 [.int s, .int i, .int n] M := by
  by_cases h : 0 ≤ s.toInt ∧ s.toInt ≤ 3
  · rcases zcases4 s h with rfl | rfl | rfl | rfl
    · rcases hI.2.2.1 0 (by decide) with ⟨n1, n2⟩ | ⟨lane, len, p1, p2, p3, p4, p5, p6, p7⟩
      · exact ⟨-11, _, _, m_put_null_0 M n1 i n, r_put_null (zup (zup M 0 14 0) 0 14 1) 0 (by decide) n2 i n, hI.fr (A1 := []) (B1 := [(0, 14)]) (A2 := []) (B2 := [(93, 0)]) (((zKp.refl _ _ M).up (by simp)).up (by simp)) (((zKp.refl _ _ _).up (by simp)).up (by simp)) (by decide) (by decide)⟩
      · by_cases hi : 0 ≤ i.toInt ∧ i.toInt < len
        · refine ⟨1, _, _, m_put_0 M _ lane len p1 p2 p3 p5 i n 1 (Or.inr ⟨hi, rfl, rfl⟩), r_put (zup (zup M 0 14 0) 86 i.toInt.toNat (zcut lane n)) _ 0 (by decide) lane len p1 p2 (by rw [zup_i, if_neg (by omega), zup_i, if_neg (by omega)]; exact p4) (by rw [zup_i, if_neg (by omega), zup_i, if_neg (by omega)]; exact p6) i n 1 (Or.inr ⟨hi, rfl, rfl⟩), hI.sht 0 (by omega) (fun a i z1 z2 z3 z4 z5 => ?_) (Or.inr ⟨lane, len, p1, p2, ?_, ?_, ?_, ?_, fun j hj => ?_⟩)⟩
          · (repeat (first | rw [zup_i, if_neg (by omega)] | rw [zup_i, if_pos (by omega)] | rw [zcpm_i, if_neg (by omega)] | rw [zcpm_i, if_pos (by omega)] | rw [zkpM_i, if_neg (by omega)] | rw [zkpM_i, if_pos (by omega)] | rw [zldM_i, if_neg (by omega)] | rw [zldM_i, if_pos (by omega)] | rw [zfil_i, if_neg (by omega)] | rw [zfil_i, if_pos (by omega)] | rw [zfilR_i, if_neg (by omega)] | rw [zfilR_i, if_pos (by omega)]))
          · (repeat (first | rw [zup_i, if_neg (by omega)] | rw [zup_i, if_pos (by omega)] | rw [zcpm_i, if_neg (by omega)] | rw [zcpm_i, if_pos (by omega)] | rw [zkpM_i, if_neg (by omega)] | rw [zkpM_i, if_pos (by omega)] | rw [zldM_i, if_neg (by omega)] | rw [zldM_i, if_pos (by omega)] | rw [zfil_i, if_neg (by omega)] | rw [zfil_i, if_pos (by omega)] | rw [zfilR_i, if_neg (by omega)] | rw [zfilR_i, if_pos (by omega)])); exact p3
          · (repeat (first | rw [zup_i, if_neg (by omega)] | rw [zup_i, if_pos (by omega)] | rw [zcpm_i, if_neg (by omega)] | rw [zcpm_i, if_pos (by omega)] | rw [zkpM_i, if_neg (by omega)] | rw [zkpM_i, if_pos (by omega)] | rw [zldM_i, if_neg (by omega)] | rw [zldM_i, if_pos (by omega)] | rw [zfil_i, if_neg (by omega)] | rw [zfil_i, if_pos (by omega)] | rw [zfilR_i, if_neg (by omega)] | rw [zfilR_i, if_pos (by omega)])); exact p4
          · (repeat (first | rw [zup_i, if_neg (by omega)] | rw [zup_i, if_pos (by omega)] | rw [zcpm_i, if_neg (by omega)] | rw [zcpm_i, if_pos (by omega)] | rw [zkpM_i, if_neg (by omega)] | rw [zkpM_i, if_pos (by omega)] | rw [zldM_i, if_neg (by omega)] | rw [zldM_i, if_pos (by omega)] | rw [zfil_i, if_neg (by omega)] | rw [zfil_i, if_pos (by omega)] | rw [zfilR_i, if_neg (by omega)] | rw [zfilR_i, if_pos (by omega)])); exact p5
          · (repeat (first | rw [zup_i, if_neg (by omega)] | rw [zup_i, if_pos (by omega)] | rw [zcpm_i, if_neg (by omega)] | rw [zcpm_i, if_pos (by omega)] | rw [zkpM_i, if_neg (by omega)] | rw [zkpM_i, if_pos (by omega)] | rw [zldM_i, if_neg (by omega)] | rw [zldM_i, if_pos (by omega)] | rw [zfil_i, if_neg (by omega)] | rw [zfil_i, if_pos (by omega)] | rw [zfilR_i, if_neg (by omega)] | rw [zfilR_i, if_pos (by omega)])); exact p6
          · by_cases hz : j = i.toInt.toNat
            · (repeat (first | rw [zup_i, if_neg (by omega)] | rw [zup_i, if_pos (by omega)] | rw [zcpm_i, if_neg (by omega)] | rw [zcpm_i, if_pos (by omega)] | rw [zkpM_i, if_neg (by omega)] | rw [zkpM_i, if_pos (by omega)] | rw [zldM_i, if_neg (by omega)] | rw [zldM_i, if_pos (by omega)] | rw [zfil_i, if_neg (by omega)] | rw [zfil_i, if_pos (by omega)] | rw [zfilR_i, if_neg (by omega)] | rw [zfilR_i, if_pos (by omega)]))
            · (repeat (first | rw [zup_i, if_neg (by omega)] | rw [zup_i, if_pos (by omega)] | rw [zcpm_i, if_neg (by omega)] | rw [zcpm_i, if_pos (by omega)] | rw [zkpM_i, if_neg (by omega)] | rw [zkpM_i, if_pos (by omega)] | rw [zldM_i, if_neg (by omega)] | rw [zldM_i, if_pos (by omega)] | rw [zfil_i, if_neg (by omega)] | rw [zfil_i, if_pos (by omega)] | rw [zfilR_i, if_neg (by omega)] | rw [zfilR_i, if_pos (by omega)])); exact p7 j hj
        · exact ⟨-13, _, _, m_put_0 M _ lane len p1 p2 p3 p5 i n _ (Or.inl ⟨hi, rfl, rfl⟩), r_put (zup (zup M 0 14 0) 0 14 3) _ 0 (by decide) lane len p1 p2 p4 p6 i n _ (Or.inl ⟨hi, rfl, rfl⟩), hI.fr (A1 := []) (B1 := [(0, 14)]) (A2 := []) (B2 := [(93, 0)]) (((zKp.refl _ _ M).up (by simp)).up (by simp)) (((zKp.refl _ _ _).up (by simp)).up (by simp)) (by decide) (by decide)⟩
    · rcases hI.2.2.1 1 (by decide) with ⟨n1, n2⟩ | ⟨lane, len, p1, p2, p3, p4, p5, p6, p7⟩
      · exact ⟨-11, _, _, m_put_null_1 M n1 i n, r_put_null (zup (zup M 0 14 0) 0 14 1) 1 (by decide) n2 i n, hI.fr (A1 := []) (B1 := [(0, 14)]) (A2 := []) (B2 := [(93, 0)]) (((zKp.refl _ _ M).up (by simp)).up (by simp)) (((zKp.refl _ _ _).up (by simp)).up (by simp)) (by decide) (by decide)⟩
      · by_cases hi : 0 ≤ i.toInt ∧ i.toInt < len
        · refine ⟨1, _, _, m_put_1 M _ lane len p1 p2 p3 p5 i n 1 (Or.inr ⟨hi, rfl, rfl⟩), r_put (zup (zup M 0 14 0) 88 i.toInt.toNat (zcut lane n)) _ 1 (by decide) lane len p1 p2 (by rw [zup_i, if_neg (by omega), zup_i, if_neg (by omega)]; exact p4) (by rw [zup_i, if_neg (by omega), zup_i, if_neg (by omega)]; exact p6) i n 1 (Or.inr ⟨hi, rfl, rfl⟩), hI.sht 1 (by omega) (fun a i z1 z2 z3 z4 z5 => ?_) (Or.inr ⟨lane, len, p1, p2, ?_, ?_, ?_, ?_, fun j hj => ?_⟩)⟩
          · (repeat (first | rw [zup_i, if_neg (by omega)] | rw [zup_i, if_pos (by omega)] | rw [zcpm_i, if_neg (by omega)] | rw [zcpm_i, if_pos (by omega)] | rw [zkpM_i, if_neg (by omega)] | rw [zkpM_i, if_pos (by omega)] | rw [zldM_i, if_neg (by omega)] | rw [zldM_i, if_pos (by omega)] | rw [zfil_i, if_neg (by omega)] | rw [zfil_i, if_pos (by omega)] | rw [zfilR_i, if_neg (by omega)] | rw [zfilR_i, if_pos (by omega)]))
          · (repeat (first | rw [zup_i, if_neg (by omega)] | rw [zup_i, if_pos (by omega)] | rw [zcpm_i, if_neg (by omega)] | rw [zcpm_i, if_pos (by omega)] | rw [zkpM_i, if_neg (by omega)] | rw [zkpM_i, if_pos (by omega)] | rw [zldM_i, if_neg (by omega)] | rw [zldM_i, if_pos (by omega)] | rw [zfil_i, if_neg (by omega)] | rw [zfil_i, if_pos (by omega)] | rw [zfilR_i, if_neg (by omega)] | rw [zfilR_i, if_pos (by omega)])); exact p3
          · (repeat (first | rw [zup_i, if_neg (by omega)] | rw [zup_i, if_pos (by omega)] | rw [zcpm_i, if_neg (by omega)] | rw [zcpm_i, if_pos (by omega)] | rw [zkpM_i, if_neg (by omega)] | rw [zkpM_i, if_pos (by omega)] | rw [zldM_i, if_neg (by omega)] | rw [zldM_i, if_pos (by omega)] | rw [zfil_i, if_neg (by omega)] | rw [zfil_i, if_pos (by omega)] | rw [zfilR_i, if_neg (by omega)] | rw [zfilR_i, if_pos (by omega)])); exact p4
          · (repeat (first | rw [zup_i, if_neg (by omega)] | rw [zup_i, if_pos (by omega)] | rw [zcpm_i, if_neg (by omega)] | rw [zcpm_i, if_pos (by omega)] | rw [zkpM_i, if_neg (by omega)] | rw [zkpM_i, if_pos (by omega)] | rw [zldM_i, if_neg (by omega)] | rw [zldM_i, if_pos (by omega)] | rw [zfil_i, if_neg (by omega)] | rw [zfil_i, if_pos (by omega)] | rw [zfilR_i, if_neg (by omega)] | rw [zfilR_i, if_pos (by omega)])); exact p5
          · (repeat (first | rw [zup_i, if_neg (by omega)] | rw [zup_i, if_pos (by omega)] | rw [zcpm_i, if_neg (by omega)] | rw [zcpm_i, if_pos (by omega)] | rw [zkpM_i, if_neg (by omega)] | rw [zkpM_i, if_pos (by omega)] | rw [zldM_i, if_neg (by omega)] | rw [zldM_i, if_pos (by omega)] | rw [zfil_i, if_neg (by omega)] | rw [zfil_i, if_pos (by omega)] | rw [zfilR_i, if_neg (by omega)] | rw [zfilR_i, if_pos (by omega)])); exact p6
          · by_cases hz : j = i.toInt.toNat
            · (repeat (first | rw [zup_i, if_neg (by omega)] | rw [zup_i, if_pos (by omega)] | rw [zcpm_i, if_neg (by omega)] | rw [zcpm_i, if_pos (by omega)] | rw [zkpM_i, if_neg (by omega)] | rw [zkpM_i, if_pos (by omega)] | rw [zldM_i, if_neg (by omega)] | rw [zldM_i, if_pos (by omega)] | rw [zfil_i, if_neg (by omega)] | rw [zfil_i, if_pos (by omega)] | rw [zfilR_i, if_neg (by omega)] | rw [zfilR_i, if_pos (by omega)]))
            · (repeat (first | rw [zup_i, if_neg (by omega)] | rw [zup_i, if_pos (by omega)] | rw [zcpm_i, if_neg (by omega)] | rw [zcpm_i, if_pos (by omega)] | rw [zkpM_i, if_neg (by omega)] | rw [zkpM_i, if_pos (by omega)] | rw [zldM_i, if_neg (by omega)] | rw [zldM_i, if_pos (by omega)] | rw [zfil_i, if_neg (by omega)] | rw [zfil_i, if_pos (by omega)] | rw [zfilR_i, if_neg (by omega)] | rw [zfilR_i, if_pos (by omega)])); exact p7 j hj
        · exact ⟨-13, _, _, m_put_1 M _ lane len p1 p2 p3 p5 i n _ (Or.inl ⟨hi, rfl, rfl⟩), r_put (zup (zup M 0 14 0) 0 14 3) _ 1 (by decide) lane len p1 p2 p4 p6 i n _ (Or.inl ⟨hi, rfl, rfl⟩), hI.fr (A1 := []) (B1 := [(0, 14)]) (A2 := []) (B2 := [(93, 0)]) (((zKp.refl _ _ M).up (by simp)).up (by simp)) (((zKp.refl _ _ _).up (by simp)).up (by simp)) (by decide) (by decide)⟩
    · rcases hI.2.2.1 2 (by decide) with ⟨n1, n2⟩ | ⟨lane, len, p1, p2, p3, p4, p5, p6, p7⟩
      · exact ⟨-11, _, _, m_put_null_2 M n1 i n, r_put_null (zup (zup M 0 14 0) 0 14 1) 2 (by decide) n2 i n, hI.fr (A1 := []) (B1 := [(0, 14)]) (A2 := []) (B2 := [(93, 0)]) (((zKp.refl _ _ M).up (by simp)).up (by simp)) (((zKp.refl _ _ _).up (by simp)).up (by simp)) (by decide) (by decide)⟩
      · by_cases hi : 0 ≤ i.toInt ∧ i.toInt < len
        · refine ⟨1, _, _, m_put_2 M _ lane len p1 p2 p3 p5 i n 1 (Or.inr ⟨hi, rfl, rfl⟩), r_put (zup (zup M 0 14 0) 90 i.toInt.toNat (zcut lane n)) _ 2 (by decide) lane len p1 p2 (by rw [zup_i, if_neg (by omega), zup_i, if_neg (by omega)]; exact p4) (by rw [zup_i, if_neg (by omega), zup_i, if_neg (by omega)]; exact p6) i n 1 (Or.inr ⟨hi, rfl, rfl⟩), hI.sht 2 (by omega) (fun a i z1 z2 z3 z4 z5 => ?_) (Or.inr ⟨lane, len, p1, p2, ?_, ?_, ?_, ?_, fun j hj => ?_⟩)⟩
          · (repeat (first | rw [zup_i, if_neg (by omega)] | rw [zup_i, if_pos (by omega)] | rw [zcpm_i, if_neg (by omega)] | rw [zcpm_i, if_pos (by omega)] | rw [zkpM_i, if_neg (by omega)] | rw [zkpM_i, if_pos (by omega)] | rw [zldM_i, if_neg (by omega)] | rw [zldM_i, if_pos (by omega)] | rw [zfil_i, if_neg (by omega)] | rw [zfil_i, if_pos (by omega)] | rw [zfilR_i, if_neg (by omega)] | rw [zfilR_i, if_pos (by omega)]))
          · (repeat (first | rw [zup_i, if_neg (by omega)] | rw [zup_i, if_pos (by omega)] | rw [zcpm_i, if_neg (by omega)] | rw [zcpm_i, if_pos (by omega)] | rw [zkpM_i, if_neg (by omega)] | rw [zkpM_i, if_pos (by omega)] | rw [zldM_i, if_neg (by omega)] | rw [zldM_i, if_pos (by omega)] | rw [zfil_i, if_neg (by omega)] | rw [zfil_i, if_pos (by omega)] | rw [zfilR_i, if_neg (by omega)] | rw [zfilR_i, if_pos (by omega)])); exact p3
          · (repeat (first | rw [zup_i, if_neg (by omega)] | rw [zup_i, if_pos (by omega)] | rw [zcpm_i, if_neg (by omega)] | rw [zcpm_i, if_pos (by omega)] | rw [zkpM_i, if_neg (by omega)] | rw [zkpM_i, if_pos (by omega)] | rw [zldM_i, if_neg (by omega)] | rw [zldM_i, if_pos (by omega)] | rw [zfil_i, if_neg (by omega)] | rw [zfil_i, if_pos (by omega)] | rw [zfilR_i, if_neg (by omega)] | rw [zfilR_i, if_pos (by omega)])); exact p4
          · (repeat (first | rw [zup_i, if_neg (by omega)] | rw [zup_i, if_pos (by omega)] | rw [zcpm_i, if_neg (by omega)] | rw [zcpm_i, if_pos (by omega)] | rw [zkpM_i, if_neg (by omega)] | rw [zkpM_i, if_pos (by omega)] | rw [zldM_i, if_neg (by omega)] | rw [zldM_i, if_pos (by omega)] | rw [zfil_i, if_neg (by omega)] | rw [zfil_i, if_pos (by omega)] | rw [zfilR_i, if_neg (by omega)] | rw [zfilR_i, if_pos (by omega)])); exact p5
          · (repeat (first | rw [zup_i, if_neg (by omega)] | rw [zup_i, if_pos (by omega)] | rw [zcpm_i, if_neg (by omega)] | rw [zcpm_i, if_pos (by omega)] | rw [zkpM_i, if_neg (by omega)] | rw [zkpM_i, if_pos (by omega)] | rw [zldM_i, if_neg (by omega)] | rw [zldM_i, if_pos (by omega)] | rw [zfil_i, if_neg (by omega)] | rw [zfil_i, if_pos (by omega)] | rw [zfilR_i, if_neg (by omega)] | rw [zfilR_i, if_pos (by omega)])); exact p6
          · by_cases hz : j = i.toInt.toNat
            · (repeat (first | rw [zup_i, if_neg (by omega)] | rw [zup_i, if_pos (by omega)] | rw [zcpm_i, if_neg (by omega)] | rw [zcpm_i, if_pos (by omega)] | rw [zkpM_i, if_neg (by omega)] | rw [zkpM_i, if_pos (by omega)] | rw [zldM_i, if_neg (by omega)] | rw [zldM_i, if_pos (by omega)] | rw [zfil_i, if_neg (by omega)] | rw [zfil_i, if_pos (by omega)] | rw [zfilR_i, if_neg (by omega)] | rw [zfilR_i, if_pos (by omega)]))
            · (repeat (first | rw [zup_i, if_neg (by omega)] | rw [zup_i, if_pos (by omega)] | rw [zcpm_i, if_neg (by omega)] | rw [zcpm_i, if_pos (by omega)] | rw [zkpM_i, if_neg (by omega)] | rw [zkpM_i, if_pos (by omega)] | rw [zldM_i, if_neg (by omega)] | rw [zldM_i, if_pos (by omega)] | rw [zfil_i, if_neg (by omega)] | rw [zfil_i, if_pos (by omega)] | rw [zfilR_i, if_neg (by omega)] | rw [zfilR_i, if_pos (by omega)])); exact p7 j hj
        · exact ⟨-13, _, _, m_put_2 M _ lane len p1 p2 p3 p5 i n _ (Or.inl ⟨hi, rfl, rfl⟩), r_put (zup (zup M 0 14 0) 0 14 3) _ 2 (by decide) lane len p1 p2 p4 p6 i n _ (Or.inl ⟨hi, rfl, rfl⟩), hI.fr (A1 := []) (B1 := [(0, 14)]) (A2 := []) (B2 := [(93, 0)]) (((zKp.refl _ _ M).up (by simp)).up (by simp)) (((zKp.refl _ _ _).up (by simp)).up (by simp)) (by decide) (by decide)⟩
    · rcases hI.2.2.1 3 (by decide) with ⟨n1, n2⟩ | ⟨lane, len, p1, p2, p3, p4, p5, p6, p7⟩
      · exact ⟨-11, _, _, m_put_null_3 M n1 i n, r_put_null (zup (zup M 0 14 0) 0 14 1) 3 (by decide) n2 i n, hI.fr (A1 := []) (B1 := [(0, 14)]) (A2 := []) (B2 := [(93, 0)]) (((zKp.refl _ _ M).up (by simp)).up (by simp)) (((zKp.refl _ _ _).up (by simp)).up (by simp)) (by decide) (by decide)⟩
      · by_cases hi : 0 ≤ i.toInt ∧ i.toInt < len
        · refine ⟨1, _, _, m_put_3 M _ lane len p1 p2 p3 p5 i n 1 (Or.inr ⟨hi, rfl, rfl⟩), r_put (zup (zup M 0 14 0) 92 i.toInt.toNat (zcut lane n)) _ 3 (by decide) lane len p1 p2 (by rw [zup_i, if_neg (by omega), zup_i, if_neg (by omega)]; exact p4) (by rw [zup_i, if_neg (by omega), zup_i, if_neg (by omega)]; exact p6) i n 1 (Or.inr ⟨hi, rfl, rfl⟩), hI.sht 3 (by omega) (fun a i z1 z2 z3 z4 z5 => ?_) (Or.inr ⟨lane, len, p1, p2, ?_, ?_, ?_, ?_, fun j hj => ?_⟩)⟩
          · (repeat (first | rw [zup_i, if_neg (by omega)] | rw [zup_i, if_pos (by omega)] | rw [zcpm_i, if_neg (by omega)] | rw [zcpm_i, if_pos (by omega)] | rw [zkpM_i, if_neg (by omega)] | rw [zkpM_i, if_pos (by omega)] | rw [zldM_i, if_neg (by omega)] | rw [zldM_i, if_pos (by omega)] | rw [zfil_i, if_neg (by omega)] | rw [zfil_i, if_pos (by omega)] | rw [zfilR_i, if_neg (by omega)] | rw [zfilR_i, if_pos (by omega)]))
          · (repeat (first | rw [zup_i, if_neg (by omega)] | rw [zup_i, if_pos (by omega)] | rw [zcpm_i, if_neg (by omega)] | rw [zcpm_i, if_pos (by omega)] | rw [zkpM_i, if_neg (by omega)] | rw [zkpM_i, if_pos (by omega)] | rw [zldM_i, if_neg (by omega)] | rw [zldM_i, if_pos (by omega)] | rw [zfil_i, if_neg (by omega)] | rw [zfil_i, if_pos (by omega)] | rw [zfilR_i, if_neg (by omega)] | rw [zfilR_i, if_pos (by omega)])); exact p3
          · (repeat (first | rw [zup_i, if_neg (by omega)] | rw [zup_i, if_pos (by omega)] | rw [zcpm_i, if_neg (by omega)] | rw [zcpm_i, if_pos (by omega)] | rw [zkpM_i, if_neg (by omega)] | rw [zkpM_i, if_pos (by omega)] | rw [zldM_i, if_neg (by omega)] | rw [zldM_i, if_pos (by omega)] | rw [zfil_i, if_neg (by omega)] | rw [zfil_i, if_pos (by omega)] | rw [zfilR_i, if_neg (by omega)] | rw [zfilR_i, if_pos (by omega)])); exact p4
          · (repeat (first | rw [zup_i, if_neg (by omega)] | rw [zup_i, if_pos (by omega)] | rw [zcpm_i, if_neg (by omega)] | rw [zcpm_i, if_pos (by omega)] | rw [zkpM_i, if_neg (by omega)] | rw [zkpM_i, if_pos (by omega)] | rw [zldM_i, if_neg (by omega)] | rw [zldM_i, if_pos (by omega)] | rw [zfil_i, if_neg (by omega)] | rw [zfil_i, if_pos (by omega)] | rw [zfilR_i, if_neg (by omega)] | rw [zfilR_i, if_pos (by omega)])); exact p5
          · (repeat (first | rw [zup_i, if_neg (by omega)] | rw [zup_i, if_pos (by omega)] | rw [zcpm_i, if_neg (by omega)] | rw [zcpm_i, if_pos (by omega)] | rw [zkpM_i, if_neg (by omega)] | rw [zkpM_i, if_pos (by omega)] | rw [zldM_i, if_neg (by omega)] | rw [zldM_i, if_pos (by omega)] | rw [zfil_i, if_neg (by omega)] | rw [zfil_i, if_pos (by omega)] | rw [zfilR_i, if_neg (by omega)] | rw [zfilR_i, if_pos (by omega)])); exact p6
          · by_cases hz : j = i.toInt.toNat
            · (repeat (first | rw [zup_i, if_neg (by omega)] | rw [zup_i, if_pos (by omega)] | rw [zcpm_i, if_neg (by omega)] | rw [zcpm_i, if_pos (by omega)] | rw [zkpM_i, if_neg (by omega)] | rw [zkpM_i, if_pos (by omega)] | rw [zldM_i, if_neg (by omega)] | rw [zldM_i, if_pos (by omega)] | rw [zfil_i, if_neg (by omega)] | rw [zfil_i, if_pos (by omega)] | rw [zfilR_i, if_neg (by omega)] | rw [zfilR_i, if_pos (by omega)]))
            · (repeat (first | rw [zup_i, if_neg (by omega)] | rw [zup_i, if_pos (by omega)] | rw [zcpm_i, if_neg (by omega)] | rw [zcpm_i, if_pos (by omega)] | rw [zkpM_i, if_neg (by omega)] | rw [zkpM_i, if_pos (by omega)] | rw [zldM_i, if_neg (by omega)] | rw [zldM_i, if_pos (by omega)] | rw [zfil_i, if_neg (by omega)] | rw [zfil_i, if_pos (by omega)] | rw [zfilR_i, if_neg (by omega)] | rw [zfilR_i, if_pos (by omega)])); exact p7 j hj
        · exact ⟨-13, _, _, m_put_3 M _ lane len p1 p2 p3 p5 i n _ (Or.inl ⟨hi, rfl, rfl⟩), r_put (zup (zup M 0 14 0) 0 14 3) _ 3 (by decide) lane len p1 p2 p4 p6 i n _ (Or.inl ⟨hi, rfl, rfl⟩), hI.fr (A1 := []) (B1 := [(0, 14)]) (A2 := []) (B2 := [(93, 0)]) (((zKp.refl _ _ M).up (by simp)).up (by simp)) (((zKp.refl _ _ _).up (by simp)).up (by simp)) (by decide) (by decide)⟩
  · exact ⟨-1, _, _, m_put_no M s i n h, r_put_no _ s i n h, hI.fr (A1 := []) (B1 := [(0, 14)]) (A2 := []) (B2 := [(93, 0)]) ((zKp.refl _ _ M).up (by simp)) ((zKp.refl _ _ _).up (by simp)) (by decide) (by decide)⟩
theorem zop22 (M : zMm) (hI : zInv M) (s i l : Int32) : zopL2 60 156 [.int s, .int i, .int l] M := by
  by_cases h : (0 ≤ s.toInt ∧ s.toInt ≤ 3) ∧ (0 ≤ l.toInt ∧ l.toInt ≤ 2)
  · rcases zcases4 s h.1 with rfl | rfl | rfl | rfl
    · rcases hI.2.2.1 0 (by decide) with ⟨n1, n2⟩ | ⟨lane, len, p1, p2, p3, p4, p5, p6, p7⟩
      · exact ⟨zlost, _, _, m_at_null_0 M n1 i l h.2, r_at_null (zup (zup M 0 14 0) 0 14 1) 0 (by decide) n2 i l h.2, hI.fr (A1 := []) (B1 := [(0, 14)]) (A2 := []) (B2 := [(93, 0)]) (((zKp.refl _ _ M).up (by simp)).up (by simp)) (((zKp.refl _ _ _).up (by simp)).up (by simp)) (by decide) (by decide)⟩
      · by_cases hl : l = nI lane
        · by_cases hi : 0 ≤ i.toInt ∧ i.toInt < len
          · exact ⟨_, _, _, m_at_0 M _ lane len p1 p2 p3 p5 i l h.2 _ (Or.inr (Or.inr ⟨hl, hi, rfl, rfl⟩)), r_at (zup M 0 14 0) _ 0 (by decide) lane len p1 p2 p4 p6 i l h.2 _ (Or.inr (Or.inr ⟨hl, hi, by rw [zup_i, if_neg (by omega), p7 _ (by omega)], rfl⟩)), hI.fr (A1 := []) (B1 := [(0, 14)]) (A2 := []) (B2 := [(93, 0)]) ((zKp.refl _ _ M).up (by simp)) ((zKp.refl _ _ _).up (by simp)) (by decide) (by decide)⟩
          · exact ⟨zlost, _, _, m_at_0 M _ lane len p1 p2 p3 p5 i l h.2 _ (Or.inr (Or.inl ⟨hl, hi, rfl, rfl⟩)), r_at (zup (zup M 0 14 0) 0 14 3) _ 0 (by decide) lane len p1 p2 p4 p6 i l h.2 _ (Or.inr (Or.inl ⟨hl, hi, rfl, rfl⟩)), hI.fr (A1 := []) (B1 := [(0, 14)]) (A2 := []) (B2 := [(93, 0)]) (((zKp.refl _ _ M).up (by simp)).up (by simp)) (((zKp.refl _ _ _).up (by simp)).up (by simp)) (by decide) (by decide)⟩
        · exact ⟨zlost, _, _, m_at_0 M _ lane len p1 p2 p3 p5 i l h.2 _ (Or.inl ⟨hl, rfl, rfl⟩), r_at (zup (zup M 0 14 0) 0 14 2) _ 0 (by decide) lane len p1 p2 p4 p6 i l h.2 _ (Or.inl ⟨hl, rfl, rfl⟩), hI.fr (A1 := []) (B1 := [(0, 14)]) (A2 := []) (B2 := [(93, 0)]) (((zKp.refl _ _ M).up (by simp)).up (by simp)) (((zKp.refl _ _ _).up (by simp)).up (by simp)) (by decide) (by decide)⟩
    · rcases hI.2.2.1 1 (by decide) with ⟨n1, n2⟩ | ⟨lane, len, p1, p2, p3, p4, p5, p6, p7⟩
      · exact ⟨zlost, _, _, m_at_null_1 M n1 i l h.2, r_at_null (zup (zup M 0 14 0) 0 14 1) 1 (by decide) n2 i l h.2, hI.fr (A1 := []) (B1 := [(0, 14)]) (A2 := []) (B2 := [(93, 0)]) (((zKp.refl _ _ M).up (by simp)).up (by simp)) (((zKp.refl _ _ _).up (by simp)).up (by simp)) (by decide) (by decide)⟩
      · by_cases hl : l = nI lane
        · by_cases hi : 0 ≤ i.toInt ∧ i.toInt < len
          · exact ⟨_, _, _, m_at_1 M _ lane len p1 p2 p3 p5 i l h.2 _ (Or.inr (Or.inr ⟨hl, hi, rfl, rfl⟩)), r_at (zup M 0 14 0) _ 1 (by decide) lane len p1 p2 p4 p6 i l h.2 _ (Or.inr (Or.inr ⟨hl, hi, by rw [zup_i, if_neg (by omega), p7 _ (by omega)], rfl⟩)), hI.fr (A1 := []) (B1 := [(0, 14)]) (A2 := []) (B2 := [(93, 0)]) ((zKp.refl _ _ M).up (by simp)) ((zKp.refl _ _ _).up (by simp)) (by decide) (by decide)⟩
          · exact ⟨zlost, _, _, m_at_1 M _ lane len p1 p2 p3 p5 i l h.2 _ (Or.inr (Or.inl ⟨hl, hi, rfl, rfl⟩)), r_at (zup (zup M 0 14 0) 0 14 3) _ 1 (by decide) lane len p1 p2 p4 p6 i l h.2 _ (Or.inr (Or.inl ⟨hl, hi, rfl, rfl⟩)), hI.fr (A1 := []) (B1 := [(0, 14)]) (A2 := []) (B2 := [(93, 0)]) (((zKp.refl _ _ M).up (by simp)).up (by simp)) (((zKp.refl _ _ _).up (by simp)).up (by simp)) (by decide) (by decide)⟩
        · exact ⟨zlost, _, _, m_at_1 M _ lane len p1 p2 p3 p5 i l h.2 _ (Or.inl ⟨hl, rfl, rfl⟩), r_at (zup (zup M 0 14 0) 0 14 2) _ 1 (by decide) lane len p1 p2 p4 p6 i l h.2 _ (Or.inl ⟨hl, rfl, rfl⟩), hI.fr (A1 := []) (B1 := [(0, 14)]) (A2 := []) (B2 := [(93, 0)]) (((zKp.refl _ _ M).up (by simp)).up (by simp)) (((zKp.refl _ _ _).up (by simp)).up (by simp)) (by decide) (by decide)⟩
    · rcases hI.2.2.1 2 (by decide) with ⟨n1, n2⟩ | ⟨lane, len, p1, p2, p3, p4, p5, p6, p7⟩
      · exact ⟨zlost, _, _, m_at_null_2 M n1 i l h.2, r_at_null (zup (zup M 0 14 0) 0 14 1) 2 (by decide) n2 i l h.2, hI.fr (A1 := []) (B1 := [(0, 14)]) (A2 := []) (B2 := [(93, 0)]) (((zKp.refl _ _ M).up (by simp)).up (by simp)) (((zKp.refl _ _ _).up (by simp)).up (by simp)) (by decide) (by decide)⟩
      · by_cases hl : l = nI lane
        · by_cases hi : 0 ≤ i.toInt ∧ i.toInt < len
          · exact ⟨_, _, _, m_at_2 M _ lane len p1 p2 p3 p5 i l h.2 _ (Or.inr (Or.inr ⟨hl, hi, rfl, rfl⟩)), r_at (zup M 0 14 0) _ 2 (by decide) lane len p1 p2 p4 p6 i l h.2 _ (Or.inr (Or.inr ⟨hl, hi, by rw [zup_i, if_neg (by omega), p7 _ (by omega)], rfl⟩)), hI.fr (A1 := []) (B1 := [(0, 14)]) (A2 := []) (B2 := [(93, 0)]) ((zKp.refl _ _ M).up (by simp)) ((zKp.refl _ _ _).up (by simp)) (by decide) (by decide)⟩
          · exact ⟨zlost, _, _, m_at_2 M _ lane len p1 p2 p3 p5 i l h.2 _ (Or.inr (Or.inl ⟨hl, hi, rfl, rfl⟩)), r_at (zup (zup M 0 14 0) 0 14 3) _ 2 (by decide) lane len p1 p2 p4 p6 i l h.2 _ (Or.inr (Or.inl ⟨hl, hi, rfl, rfl⟩)), hI.fr (A1 := []) (B1 := [(0, 14)]) (A2 := []) (B2 := [(93, 0)]) (((zKp.refl _ _ M).up (by simp)).up (by simp)) (((zKp.refl _ _ _).up (by simp)).up (by simp)) (by decide) (by decide)⟩
        · exact ⟨zlost, _, _, m_at_2 M _ lane len p1 p2 p3 p5 i l h.2 _ (Or.inl ⟨hl, rfl, rfl⟩), r_at (zup (zup M 0 14 0) 0 14 2) _ 2 (by decide) lane len p1 p2 p4 p6 i l h.2 _ (Or.inl ⟨hl, rfl, rfl⟩), hI.fr (A1 := []) (B1 := [(0, 14)]) (A2 := []) (B2 := [(93, 0)]) (((zKp.refl _ _ M).up (by simp)).up (by simp)) (((zKp.refl _ _ _).up (by simp)).up (by simp)) (by decide) (by decide)⟩
    · rcases hI.2.2.1 3 (by decide) with ⟨n1, n2⟩ | ⟨lane, len, p1, p2, p3, p4, p5, p6, p7⟩
      · exact ⟨zlost, _, _, m_at_null_3 M n1 i l h.2, r_at_null (zup (zup M 0 14 0) 0 14 1) 3 (by decide) n2 i l h.2, hI.fr (A1 := []) (B1 := [(0, 14)]) (A2 := []) (B2 := [(93, 0)]) (((zKp.refl _ _ M).up (by simp)).up (by simp)) (((zKp.refl _ _ _).up (by simp)).up (by simp)) (by decide) (by decide)⟩
      · by_cases hl : l = nI lane
        · by_cases hi : 0 ≤ i.toInt ∧ i.toInt < len
          · exact ⟨_, _, _, m_at_3 M _ lane len p1 p2 p3 p5 i l h.2 _ (Or.inr (Or.inr ⟨hl, hi, rfl, rfl⟩)), r_at (zup M 0 14 0) _ 3 (by decide) lane len p1 p2 p4 p6 i l h.2 _ (Or.inr (Or.inr ⟨hl, hi, by rw [zup_i, if_neg (by omega), p7 _ (by omega)], rfl⟩)), hI.fr (A1 := []) (B1 := [(0, 14)]) (A2 := []) (B2 := [(93, 0)]) ((zKp.refl _ _ M).up (by simp)) ((zKp.refl _ _ _).up (by simp)) (by decide) (by decide)⟩
          · exact ⟨zlost, _, _, m_at_3 M _ lane len p1 p2 p3 p5 i l h.2 _ (Or.inr (Or.inl ⟨hl, hi, rfl, rfl⟩)), r_at (zup (zup M 0 14 0) 0 14 3) _ 3 (by decide) lane len p1 p2 p4 p6 i l h.2 _ (Or.inr (Or.inl ⟨hl, hi, rfl, rfl⟩)), hI.fr (A1 := []) (B1 := [(0, 14)]) (A2 := []) (B2 := [(93, 0)]) (((zKp.refl _ _ M).up (by simp)).up (by simp)) (((zKp.refl _ _ _).up (by simp)).up (by simp)) (by decide) (by decide)⟩
        · exact ⟨zlost, _, _, m_at_3 M _ lane len p1 p2 p3 p5 i l h.2 _ (Or.inl ⟨hl, rfl, rfl⟩), r_at (zup (zup M 0 14 0) 0 14 2) _ 3 (by decide) lane len p1 p2 p4 p6 i l h.2 _ (Or.inl ⟨hl, rfl, rfl⟩), hI.fr (A1 := []) (B1 := [(0, 14)]) (A2 := []) (B2 := [(93, 0)]) (((zKp.refl _ _ M).up (by simp)).up (by simp)) (((zKp.refl _ _ _).up (by simp)).up (by simp)) (by decide) (by decide)⟩
  · exact ⟨zlost, _, _, m_at_no M s i l h, r_at_no _ s i l h, hI.fr (A1 := []) (B1 := [(0, 14)]) (A2 := []) (B2 := [(93, 0)]) ((zKp.refl _ _ M).up (by simp)) ((zKp.refl _ _ _).up (by simp)) (by decide) (by decide)⟩
theorem zop23 (M : zMm) (hI : zInv M) (p : Int32) : zopI2 61 158 [.int p] M := by
  obtain ⟨dom, q, W, L, hm, hr⟩ := hI.1
  by_cases h : 0 ≤ p.toInt ∧ p.toInt < L.length
  · obtain ⟨e, he, hpl⟩ := zplace_in h
    rw [znat h.1]
    obtain ⟨v, T', hv⟩ := ztell_ex dom q e (M.1 0 13)
    obtain ⟨r1, M1, y1, rfl, t1, e1⟩ := m_tell M dom q W L hm p.toInt.toNat e he v T' hv
    obtain ⟨r2, M2, y2, rfl, t2, e2⟩ := r_tell M1 dom q W L (hr.low e1 (by decide)) p.toInt.toNat e he v T' (by rw [zlow e1 (by decide) 93 1 (by omega), ← hI.2.2.2.2]; exact hv)
    exact ⟨v, M1, M2, y1, y2, hI.trc (fun a i z1 z2 z3 z4 => (e2 a i (by simp <;> omega) (by simp <;> omega)).1.trans (e1 a i (by simp <;> omega) (by simp <;> omega)).1) (by rw [t2, zhigh e2 (by decide) 0 13 (by omega), t1])⟩
  · exact ⟨-1, M, M, m_tell_no M L.length hm.1.1 hm.1.2.1 p h, r_tell_no M L.length hr.1.1 hr.1.2.1 p h, hI⟩
theorem zop24 (M : zMm) (hI : zInv M) (p : Int32) : zopI2 62 159 [.int p] M := by
  obtain ⟨dom, q, W, L, hm, hr⟩ := hI.1
  by_cases h : 0 ≤ p.toInt ∧ p.toInt < L.length
  · obtain ⟨e, he, hpl⟩ := zplace_in h
    rw [znat h.1]
    obtain ⟨v, T', hv⟩ : ∃ v T', zcountV dom q e p.toInt.toNat (M.1 0 13) v T' := by
      by_cases hd : zdom dom q e.1.1.toInt e.1.2.toInt
      · exact ⟨_, _, Or.inl ⟨hd, rfl, rfl⟩⟩
      · exact ⟨_, _, Or.inr ⟨hd, rfl, rfl⟩⟩
    have y1 := m_count M dom q W L hm p.toInt.toNat e he v T' hv
    have e1 : zKp [] [(0, 13)] M (zup M 0 13 T') := (zKp.refl _ _ M).up (by simp)
    have y2 := r_count (zup M 0 13 T') dom q W L (hr.low e1 (by decide)) p.toInt.toNat e he v T' (by rw [zup_i, if_neg (by omega), ← hI.2.2.2.2]; exact hv)
    exact ⟨v, _, _, y1, y2, hI.trc (fun a i z1 z2 z3 z4 => by rw [zup_i, if_neg (by omega), zup_i, if_neg (by omega)]) (by simp [zup_i])⟩
  · exact ⟨-1, M, M, m_count_no M L.length hm.1.1 hm.1.2.1 p h, r_count_no M L.length hr.1.1 hr.1.2.1 p h, hI⟩
theorem zop25 (M : zMm) (hI : zInv M) (p x : Int32) : zopI2 63 160 [.int p, .int x] M := by
  obtain ⟨dom, q, W, L, hm, hr⟩ := hI.1
  by_cases h : 0 ≤ p.toInt ∧ p.toInt < L.length
  · obtain ⟨e, he, hpl⟩ := zplace_in h
    rw [znat h.1]
    obtain ⟨kd, hkd⟩ := zkind_ex dom q e
    obtain ⟨v, hv⟩ := zasV_ex kd x
    obtain ⟨r1, M1, y1, rfl, e1⟩ := m_as M dom q W L hm p.toInt.toNat e he kd hkd x v hv
    obtain ⟨r2, M2, y2, rfl, e2⟩ := r_as M1 dom q W L (hr.low e1 (by decide)) p.toInt.toNat e he kd hkd x v hv
    exact ⟨v, M1, M2, y1, y2, hI.fr e1 e2 (by decide) (by decide)⟩
  · exact ⟨-1, _, _, m_as_no M L.length hm.1.1 hm.1.2.1 p x h, r_as_no (zup M 0 14 0) L.length hr.1.1 hr.1.2.1 p x h, hI.fr (A1 := []) (B1 := [(0, 14)]) (A2 := []) (B2 := [(93, 0)]) ((zKp.refl _ _ M).up (by simp)) ((zKp.refl _ _ _).up (by simp)) (by decide) (by decide)⟩
theorem zop26 (M : zMm) (hI : zInv M) : zopI2 64 161 [] M := ⟨M.1 0 13, M, M, m_trace M, by rw [hI.2.2.2.2]; exact r_trace M, hI⟩
theorem zop27 (M : zMm) (hI : zInv M) : zopJ2 65 162 [] M := ⟨_, _, M, M, m_fault M, r_fault M, hI⟩
theorem zop28 (M : zMm) (hI : zInv M) (x : Int32) : zopI2 66 163 [.int x] M := by
  obtain ⟨dom, q, W, L, hm, hr⟩ := hI.1
  obtain ⟨b, hbb⟩ : ∃ b : Nat → Nat, ∀ k, k < 6 → ((M.1 55 k = 0 ∧ b k = 0) ∨ (M.1 55 k ≠ 0 ∧ b k = 1)) ∧ ((M.1 103 k = -9 ∧ b k = 0) ∨ (M.1 103 k ≠ -9 ∧ b k = 1)) := by
    refine ⟨fun k => if M.1 55 k = 0 then 0 else 1, fun k hk => ?_⟩
    rcases hI.2.1 k hk with ⟨n1, n2⟩ | ⟨h1, d, q', W', L', h2, h3, h4, h5, h6, h7, h8, _⟩
    · exact ⟨Or.inl ⟨n1, if_pos n1⟩, Or.inl ⟨n2, if_pos n1⟩⟩
    · refine ⟨Or.inr ⟨h1, if_neg h1⟩, Or.inr ⟨fun hz => ?_, if_neg h1⟩⟩
      rw [h8] at hz
      have h24 := h2.2.1
      have := congrArg Int32.toInt hz
      rw [nI_iI, iI_toInt (by omega)] at this
      have e9 : (-9 : Int32).toInt = -9 := by decide
      omega
  have hb := fun k hk => (hbb k hk).1
  have hb' := fun k hk => (hbb k hk).2
  rcases zsw5 x with h | h | h | h | h | h
  · exact ⟨nI L.length, M, M, m_told M b hb x _ (Or.inl ⟨h, hm.1.1.symm⟩), r_told M b hb' x _ (Or.inl ⟨h, hr.1.1.symm⟩), hI⟩
  · exact ⟨nI dom, M, M, m_told M b hb x _ (Or.inr (Or.inl ⟨h, hm.2.2.1.symm⟩)), r_told M b hb' x _ (Or.inr (Or.inl ⟨h, hr.2.2.1.symm⟩)), hI⟩
  · exact ⟨iI q, M, M, m_told M b hb x _ (Or.inr (Or.inr (Or.inl ⟨h, hm.2.2.2.1.symm⟩))), r_told M b hb' x _ (Or.inr (Or.inr (Or.inl ⟨h, hr.2.2.2.1.symm⟩))), hI⟩
  · exact ⟨iI W, M, M, m_told M b hb x _ (Or.inr (Or.inr (Or.inr (Or.inl ⟨h, hm.2.2.2.2.1.symm⟩)))), r_told M b hb' x _ (Or.inr (Or.inr (Or.inr (Or.inl ⟨h, hr.2.2.2.2.1.symm⟩)))), hI⟩
  · exact ⟨nI (zbn b 6 0 0), M, M, m_told M b hb x _ (Or.inr (Or.inr (Or.inr (Or.inr (Or.inl ⟨h, rfl⟩))))), r_told M b hb' x _ (Or.inr (Or.inr (Or.inr (Or.inr (Or.inl ⟨h, rfl⟩))))), hI⟩
  · exact ⟨-2, M, M, m_told M b hb x _ (Or.inr (Or.inr (Or.inr (Or.inr (Or.inr ⟨h, rfl⟩))))), r_told M b hb' x _ (Or.inr (Or.inr (Or.inr (Or.inr (Or.inr (⟨h, rfl⟩)))))), hI⟩
