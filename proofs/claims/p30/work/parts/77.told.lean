/-! ===== told; is without places ===== -/
def zbn (b : Nat → Nat) : Nat → Nat → Nat → Nat
  | 0, _, N => N
  | d + 1, k, N => zbn b d (k + 1) (N + b k)
theorem m_kept_loop (M : zMm) (b : Nat → Nat) (hb : ∀ k, k < 6 → (M.1 55 k = 0 ∧ b k = 0) ∨ (M.1 55 k ≠ 0 ∧ b k = 1)) (Nz : Nat) : ∀ (d k N : Nat), k + d = 6 → N ≤ k → zbn b d k N = Nz → yR 96 4 [(0, .ref 0), (1, .int (nI N)), (2, .int (nI k))] [] M (fun r N => r = some (.int (nI Nz)) ∧ N = M) := by
  intro d
  induction d using Nat.strongRecOn with
  | ind d ih =>
    intro k N h hN hz
    refine yR.adv 2 (pc' := 7) (lv' := [(0, .ref 0), (1, .int (nI N)), (2, .int (nI k))]) (st' := [.int 6, .int (nI k)]) (M' := M) rfl ?_
    refine yR.if2 .ge _ _ _ _ rfl (fun q1 => ?_) (fun q1 => ?_)
    · have q1' : (6 : Int) ≤ k := zcT q1 (nI_toInt (by omega)) rfl
      have hd : d = 0 := by omega
      subst hd
      refine yR.adv 1 (pc' := 29) (lv' := [(0, .ref 0), (1, .int (nI N)), (2, .int (nI k))]) (st' := [.int (nI N)]) (M' := M) rfl ?_
      refine yR.ret _ rfl rfl rfl ?_
      exact ⟨by rw [show Nz = N from hz.symm], rfl⟩
    · have q1' : ¬ (6 : Int) ≤ k := zcF q1 (nI_toInt (by omega)) rfl
      obtain ⟨d', rfl⟩ : ∃ d', d = d' + 1 := ⟨d - 1, by omega⟩
      have hz2 : zbn b d' (k + 1) (N + b k) = Nz := hz
      refine yR.adv 3 (pc' := 15) (lv' := [(0, .ref 0), (1, .int (nI N)), (2, .int (nI k))]) (st' := [.int (nI k), .ref 55]) (M' := M) rfl ?_
      refine yR.bald k _ _ _ rfl rfl (by decide) (rfl) (by omega) ?_
      refine yR.if1 .eq _ _ _ _ rfl (fun q2 => ?_) (fun q2 => ?_)
      · have q2' := zeq_t q2
        have hbk : b k = 0 := (hb k (by omega)).elim (fun z => z.2) (fun z => absurd q2' z.1)
        rw [hbk] at hz2
        refine yR.adv 2 (pc' := 4) (lv' := [(2, .int (nI k + 1)), (0, .ref 0), (1, .int (nI N))]) (st' := []) (M' := M) rfl ?_
        exact (ih d' (by omega) (k + 1) N (by omega) (by omega) hz2).drop (by refine ⟨?_, ?_⟩ <;> simp [zget, zwf, nI_succ])
      · have q2' := zeq_f q2
        have hbk : b k = 1 := (hb k (by omega)).elim (fun z => absurd z.1 q2') (fun z => z.2)
        rw [hbk] at hz2
        refine yR.adv 3 (pc' := 4) (lv' := [(2, .int (nI k + 1)), (1, .int (nI N + 1)), (0, .ref 0)]) (st' := []) (M' := M) rfl ?_
        exact (ih d' (by omega) (k + 1) (N + 1) (by omega) (by omega) hz2).drop (by refine ⟨?_, ?_⟩ <;> simp [zget, zwf, nI_succ])
theorem r_kept_loop (M : zMm) (x : Int32) (b : Nat → Nat) (hb : ∀ k, k < 6 → (M.1 103 k = -9 ∧ b k = 0) ∨ (M.1 103 k ≠ -9 ∧ b k = 1)) (Nz : Nat) : ∀ (d k N : Nat), k + d = 6 → N ≤ k → zbn b d k N = Nz → yR 163 60 [(0, .ref 93), (1, .int x), (2, .int (nI N)), (3, .int (nI k))] [] M (fun r N => r = some (.int (nI Nz)) ∧ N = M) := by
  intro d
  induction d using Nat.strongRecOn with
  | ind d ih =>
    intro k N h hN hz
    refine yR.adv 2 (pc' := 63) (lv' := [(0, .ref 93), (1, .int x), (2, .int (nI N)), (3, .int (nI k))]) (st' := [.int 6, .int (nI k)]) (M' := M) rfl ?_
    refine yR.if2 .ge _ _ _ _ rfl (fun q1 => ?_) (fun q1 => ?_)
    · have q1' : (6 : Int) ≤ k := zcT q1 (nI_toInt (by omega)) rfl
      have hd : d = 0 := by omega
      subst hd
      refine yR.adv 1 (pc' := 92) (lv' := [(0, .ref 93), (1, .int x), (2, .int (nI N)), (3, .int (nI k))]) (st' := [.int (nI N)]) (M' := M) rfl ?_
      refine yR.ret _ rfl rfl rfl ?_
      exact ⟨by rw [show Nz = N from hz.symm], rfl⟩
    · have q1' : ¬ (6 : Int) ≤ k := zcF q1 (nI_toInt (by omega)) rfl
      obtain ⟨d', rfl⟩ : ∃ d', d = d' + 1 := ⟨d - 1, by omega⟩
      have hz2 : zbn b d' (k + 1) (N + b k) = Nz := hz
      refine yR.adv 4 (pc' := 72) (lv' := [(0, .ref 93), (1, .int x), (2, .int (nI N)), (3, .int (nI k))]) (st' := [.int (nI k), .ref 103, .int (nI N)]) (M' := M) rfl ?_
      refine yR.iald k _ _ _ rfl rfl (by decide) (rfl) (by omega) ?_
      refine yR.adv 1 (pc' := 75) (lv' := [(0, .ref 93), (1, .int x), (2, .int (nI N)), (3, .int (nI k))]) (st' := [.int (-9), .int (M.1 103 k), .int (nI N)]) (M' := M) rfl ?_
      refine yR.if2 .ne _ _ _ _ rfl (fun q2 => ?_) (fun q2 => ?_)
      · have q2' := zne_t q2
        have hbk : b k = 1 := (hb k (by omega)).elim (fun z => absurd z.1 q2') (fun z => z.2)
        rw [hbk] at hz2
        refine yR.adv 5 (pc' := 60) (lv' := [(3, .int (nI k + 1)), (2, .int ((nI N) + 1)), (0, .ref 93), (1, .int x)]) (st' := []) (M' := M) rfl ?_
        exact (ih d' (by omega) (k + 1) (N + 1) (by omega) (by omega) hz2).drop (by refine ⟨?_, ?_⟩ <;> simp [zget, zwf, nI_succ])
      · have q2' := zne_f q2
        have hbk : b k = 0 := (hb k (by omega)).elim (fun z => z.2) (fun z => absurd q2' z.1)
        rw [hbk] at hz2
        refine yR.adv 6 (pc' := 60) (lv' := [(3, .int (nI k + 1)), (2, .int ((nI N) + 0)), (0, .ref 93), (1, .int x)]) (st' := []) (M' := M) rfl ?_
        rw [show nI N + 0 = nI N from by rw [show (0 : Int32) = nI 0 from rfl, nI_add]; rfl]
        exact (ih d' (by omega) (k + 1) N (by omega) (by omega) hz2).drop (by refine ⟨?_, ?_⟩ <;> simp [zget, zwf, nI_succ])
theorem zsw5 (x : Int32) : x = 0 ∨ x = 1 ∨ x = 2 ∨ x = 3 ∨ x = 4 ∨ (x.toInt < 0 ∨ 4 < x.toInt) := by
  by_cases h : x.toInt < 0 ∨ 4 < x.toInt
  · exact Or.inr (Or.inr (Or.inr (Or.inr (Or.inr h))))
  · have e : ∀ n : Int, x.toInt = n → x = iI n := fun n hn => by rw [← hn, iI_of]
    have hc : x.toInt = 0 ∨ x.toInt = 1 ∨ x.toInt = 2 ∨ x.toInt = 3 ∨ x.toInt = 4 := by omega
    rcases hc with z | z | z | z | z
    · exact Or.inl (e 0 z)
    · exact Or.inr (Or.inl (e 1 z))
    · exact Or.inr (Or.inr (Or.inl (e 2 z)))
    · exact Or.inr (Or.inr (Or.inr (Or.inl (e 3 z))))
    · exact Or.inr (Or.inr (Or.inr (Or.inr (Or.inl (e 4 z)))))
theorem m_kept0 (M : zMm) (b : Nat → Nat) (hb : ∀ k, k < 6 → (M.1 55 k = 0 ∧ b k = 0) ∨ (M.1 55 k ≠ 0 ∧ b k = 1)) : yR 96 0 [(0, .ref 0)] [] M (fun r N => r = some (.int (nI (zbn b 6 0 0))) ∧ N = M) := by
  refine yR.adv 4 (pc' := 4) (lv' := [(2, .int 0), (1, .int 0), (0, .ref 0)]) (st' := []) (M' := M) rfl ?_
  exact (m_kept_loop M b hb _ 6 0 0 rfl (Nat.le_refl _) rfl).drop (by refine ⟨?_, ?_⟩ <;> simp [zget, zwf, nI_0])
theorem m_told (M : zMm) (b : Nat → Nat) (hb : ∀ k, k < 6 → (M.1 55 k = 0 ∧ b k = 0) ∨ (M.1 55 k ≠ 0 ∧ b k = 1)) (x v : Int32) (hv : (x = 0 ∧ v = M.1 1 3) ∨ (x = 1 ∧ v = M.1 1 0) ∨ (x = 2 ∧ v = M.1 1 1) ∨ (x = 3 ∧ v = M.1 1 2) ∨ (x = 4 ∧ v = nI (zbn b 6 0 0)) ∨ ((x.toInt < 0 ∨ 4 < x.toInt) ∧ v = -2)) : yOk 66 0 [(0, .ref 0), (1, .int x)] [] M (some (.int v)) M := by
  refine yR.ok ?_
  rcases hv with ⟨h, hv⟩ | ⟨h, hv⟩ | ⟨h, hv⟩ | ⟨h, hv⟩ | ⟨h, hv⟩ | ⟨h, hv⟩
  · subst h
    refine yR.adv 1 (pc' := 1) (lv' := [(0, .ref 0), (1, .int 0)]) (st' := [.int 0]) (M' := M) rfl ?_
    refine yR.tab _ _ _ _ _ _ _ _ rfl 35 36 (rfl) rfl ?_
    refine yR.adv 3 (pc' := 43) (lv' := [(0, .ref 0), (1, .int 0)]) (st' := [.int (M.1 1 3)]) (M' := M) rfl ?_
    refine yR.ret _ rfl rfl rfl ?_
    exact ⟨by rw [hv], rfl⟩
  · subst h
    refine yR.adv 1 (pc' := 1) (lv' := [(0, .ref 0), (1, .int 1)]) (st' := [.int 1]) (M' := M) rfl ?_
    refine yR.tab _ _ _ _ _ _ _ _ rfl 43 44 (rfl) rfl ?_
    refine yR.adv 3 (pc' := 51) (lv' := [(0, .ref 0), (1, .int 1)]) (st' := [.int (M.1 1 0)]) (M' := M) rfl ?_
    refine yR.ret _ rfl rfl rfl ?_
    exact ⟨by rw [hv], rfl⟩
  · subst h
    refine yR.adv 1 (pc' := 1) (lv' := [(0, .ref 0), (1, .int 2)]) (st' := [.int 2]) (M' := M) rfl ?_
    refine yR.tab _ _ _ _ _ _ _ _ rfl 51 52 (rfl) rfl ?_
    refine yR.adv 3 (pc' := 59) (lv' := [(0, .ref 0), (1, .int 2)]) (st' := [.int (M.1 1 1)]) (M' := M) rfl ?_
    refine yR.ret _ rfl rfl rfl ?_
    exact ⟨by rw [hv], rfl⟩
  · subst h
    refine yR.adv 1 (pc' := 1) (lv' := [(0, .ref 0), (1, .int 3)]) (st' := [.int 3]) (M' := M) rfl ?_
    refine yR.tab _ _ _ _ _ _ _ _ rfl 59 60 (rfl) rfl ?_
    refine yR.adv 3 (pc' := 67) (lv' := [(0, .ref 0), (1, .int 3)]) (st' := [.int (M.1 1 2)]) (M' := M) rfl ?_
    refine yR.ret _ rfl rfl rfl ?_
    exact ⟨by rw [hv], rfl⟩
  · subst h
    refine yR.adv 1 (pc' := 1) (lv' := [(0, .ref 0), (1, .int 4)]) (st' := [.int 4]) (M' := M) rfl ?_
    refine yR.tab _ _ _ _ _ _ _ _ rfl 67 68 (rfl) rfl ?_
    refine yR.adv 1 (pc' := 69) (lv' := [(0, .ref 0), (1, .int 4)]) (st' := [.ref 0]) (M' := M) rfl ?_
    refine yR.call _ rfl rfl rfl rfl rfl ((m_kept0 M b hb)) (fun r1 M1 hq => ?_)
    obtain ⟨rfl, hM⟩ := hq
    show yR 66 72 [(0, .ref 0), (1, .int 4)] [.int (nI (zbn b 6 0 0))] M1 _
    rw [hM]
    refine yR.ret _ rfl rfl rfl ?_
    exact ⟨by rw [hv], rfl⟩
  · skip
    refine yR.adv 1 (pc' := 1) (lv' := [(0, .ref 0), (1, .int x)]) (st' := [.int x]) (M' := M) rfl ?_
    refine yR.tab _ _ _ _ _ _ _ _ rfl 72 73 (by unfold ztab; rw [if_pos h]) rfl ?_
    refine yR.adv 1 (pc' := 75) (lv' := [(0, .ref 0), (1, .int x)]) (st' := [.int (-2)]) (M' := M) rfl ?_
    refine yR.ret _ rfl rfl rfl ?_
    exact ⟨by rw [hv], rfl⟩
theorem r_told (M : zMm) (b : Nat → Nat) (hb : ∀ k, k < 6 → (M.1 103 k = -9 ∧ b k = 0) ∨ (M.1 103 k ≠ -9 ∧ b k = 1)) (x v : Int32) (hv : (x = 0 ∧ v = M.1 93 7) ∨ (x = 1 ∧ v = M.1 93 4) ∨ (x = 2 ∧ v = M.1 93 5) ∨ (x = 3 ∧ v = M.1 93 6) ∨ (x = 4 ∧ v = nI (zbn b 6 0 0)) ∨ ((x.toInt < 0 ∨ 4 < x.toInt) ∧ v = -2)) : yOk 163 0 [(0, .ref 93), (1, .int x)] [] M (some (.int v)) M := by
  refine yR.ok ?_
  rcases hv with ⟨h, hv⟩ | ⟨h, hv⟩ | ⟨h, hv⟩ | ⟨h, hv⟩ | ⟨h, hv⟩ | ⟨h, hv⟩
  · subst h
    refine yR.adv 1 (pc' := 1) (lv' := [(0, .ref 93), (1, .int 0)]) (st' := [.int 0]) (M' := M) rfl ?_
    refine yR.tab _ _ _ _ _ _ _ _ rfl 35 36 (rfl) rfl ?_
    refine yR.adv 2 (pc' := 40) (lv' := [(0, .ref 93), (1, .int 0)]) (st' := [.int (M.1 93 7)]) (M' := M) rfl ?_
    refine yR.ret _ rfl rfl rfl ?_
    exact ⟨by rw [hv], rfl⟩
  · subst h
    refine yR.adv 1 (pc' := 1) (lv' := [(0, .ref 93), (1, .int 1)]) (st' := [.int 1]) (M' := M) rfl ?_
    refine yR.tab _ _ _ _ _ _ _ _ rfl 40 41 (rfl) rfl ?_
    refine yR.adv 2 (pc' := 45) (lv' := [(0, .ref 93), (1, .int 1)]) (st' := [.int (M.1 93 4)]) (M' := M) rfl ?_
    refine yR.ret _ rfl rfl rfl ?_
    exact ⟨by rw [hv], rfl⟩
  · subst h
    refine yR.adv 1 (pc' := 1) (lv' := [(0, .ref 93), (1, .int 2)]) (st' := [.int 2]) (M' := M) rfl ?_
    refine yR.tab _ _ _ _ _ _ _ _ rfl 45 46 (rfl) rfl ?_
    refine yR.adv 2 (pc' := 50) (lv' := [(0, .ref 93), (1, .int 2)]) (st' := [.int (M.1 93 5)]) (M' := M) rfl ?_
    refine yR.ret _ rfl rfl rfl ?_
    exact ⟨by rw [hv], rfl⟩
  · subst h
    refine yR.adv 1 (pc' := 1) (lv' := [(0, .ref 93), (1, .int 3)]) (st' := [.int 3]) (M' := M) rfl ?_
    refine yR.tab _ _ _ _ _ _ _ _ rfl 50 51 (rfl) rfl ?_
    refine yR.adv 2 (pc' := 55) (lv' := [(0, .ref 93), (1, .int 3)]) (st' := [.int (M.1 93 6)]) (M' := M) rfl ?_
    refine yR.ret _ rfl rfl rfl ?_
    exact ⟨by rw [hv], rfl⟩
  · subst h
    refine yR.adv 1 (pc' := 1) (lv' := [(0, .ref 93), (1, .int 4)]) (st' := [.int 4]) (M' := M) rfl ?_
    refine yR.tab _ _ _ _ _ _ _ _ rfl 55 56 (rfl) rfl ?_
    refine yR.adv 4 (pc' := 60) (lv' := [(3, .int 0), (2, .int 0), (0, .ref 93), (1, .int 4)]) (st' := []) (M' := M) rfl ?_
    rw [hv]
    exact (r_kept_loop M 4 b hb _ 6 0 0 rfl (Nat.le_refl _) rfl).drop (by refine ⟨?_, ?_⟩ <;> simp [zget, zwf, nI_0])
  · skip
    refine yR.adv 1 (pc' := 1) (lv' := [(0, .ref 93), (1, .int x)]) (st' := [.int x]) (M' := M) rfl ?_
    refine yR.tab _ _ _ _ _ _ _ _ rfl 92 93 (by unfold ztab; rw [if_pos h]) rfl ?_
    refine yR.adv 1 (pc' := 95) (lv' := [(0, .ref 93), (1, .int x)]) (st' := [.int (-2)]) (M' := M) rfl ?_
    refine yR.ret _ rfl rfl rfl ?_
    exact ⟨by rw [hv], rfl⟩
theorem m_within_0 (M : zMm) (hs : M.1 1 3 = nI 0) : yOk 80 0 [(0, .ref 0)] [] M (some (.int 1)) M := by
  refine yR.ok ?_
  refine yR.adv 6 (pc' := 10) (lv' := [(1, .int 0), (0, .ref 0)]) (st' := [.int (M.1 1 3), .int 0]) (M' := M) rfl ?_
  rw [hs]
  refine yR.if2 .ge _ _ _ _ rfl (fun q1 => ?_) (fun q1 => ?_)
  · refine yR.adv 1 (pc' := 33) (lv' := [(1, .int 0), (0, .ref 0)]) (st' := [.int 1]) (M' := M) rfl ?_
    refine yR.ret _ rfl rfl rfl ?_
    exact ⟨rfl, rfl⟩
  · exact absurd q1 (by decide)
theorem m_above_0 (M : zMm) (hs : M.1 1 3 = nI 0) : yOk 81 0 [(0, .ref 0)] [] M (some (.int 1)) M := by
  refine yR.ok ?_
  refine yR.adv 6 (pc' := 10) (lv' := [(1, .int 0), (0, .ref 0)]) (st' := [.int (M.1 1 3), .int 0]) (M' := M) rfl ?_
  rw [hs]
  refine yR.if2 .ge _ _ _ _ rfl (fun q1 => ?_) (fun q1 => ?_)
  · refine yR.adv 1 (pc' := 34) (lv' := [(1, .int 0), (0, .ref 0)]) (st' := [.int 1]) (M' := M) rfl ?_
    refine yR.ret _ rfl rfl rfl ?_
    exact ⟨rfl, rfl⟩
  · exact absurd q1 (by decide)
theorem m_even_0 (M : zMm) (hs : M.1 1 3 = nI 0) : yOk 82 0 [(0, .ref 0)] [] M (some (.int 1)) M := by
  refine yR.ok ?_
  refine yR.adv 6 (pc' := 10) (lv' := [(1, .int 0), (0, .ref 0)]) (st' := [.int (M.1 1 3), .int 0]) (M' := M) rfl ?_
  rw [hs]
  refine yR.if2 .ge _ _ _ _ rfl (fun q1 => ?_) (fun q1 => ?_)
  · refine yR.adv 1 (pc' := 77) (lv' := [(1, .int 0), (0, .ref 0)]) (st' := [.int 1]) (M' := M) rfl ?_
    refine yR.ret _ rfl rfl rfl ?_
    exact ⟨rfl, rfl⟩
  · exact absurd q1 (by decide)
theorem m_is_0 (M : zMm) (hs : M.1 1 3 = nI 0) (x v : Int32) (hv : (0 ≤ x.toInt ∧ x.toInt ≤ 2 ∧ v = 1) ∨ ((x.toInt < 0 ∨ 2 < x.toInt) ∧ v = -2)) : yOk 49 0 [(0, .ref 0), (1, .int x)] [] M (some (.int v)) M := by
  refine yR.ok ?_
  rcases hv with ⟨h1, h2, hv⟩ | ⟨h, hv⟩
  · have e : ∀ n : Int, x.toInt = n → x = iI n := fun n hn => by rw [← hn, iI_of]
    have hc : x.toInt = 0 ∨ x.toInt = 1 ∨ x.toInt = 2 := by omega
    subst hv
    rcases hc with z | z | z
    · have h := e 0 z
      rw [show iI 0 = (0 : Int32) from rfl] at h
      subst h
      refine yR.adv 1 (pc' := 1) (lv' := [(0, .ref 0), (1, .int 0)]) (st' := [.int 0]) (M' := M) rfl ?_
      refine yR.tab _ _ _ _ _ _ _ _ rfl 27 28 (rfl) rfl ?_
      refine yR.adv 1 (pc' := 29) (lv' := [(0, .ref 0), (1, .int 0)]) (st' := [.ref 0]) (M' := M) rfl ?_
      refine yR.callK (M1 := M) _ rfl rfl rfl rfl rfl (m_within_0 M hs) ?_
      show yR 49 32 [(0, .ref 0), (1, .int 0)] [.int 1] M _
      refine yR.if1 .eq _ _ _ _ rfl (fun q1 => ?_) (fun q1 => ?_)
      · exact absurd q1 (by decide)
      · refine yR.adv 2 (pc' := 40) (lv' := [(0, .ref 0), (1, .int 0)]) (st' := [.int 1]) (M' := M) rfl ?_
        refine yR.ret _ rfl rfl rfl ?_
        exact ⟨rfl, rfl⟩
    · have h := e 1 z
      rw [show iI 1 = (1 : Int32) from rfl] at h
      subst h
      refine yR.adv 1 (pc' := 1) (lv' := [(0, .ref 0), (1, .int 1)]) (st' := [.int 1]) (M' := M) rfl ?_
      refine yR.tab _ _ _ _ _ _ _ _ rfl 40 41 (rfl) rfl ?_
      refine yR.adv 1 (pc' := 42) (lv' := [(0, .ref 0), (1, .int 1)]) (st' := [.ref 0]) (M' := M) rfl ?_
      refine yR.callK (M1 := M) _ rfl rfl rfl rfl rfl (m_above_0 M hs) ?_
      show yR 49 45 [(0, .ref 0), (1, .int 1)] [.int 1] M _
      refine yR.if1 .eq _ _ _ _ rfl (fun q1 => ?_) (fun q1 => ?_)
      · exact absurd q1 (by decide)
      · refine yR.adv 2 (pc' := 53) (lv' := [(0, .ref 0), (1, .int 1)]) (st' := [.int 1]) (M' := M) rfl ?_
        refine yR.ret _ rfl rfl rfl ?_
        exact ⟨rfl, rfl⟩
    · have h := e 2 z
      rw [show iI 2 = (2 : Int32) from rfl] at h
      subst h
      refine yR.adv 1 (pc' := 1) (lv' := [(0, .ref 0), (1, .int 2)]) (st' := [.int 2]) (M' := M) rfl ?_
      refine yR.tab _ _ _ _ _ _ _ _ rfl 53 54 (rfl) rfl ?_
      refine yR.adv 1 (pc' := 55) (lv' := [(0, .ref 0), (1, .int 2)]) (st' := [.ref 0]) (M' := M) rfl ?_
      refine yR.callK (M1 := M) _ rfl rfl rfl rfl rfl (m_even_0 M hs) ?_
      show yR 49 58 [(0, .ref 0), (1, .int 2)] [.int 1] M _
      refine yR.if1 .eq _ _ _ _ rfl (fun q1 => ?_) (fun q1 => ?_)
      · exact absurd q1 (by decide)
      · refine yR.adv 2 (pc' := 66) (lv' := [(0, .ref 0), (1, .int 2)]) (st' := [.int 1]) (M' := M) rfl ?_
        refine yR.ret _ rfl rfl rfl ?_
        exact ⟨rfl, rfl⟩
  · skip
    refine yR.adv 1 (pc' := 1) (lv' := [(0, .ref 0), (1, .int x)]) (st' := [.int x]) (M' := M) rfl ?_
    refine yR.tab _ _ _ _ _ _ _ _ rfl 66 67 (by unfold ztab; rw [if_pos h]) rfl ?_
    refine yR.adv 1 (pc' := 69) (lv' := [(0, .ref 0), (1, .int x)]) (st' := [.int (-2)]) (M' := M) rfl ?_
    refine yR.ret _ rfl rfl rfl ?_
    exact ⟨by rw [hv], rfl⟩
theorem r_is_0 (M : zMm) (hs : M.1 93 7 = nI 0) (x v : Int32) (hv : (0 ≤ x.toInt ∧ x.toInt ≤ 2 ∧ v = 1) ∨ ((x.toInt < 0 ∨ 2 < x.toInt) ∧ v = -2)) : yOk 137 0 [(0, .ref 93), (1, .int x)] [] M (some (.int v)) M := by
  refine yR.ok ?_
  have tx : x.toInt64.toInt = x.toInt := Int32.toInt_toInt64 x
  obtain ⟨v1, h1⟩ := zem (0 ≤ x.toInt64.toInt ∧ x.toInt64.toInt ≤ 2)
  refine yR.adv 4 (pc' := 6) (lv' := [(0, .ref 93), (1, .int x)]) (st' := [.long 2, .long 0, .long x.toInt64]) (M' := M) rfl ?_
  refine yR.callK (M1 := M) _ rfl rfl rfl rfl rfl (r_withinV M x.toInt64 0 2 0 2 rfl rfl v1 h1) ?_
  show yR 137 9 [(0, .ref 93), (1, .int x)] [.int v1] M _
  refine yR.if1 .ne _ _ _ _ rfl (fun q1 => ?_) (fun q1 => ?_)
  · have z1 := zne0 h1 q1
    rw [tx] at z1
    have hv0 : v = 1 := hv.elim (fun z => z.2.2) (fun z => by have := z.1; omega)
    refine yR.adv 7 (pc' := 24) (lv' := [(3, .int 0), (2, .int 1), (0, .ref 93), (1, .int x)]) (st' := [.int (M.1 93 7), .int 0]) (M' := M) rfl ?_
    rw [hs]
    refine yR.if2 .ge _ _ _ _ rfl (fun q2 => ?_) (fun q2 => ?_)
    · refine yR.adv 1 (pc' := 76) (lv' := [(3, .int 0), (2, .int 1), (0, .ref 93), (1, .int x)]) (st' := [.int 1]) (M' := M) rfl ?_
      refine yR.if1 .eq _ _ _ _ rfl (fun q3 => ?_) (fun q3 => ?_)
      · exact absurd q3 (by decide)
      · refine yR.adv 2 (pc' := 84) (lv' := [(3, .int 0), (2, .int 1), (0, .ref 93), (1, .int x)]) (st' := [.int 1]) (M' := M) rfl ?_
        refine yR.ret _ rfl rfl rfl ?_
        exact ⟨by rw [hv0], rfl⟩
    · exact absurd q2 (by decide)
  · have z1 := zne1 h1 q1
    rw [tx] at z1
    have hv0 : v = -2 := hv.elim (fun z => absurd ⟨z.1, z.2.1⟩ z1) (fun z => z.2)
    refine yR.adv 1 (pc' := 14) (lv' := [(0, .ref 93), (1, .int x)]) (st' := [.int (-2)]) (M' := M) rfl ?_
    refine yR.ret _ rfl rfl rfl ?_
    exact ⟨by rw [hv0], rfl⟩
