/-! ===== powers of a base, in a row; power sums of an orbit ===== -/
def zpxN (t : Nat) : Nat := (zpx t).toNatClampNeg
def zpyN (t : Nat) : Nat := (zpy t).toNatClampNeg
theorem zpxN_ok : ∀ t, t < 28 → (zF0 0).2 t = nI (zpxN t) ∧ (zF0 1).2 t = nI (zpyN t) ∧ zpxN t + zpyN t < 7 := by decide
theorem zpxN_5 : ∀ t, t < 21 → zpxN t + zpyN t < 6 := by decide
theorem zpxN_4 : ∀ t, t < 15 → zpxN t + zpyN t < 5 := by decide
theorem m_fillP_48_loop (M : zMm) (x : Int64) : ∀ (d i : Nat) (M' : zMm), i + d = 6 → (∀ j, j < i → M'.2 48 j = zpw x j) → zKp [48] [] M M' → yR 70 5 [(0, .long x), (2, .ref 48), (3, .long (zpw x i)), (5, .int (nI i))] [] M' (fun r N => r = none ∧ (∀ j, j < 6 → N.2 48 j = zpw x j) ∧ zKp [48] [] M N) := by
  intro d
  induction d using Nat.strongRecOn with
  | ind d ih =>
    intro i M' h hp hE
    refine yR.adv 3 (pc' := 9) (lv' := [(0, .long x), (2, .ref 48), (3, .long (zpw x i)), (5, .int (nI i))]) (st' := [.int 6, .int (nI i)]) (M' := M') rfl ?_
    refine yR.if2 .ge _ _ _ _ rfl (fun q => ?_) (fun q => ?_)
    · have q' : (6 : Int) ≤ i := zcT q (nI_toInt (by omega)) rfl
      refine yR.ret _ rfl rfl rfl ?_
      exact ⟨rfl, fun j hj => hp j (by omega), hE⟩
    · have q' : ¬ (6 : Int) ≤ i := zcF q (nI_toInt (by omega)) rfl
      refine yR.adv 3 (pc' := 16) (lv' := [(0, .long x), (2, .ref 48), (3, .long (zpw x i)), (5, .int (nI i))]) (st' := [.long (zpw x i), .int (nI i), .ref 48]) (M' := M') rfl ?_
      refine yR.last i _ _ _ rfl rfl (by decide) (rfl) (by omega) ?_
      refine yR.adv 6 (pc' := 5) (lv' := [(5, .int (nI i + 1)), (3, .long ((zpw x i) * x)), (0, .long x), (2, .ref 48)]) (st' := []) (M' := zupL (M') 48 i (zpw x i)) rfl ?_
      have K := ih (d - 1) (by omega) (i + 1) (zupL (M') 48 i (zpw x i)) (by omega) (fun j hj => by
        rw [zupL_l]
        by_cases e : j = i
        · rw [if_pos ⟨rfl, e⟩, e]
        · rw [if_neg (fun z => e z.2)]
          exact hp j (by omega)) (hE.upL (by simp))
      exact (K).drop (by refine ⟨?_, ?_⟩ <;> simp [zget, zwf, nI_succ, zpw])
theorem m_fillP_48 (M : zMm) (x : Int64) : yR 70 0 [(0, .long x), (2, .ref 48)] [] M (fun r N => r = none ∧ (∀ j, j < 6 → N.2 48 j = zpw x j) ∧ zKp [48] [] M N) := by
  refine yR.adv 4 (pc' := 5) (lv' := [(5, .int 0), (3, .long 1), (0, .long x), (2, .ref 48)]) (st' := []) (M' := M) rfl ?_
  exact (m_fillP_48_loop M x 6 0 M rfl (fun j hj => absurd hj (by omega)) (zKp.refl _ _ _)).drop (by refine ⟨?_, ?_⟩ <;> simp [zget, zwf, nI_succ, zpw, nI])
theorem m_fillP_49_loop (M : zMm) (x : Int64) : ∀ (d i : Nat) (M' : zMm), i + d = 6 → (∀ j, j < i → M'.2 49 j = zpw x j) → zKp [49] [] M M' → yR 70 5 [(0, .long x), (2, .ref 49), (3, .long (zpw x i)), (5, .int (nI i))] [] M' (fun r N => r = none ∧ (∀ j, j < 6 → N.2 49 j = zpw x j) ∧ zKp [49] [] M N) := by
  intro d
  induction d using Nat.strongRecOn with
  | ind d ih =>
    intro i M' h hp hE
    refine yR.adv 3 (pc' := 9) (lv' := [(0, .long x), (2, .ref 49), (3, .long (zpw x i)), (5, .int (nI i))]) (st' := [.int 6, .int (nI i)]) (M' := M') rfl ?_
    refine yR.if2 .ge _ _ _ _ rfl (fun q => ?_) (fun q => ?_)
    · have q' : (6 : Int) ≤ i := zcT q (nI_toInt (by omega)) rfl
      refine yR.ret _ rfl rfl rfl ?_
      exact ⟨rfl, fun j hj => hp j (by omega), hE⟩
    · have q' : ¬ (6 : Int) ≤ i := zcF q (nI_toInt (by omega)) rfl
      refine yR.adv 3 (pc' := 16) (lv' := [(0, .long x), (2, .ref 49), (3, .long (zpw x i)), (5, .int (nI i))]) (st' := [.long (zpw x i), .int (nI i), .ref 49]) (M' := M') rfl ?_
      refine yR.last i _ _ _ rfl rfl (by decide) (rfl) (by omega) ?_
      refine yR.adv 6 (pc' := 5) (lv' := [(5, .int (nI i + 1)), (3, .long ((zpw x i) * x)), (0, .long x), (2, .ref 49)]) (st' := []) (M' := zupL (M') 49 i (zpw x i)) rfl ?_
      have K := ih (d - 1) (by omega) (i + 1) (zupL (M') 49 i (zpw x i)) (by omega) (fun j hj => by
        rw [zupL_l]
        by_cases e : j = i
        · rw [if_pos ⟨rfl, e⟩, e]
        · rw [if_neg (fun z => e z.2)]
          exact hp j (by omega)) (hE.upL (by simp))
      exact (K).drop (by refine ⟨?_, ?_⟩ <;> simp [zget, zwf, nI_succ, zpw])
theorem m_fillP_49 (M : zMm) (x : Int64) : yR 70 0 [(0, .long x), (2, .ref 49)] [] M (fun r N => r = none ∧ (∀ j, j < 6 → N.2 49 j = zpw x j) ∧ zKp [49] [] M N) := by
  refine yR.adv 4 (pc' := 5) (lv' := [(5, .int 0), (3, .long 1), (0, .long x), (2, .ref 49)]) (st' := []) (M' := M) rfl ?_
  exact (m_fillP_49_loop M x 6 0 M rfl (fun j hj => absurd hj (by omega)) (zKp.refl _ _ _)).drop (by refine ⟨?_, ?_⟩ <;> simp [zget, zwf, nI_succ, zpw, nI])
theorem m_fillP_57_loop (M : zMm) (x : Int64) : ∀ (d i : Nat) (M' : zMm), i + d = 5 → (∀ j, j < i → M'.2 57 j = zpw x j) → zKp [57] [] M M' → yR 70 5 [(0, .long x), (2, .ref 57), (3, .long (zpw x i)), (5, .int (nI i))] [] M' (fun r N => r = none ∧ (∀ j, j < 5 → N.2 57 j = zpw x j) ∧ zKp [57] [] M N) := by
  intro d
  induction d using Nat.strongRecOn with
  | ind d ih =>
    intro i M' h hp hE
    refine yR.adv 3 (pc' := 9) (lv' := [(0, .long x), (2, .ref 57), (3, .long (zpw x i)), (5, .int (nI i))]) (st' := [.int 5, .int (nI i)]) (M' := M') rfl ?_
    refine yR.if2 .ge _ _ _ _ rfl (fun q => ?_) (fun q => ?_)
    · have q' : (5 : Int) ≤ i := zcT q (nI_toInt (by omega)) rfl
      refine yR.ret _ rfl rfl rfl ?_
      exact ⟨rfl, fun j hj => hp j (by omega), hE⟩
    · have q' : ¬ (5 : Int) ≤ i := zcF q (nI_toInt (by omega)) rfl
      refine yR.adv 3 (pc' := 16) (lv' := [(0, .long x), (2, .ref 57), (3, .long (zpw x i)), (5, .int (nI i))]) (st' := [.long (zpw x i), .int (nI i), .ref 57]) (M' := M') rfl ?_
      refine yR.last i _ _ _ rfl rfl (by decide) (rfl) (by omega) ?_
      refine yR.adv 6 (pc' := 5) (lv' := [(5, .int (nI i + 1)), (3, .long ((zpw x i) * x)), (0, .long x), (2, .ref 57)]) (st' := []) (M' := zupL (M') 57 i (zpw x i)) rfl ?_
      have K := ih (d - 1) (by omega) (i + 1) (zupL (M') 57 i (zpw x i)) (by omega) (fun j hj => by
        rw [zupL_l]
        by_cases e : j = i
        · rw [if_pos ⟨rfl, e⟩, e]
        · rw [if_neg (fun z => e z.2)]
          exact hp j (by omega)) (hE.upL (by simp))
      exact (K).drop (by refine ⟨?_, ?_⟩ <;> simp [zget, zwf, nI_succ, zpw])
theorem m_fillP_57 (M : zMm) (x : Int64) : yR 70 0 [(0, .long x), (2, .ref 57)] [] M (fun r N => r = none ∧ (∀ j, j < 5 → N.2 57 j = zpw x j) ∧ zKp [57] [] M N) := by
  refine yR.adv 4 (pc' := 5) (lv' := [(5, .int 0), (3, .long 1), (0, .long x), (2, .ref 57)]) (st' := []) (M' := M) rfl ?_
  exact (m_fillP_57_loop M x 5 0 M rfl (fun j hj => absurd hj (by omega)) (zKp.refl _ _ _)).drop (by refine ⟨?_, ?_⟩ <;> simp [zget, zwf, nI_succ, zpw, nI])
theorem m_fillP_58_loop (M : zMm) (x : Int64) : ∀ (d i : Nat) (M' : zMm), i + d = 5 → (∀ j, j < i → M'.2 58 j = zpw x j) → zKp [58] [] M M' → yR 70 5 [(0, .long x), (2, .ref 58), (3, .long (zpw x i)), (5, .int (nI i))] [] M' (fun r N => r = none ∧ (∀ j, j < 5 → N.2 58 j = zpw x j) ∧ zKp [58] [] M N) := by
  intro d
  induction d using Nat.strongRecOn with
  | ind d ih =>
    intro i M' h hp hE
    refine yR.adv 3 (pc' := 9) (lv' := [(0, .long x), (2, .ref 58), (3, .long (zpw x i)), (5, .int (nI i))]) (st' := [.int 5, .int (nI i)]) (M' := M') rfl ?_
    refine yR.if2 .ge _ _ _ _ rfl (fun q => ?_) (fun q => ?_)
    · have q' : (5 : Int) ≤ i := zcT q (nI_toInt (by omega)) rfl
      refine yR.ret _ rfl rfl rfl ?_
      exact ⟨rfl, fun j hj => hp j (by omega), hE⟩
    · have q' : ¬ (5 : Int) ≤ i := zcF q (nI_toInt (by omega)) rfl
      refine yR.adv 3 (pc' := 16) (lv' := [(0, .long x), (2, .ref 58), (3, .long (zpw x i)), (5, .int (nI i))]) (st' := [.long (zpw x i), .int (nI i), .ref 58]) (M' := M') rfl ?_
      refine yR.last i _ _ _ rfl rfl (by decide) (rfl) (by omega) ?_
      refine yR.adv 6 (pc' := 5) (lv' := [(5, .int (nI i + 1)), (3, .long ((zpw x i) * x)), (0, .long x), (2, .ref 58)]) (st' := []) (M' := zupL (M') 58 i (zpw x i)) rfl ?_
      have K := ih (d - 1) (by omega) (i + 1) (zupL (M') 58 i (zpw x i)) (by omega) (fun j hj => by
        rw [zupL_l]
        by_cases e : j = i
        · rw [if_pos ⟨rfl, e⟩, e]
        · rw [if_neg (fun z => e z.2)]
          exact hp j (by omega)) (hE.upL (by simp))
      exact (K).drop (by refine ⟨?_, ?_⟩ <;> simp [zget, zwf, nI_succ, zpw])
theorem m_fillP_58 (M : zMm) (x : Int64) : yR 70 0 [(0, .long x), (2, .ref 58)] [] M (fun r N => r = none ∧ (∀ j, j < 5 → N.2 58 j = zpw x j) ∧ zKp [58] [] M N) := by
  refine yR.adv 4 (pc' := 5) (lv' := [(5, .int 0), (3, .long 1), (0, .long x), (2, .ref 58)]) (st' := []) (M' := M) rfl ?_
  exact (m_fillP_58_loop M x 5 0 M rfl (fun j hj => absurd hj (by omega)) (zKp.refl _ _ _)).drop (by refine ⟨?_, ?_⟩ <;> simp [zget, zwf, nI_succ, zpw, nI])
theorem m_fillP_59_loop (M : zMm) (x : Int64) : ∀ (d i : Nat) (M' : zMm), i + d = 5 → (∀ j, j < i → M'.2 59 j = zpw x j) → zKp [59] [] M M' → yR 70 5 [(0, .long x), (2, .ref 59), (3, .long (zpw x i)), (5, .int (nI i))] [] M' (fun r N => r = none ∧ (∀ j, j < 5 → N.2 59 j = zpw x j) ∧ zKp [59] [] M N) := by
  intro d
  induction d using Nat.strongRecOn with
  | ind d ih =>
    intro i M' h hp hE
    refine yR.adv 3 (pc' := 9) (lv' := [(0, .long x), (2, .ref 59), (3, .long (zpw x i)), (5, .int (nI i))]) (st' := [.int 5, .int (nI i)]) (M' := M') rfl ?_
    refine yR.if2 .ge _ _ _ _ rfl (fun q => ?_) (fun q => ?_)
    · have q' : (5 : Int) ≤ i := zcT q (nI_toInt (by omega)) rfl
      refine yR.ret _ rfl rfl rfl ?_
      exact ⟨rfl, fun j hj => hp j (by omega), hE⟩
    · have q' : ¬ (5 : Int) ≤ i := zcF q (nI_toInt (by omega)) rfl
      refine yR.adv 3 (pc' := 16) (lv' := [(0, .long x), (2, .ref 59), (3, .long (zpw x i)), (5, .int (nI i))]) (st' := [.long (zpw x i), .int (nI i), .ref 59]) (M' := M') rfl ?_
      refine yR.last i _ _ _ rfl rfl (by decide) (rfl) (by omega) ?_
      refine yR.adv 6 (pc' := 5) (lv' := [(5, .int (nI i + 1)), (3, .long ((zpw x i) * x)), (0, .long x), (2, .ref 59)]) (st' := []) (M' := zupL (M') 59 i (zpw x i)) rfl ?_
      have K := ih (d - 1) (by omega) (i + 1) (zupL (M') 59 i (zpw x i)) (by omega) (fun j hj => by
        rw [zupL_l]
        by_cases e : j = i
        · rw [if_pos ⟨rfl, e⟩, e]
        · rw [if_neg (fun z => e z.2)]
          exact hp j (by omega)) (hE.upL (by simp))
      exact (K).drop (by refine ⟨?_, ?_⟩ <;> simp [zget, zwf, nI_succ, zpw])
theorem m_fillP_59 (M : zMm) (x : Int64) : yR 70 0 [(0, .long x), (2, .ref 59)] [] M (fun r N => r = none ∧ (∀ j, j < 5 → N.2 59 j = zpw x j) ∧ zKp [59] [] M N) := by
  refine yR.adv 4 (pc' := 5) (lv' := [(5, .int 0), (3, .long 1), (0, .long x), (2, .ref 59)]) (st' := []) (M' := M) rfl ?_
  exact (m_fillP_59_loop M x 5 0 M rfl (fun j hj => absurd hj (by omega)) (zKp.refl _ _ _)).drop (by refine ⟨?_, ?_⟩ <;> simp [zget, zwf, nI_succ, zpw, nI])
theorem m_fillL_loop (M : zMm) (s : Nat) (hs : s < 28) : ∀ (d i : Nat) (M' : zMm), i + d = 21 → (∀ j, j < i → M'.2 (18 + s) j = 0) → zKp [18 + s] [] M M' → yR 164 6 [(0, .ref (18 + s)), (1, .long 0), (3, .int (nI i)), (4, .int (nI 21))] [] M' (fun r N => r = none ∧ (∀ j, j < 21 → N.2 (18 + s) j = 0) ∧ zKp [18 + s] [] M N) := by
  intro d
  induction d using Nat.strongRecOn with
  | ind d ih =>
    intro i M' h hp hE
    refine yR.adv 2 (pc' := 9) (lv' := [(0, .ref (18 + s)), (1, .long 0), (3, .int (nI i)), (4, .int (nI 21))]) (st' := [.int (nI 21), .int (nI i)]) (M' := M') rfl ?_
    refine yR.if2 .ge _ _ _ _ rfl (fun q => ?_) (fun q => ?_)
    · have q' : ((21 : Nat) : Int) ≤ i := zcT q (nI_toInt (by omega)) (nI_toInt (by omega))
      refine yR.ret _ rfl rfl rfl ?_
      exact ⟨rfl, fun j hj => hp j (by omega), hE⟩
    · have q' : ¬ ((21 : Nat) : Int) ≤ i := zcF q (nI_toInt (by omega)) (nI_toInt (by omega))
      refine yR.adv 3 (pc' := 15) (lv' := [(0, .ref (18 + s)), (1, .long 0), (3, .int (nI i)), (4, .int (nI 21))]) (st' := [.long 0, .int (nI i), .ref (18 + s)]) (M' := M') rfl ?_
      refine yR.last i _ _ _ rfl (zrow_lay _ (by omega)) (by decide) (rfl) (by omega) ?_
      refine yR.adv 2 (pc' := 6) (lv' := [(3, .int (nI i + 1)), (0, .ref (18 + s)), (1, .long 0), (4, .int (nI 21))]) (st' := []) (M' := zupL (M') (18 + s) i 0) rfl ?_
      have K := ih (d - 1) (by omega) (i + 1) _ (by omega) (fun j hj => by
        rw [zupL_l]
        by_cases e : j = i
        · rw [if_pos ⟨rfl, e⟩]
        · rw [if_neg (fun z => e z.2)]
          exact hp j (by omega)) (hE.upL (a := 18 + s) (i := i) (x := 0) (by simp))
      exact K.drop (by refine ⟨?_, ?_⟩ <;> simp [zget, zwf, nI_succ] <;> omega)
theorem m_fillL (M : zMm) (s : Nat) (hs : s < 28) : yR 164 0 [(0, .ref (18 + s)), (1, .long 0)] [] M (fun r N => r = none ∧ (∀ j, j < 21 → N.2 (18 + s) j = 0) ∧ zKp [18 + s] [] M N) := by
  refine yR.adv 3 (pc' := 3) (lv' := [(3, .int 0), (0, .ref (18 + s)), (1, .long 0)]) (st' := [.ref (18 + s)]) (M' := M) rfl ?_
  refine yR.alen _ _ _ rfl (zrow_lay s hs) ?_
  refine yR.adv 1 (pc' := 6) (lv' := [(4, .int (nI 21)), (3, .int 0), (0, .ref (18 + s)), (1, .long 0)]) (st' := []) (M' := M) rfl ?_
  exact (m_fillL_loop M s hs 21 0 M rfl (fun j hj => absurd hj (by omega)) (zKp.refl _ _ _)).drop (by refine ⟨?_, ?_⟩ <;> simp [zget, zwf, nI_0] <;> omega)
/-- what an orbit's places give to the sums -/
def zpp (p : zPt) (t : Nat) : Int64 := zpw p.1.toInt64 (zpxN t) * zpw p.2.toInt64 (zpyN t)
theorem m_addPow_loop (M : zMm) (s : Nat) (hs : s < 28) (p : zPt) : ∀ (d i : Nat) (M' : zMm), i + d = 21 → (∀ j, j < 6 → M'.2 48 j = zpw p.1.toInt64 j) → (∀ j, j < 6 → M'.2 49 j = zpw p.2.toInt64 j) → (∀ j, j < 21 → M'.2 (18 + s) j = if j < i then M.2 (18 + s) j + zpp p j else M.2 (18 + s) j) → zKp [18 + s, 48, 49] [] M M' →
    yR 9 21 [(0, .ref 12), (1, .ref (18 + s)), (2, .int p.1), (3, .int p.2), (4, .int (nI i))] [] M' (fun r N => r = none ∧ (∀ j, j < 21 → N.2 (18 + s) j = M.2 (18 + s) j + zpp p j) ∧ zKp [18 + s, 48, 49] [] M N) := by
  intro d
  induction d using Nat.strongRecOn with
  | ind d ih =>
    intro i M' h hx hy hp hE
    refine yR.adv 2 (pc' := 25) (lv' := [(0, .ref 12), (1, .ref (18 + s)), (2, .int p.1), (3, .int p.2), (4, .int (nI i))]) (st' := [.int 21, .int (nI i)]) (M' := M') rfl ?_
    refine yR.if2 .ge _ _ _ _ rfl (fun q => ?_) (fun q => ?_)
    · have q' : (21 : Int) ≤ i := zcT q (nI_toInt (by omega)) rfl
      refine yR.ret _ rfl rfl rfl ?_
      exact ⟨rfl, fun j hj => by rw [hp j hj, if_pos (by omega)], hE⟩
    · have q' : ¬ (21 : Int) ≤ i := zcF q (nI_toInt (by omega)) rfl
      have hi : i < 21 := by omega
      obtain ⟨hpx, hpy, h7⟩ := zpxN_ok i (by omega)
      have h6 := zpxN_5 i hi
      refine yR.adv 3 (pc' := 32) (lv' := [(0, .ref 12), (1, .ref (18 + s)), (2, .int p.1), (3, .int p.2), (4, .int (nI i))]) (st' := [.int (nI i), .ref (18 + s), .int (nI i), .ref (18 + s)]) (M' := M') rfl ?_
      refine yR.lald i _ _ _ rfl (zrow_lay _ (by omega)) (by decide) (rfl) (by omega) ?_
      refine yR.adv 4 (pc' := 42) (lv' := [(0, .ref 12), (1, .ref (18 + s)), (2, .int p.1), (3, .int p.2), (4, .int (nI i))]) (st' := [.int (nI i), .retAddr 0, .ref 48, .long ((M').2 (18 + s) i), .int (nI i), .ref (18 + s)]) (M' := M') rfl ?_
      refine yR.fald i _ _ _ rfl rfl (by decide) (rfl) (show i < 28 from by omega) ?_
      refine yR.lald (zpxN i) _ _ _ rfl rfl (by decide) (hpx) (by omega) ?_
      refine yR.adv 4 (pc' := 53) (lv' := [(0, .ref 12), (1, .ref (18 + s)), (2, .int p.1), (3, .int p.2), (4, .int (nI i))]) (st' := [.int (nI i), .retAddr 1, .ref 49, .long ((M').2 48 (zpxN i)), .long ((M').2 (18 + s) i), .int (nI i), .ref (18 + s)]) (M' := M') rfl ?_
      refine yR.fald i _ _ _ rfl rfl (by decide) (rfl) (show i < 28 from by omega) ?_
      refine yR.lald (zpyN i) _ _ _ rfl rfl (by decide) (hpy) (by omega) ?_
      refine yR.adv 2 (pc' := 57) (lv' := [(0, .ref 12), (1, .ref (18 + s)), (2, .int p.1), (3, .int p.2), (4, .int (nI i))]) (st' := [.long (((M').2 (18 + s) i) + (((M').2 48 (zpxN i)) * ((M').2 49 (zpyN i)))), .int (nI i), .ref (18 + s)]) (M' := M') rfl ?_
      rw [hx _ (by omega), hy _ (by omega), hp i hi, if_neg (Nat.lt_irrefl i)]
      refine yR.last i _ _ _ rfl (zrow_lay _ (by omega)) (by decide) (rfl) (by omega) ?_
      refine yR.adv 2 (pc' := 21) (lv' := [(4, .int (nI i + 1)), (0, .ref 12), (1, .ref (18 + s)), (2, .int p.1), (3, .int p.2)]) (st' := []) (M' := zupL (M') (18 + s) i (M.2 (18 + s) i + zpw p.1.toInt64 (zpxN i) * zpw p.2.toInt64 (zpyN i))) rfl ?_
      have K := ih (d - 1) (by omega) (i + 1) (zupL (M') (18 + s) i (M.2 (18 + s) i + zpw p.1.toInt64 (zpxN i) * zpw p.2.toInt64 (zpyN i))) (by omega) (fun j hj => by rw [zupL_l, if_neg (by omega)]; exact hx j hj) (fun j hj => by rw [zupL_l, if_neg (by omega)]; exact hy j hj) (fun j hj => by
        rw [zupL_l]
        by_cases e : j = i
        · rw [if_pos ⟨rfl, e⟩, if_pos (by omega), e]; rfl
        · rw [if_neg (fun z => e z.2), hp j hj]
          by_cases e2 : j < i
          · rw [if_pos e2, if_pos (by omega)]
          · rw [if_neg e2, if_neg (by omega)]) (hE.upL (by simp))
      exact K.drop (by refine ⟨?_, ?_⟩ <;> simp [zget, zwf, nI_succ] <;> omega)
theorem zwf_row {s : Nat} (hs : s < 28) : zwf 118 (.ref (18 + s)) = true := decide_eq_true (show 18 + s < 118 by omega)
theorem m_addPow (M : zMm) (s : Nat) (hs : s < 28) (p : zPt) : yR 9 0 [(0, .ref 12), (1, .ref (18 + s)), (2, .int p.1), (3, .int p.2)] [] M (fun r N => r = none ∧ (∀ j, j < 21 → N.2 (18 + s) j = M.2 (18 + s) j + zpp p j) ∧ zKp [18 + s, 48, 49] [] M N) := by
  have hw := zwf_row hs
  refine yR.adv 4 (pc' := 6) (lv' := [(0, .ref 12), (1, .ref (18 + s)), (2, .int p.1), (3, .int p.2)]) (st' := [.ref 48, .long p.1.toInt64]) (M' := M) rfl ?_
  refine yR.call _ rfl rfl ((by simp [ycallB, zwfl, zwfs, hw, zcat]; exact ⟨Nat.le_of_ble_eq_true rfl, ⟨rfl, rfl, rfl⟩, rfl⟩)) rfl rfl (m_fillP_48 M _) (fun r1 M1 hq => ?_)
  obtain ⟨rfl, h1, e1⟩ := hq
  show yR 9 9 [(0, .ref 12), (1, .ref (18 + s)), (2, .int p.1), (3, .int p.2)] [] M1 _
  refine yR.adv 4 (pc' := 15) (lv' := [(0, .ref 12), (1, .ref (18 + s)), (2, .int p.1), (3, .int p.2)]) (st' := [.ref 49, .long p.2.toInt64]) (M' := M1) rfl ?_
  refine yR.call _ rfl rfl ((by simp [ycallB, zwfl, zwfs, hw, zcat]; exact ⟨Nat.le_of_ble_eq_true rfl, ⟨rfl, rfl, rfl⟩, rfl⟩)) rfl rfl (m_fillP_49 M1 _) (fun r1 M2 hq => ?_)
  obtain ⟨rfl, h2, e2⟩ := hq
  show yR 9 18 [(0, .ref 12), (1, .ref (18 + s)), (2, .int p.1), (3, .int p.2)] [] M2 _
  refine yR.adv 2 (pc' := 21) (lv' := [(4, .int 0), (0, .ref 12), (1, .ref (18 + s)), (2, .int p.1), (3, .int p.2)]) (st' := []) (M' := M2) rfl ?_
  have E1 : zKp [18 + s, 48, 49] [] M M1 := e1.mono (by simp) (by simp)
  have E2 : zKp [18 + s, 48, 49] [] M1 M2 := e2.mono (by simp) (by simp)
  have K := m_addPow_loop M s hs p 21 0 M2 rfl (fun j hj => by rw [(e2 48 j (by decide) (by simp)).2]; exact h1 j hj) h2 (fun j hj => by
    rw [if_neg (by omega), (e2 (18 + s) j (by simp; omega) (by simp)).2, (e1 (18 + s) j (by simp; omega) (by simp)).2]) (E1.trans E2)
  exact K.drop (by refine ⟨?_, ?_⟩ <;> simp [zget, zwf, nI_0] <;> omega)
