/-! ===== small methods of both classes ===== -/
def zpw (v : Int64) : Nat → Int64
  | 0 => 1
  | n + 1 => zpw v n * v
theorem zI_of {n : Int32} (h : ¬ n < 0) : n = nI n.toNatClampNeg := by
  apply Int32.toInt_inj.mp
  have h0 : 0 ≤ n.toInt := by have := Int32.le_iff_toInt_le.mp (Int32.not_lt.mp h); simpa using this
  have h1 : n.toNatClampNeg = n.toInt.toNat := rfl
  have h2 : n.toInt < 2 ^ 31 := Int32.toInt_lt n
  rw [nI_toInt (by omega)]
  omega
-- power, of the class
theorem m_power_loop (M : zMm) (v : Int64) (N : Nat) (hN : N < 2 ^ 31) : ∀ (d i : Nat), i + d = N → yOk 69 5 [(0, .long v), (2, .int (nI N)), (3, .long (zpw v i)), (5, .int (nI i))] [] M (some (.long (zpw v N))) M
  | 0, i, h => by
    refine yOk.adv 2 (pc' := 8) (lv' := [(0, .long v), (2, .int (nI N)), (3, .long (zpw v i)), (5, .int (nI i))]) (st' := [.int (nI N), .int (nI i)]) (M' := M) rfl ?_
    refine yOk.if2 .ge _ _ _ _ rfl (fun q => ?_) (fun q => ?_)
    · refine yOk.adv 1 (pc' := 22) (lv' := [(0, .long v), (2, .int (nI N)), (3, .long (zpw v i)), (5, .int (nI i))]) (st' := [.long (zpw v i)]) (M' := M) rfl ?_
      have : i = N := by omega
      subst this
      exact yOk.ret _ rfl rfl rfl
    · exact absurd (zge_f q) (nI_nlt (by omega) (by omega))
  | d + 1, i, h => by
    refine yOk.adv 2 (pc' := 8) (lv' := [(0, .long v), (2, .int (nI N)), (3, .long (zpw v i)), (5, .int (nI i))]) (st' := [.int (nI N), .int (nI i)]) (M' := M) rfl ?_
    refine yOk.if2 .ge _ _ _ _ rfl (fun q => ?_) (fun q => ?_)
    · exact absurd (nI_lt (show i < N by omega) hN) (zge_t q)
    · refine yOk.adv 6 (pc' := 5) (lv' := [(5, .int (nI i + 1)), (3, .long ((zpw v i) * v)), (0, .long v), (2, .int (nI N))]) (st' := []) (M' := M) rfl ?_
      have ih := m_power_loop M v N hN d (i + 1) (by omega)
      rw [nI_succ] at ih
      exact ih.drop (by refine ⟨?_, ?_⟩ <;> simp [zget, zwf, zpw])
theorem m_power (M : zMm) (v : Int64) (n : Int32) (hn : ¬ n < 0) : yOk 69 0 [(0, .long v), (2, .int n)] [] M (some (.long (zpw v n.toNatClampNeg))) M := by
  have h1 : n.toNatClampNeg = n.toInt.toNat := rfl
  have h2 : n.toInt < 2 ^ 31 := Int32.toInt_lt n
  refine yOk.adv 4 (pc' := 5) (lv' := [(5, .int 0), (3, .long 1), (0, .long v), (2, .int n)]) (st' := []) (M' := M) rfl ?_
  have h := m_power_loop M v n.toNatClampNeg (by omega) n.toNatClampNeg 0 (by omega)
  rw [← zI_of hn] at h
  exact h.drop (by refine ⟨?_, ?_⟩ <;> simp [zget, zwf, zpw, nI])
-- power, of the reference: the same code
theorem r_power_loop (M : zMm) (v : Int64) (N : Nat) (hN : N < 2 ^ 31) : ∀ (d i : Nat), i + d = N → yOk 106 5 [(0, .long v), (2, .int (nI N)), (3, .long (zpw v i)), (5, .int (nI i))] [] M (some (.long (zpw v N))) M
  | 0, i, h => by
    refine yOk.adv 2 (pc' := 8) (lv' := [(0, .long v), (2, .int (nI N)), (3, .long (zpw v i)), (5, .int (nI i))]) (st' := [.int (nI N), .int (nI i)]) (M' := M) rfl ?_
    refine yOk.if2 .ge _ _ _ _ rfl (fun q => ?_) (fun q => ?_)
    · refine yOk.adv 1 (pc' := 22) (lv' := [(0, .long v), (2, .int (nI N)), (3, .long (zpw v i)), (5, .int (nI i))]) (st' := [.long (zpw v i)]) (M' := M) rfl ?_
      have : i = N := by omega
      subst this
      exact yOk.ret _ rfl rfl rfl
    · exact absurd (zge_f q) (nI_nlt (by omega) (by omega))
  | d + 1, i, h => by
    refine yOk.adv 2 (pc' := 8) (lv' := [(0, .long v), (2, .int (nI N)), (3, .long (zpw v i)), (5, .int (nI i))]) (st' := [.int (nI N), .int (nI i)]) (M' := M) rfl ?_
    refine yOk.if2 .ge _ _ _ _ rfl (fun q => ?_) (fun q => ?_)
    · exact absurd (nI_lt (show i < N by omega) hN) (zge_t q)
    · refine yOk.adv 6 (pc' := 5) (lv' := [(5, .int (nI i + 1)), (3, .long ((zpw v i) * v)), (0, .long v), (2, .int (nI N))]) (st' := []) (M' := M) rfl ?_
      have ih := r_power_loop M v N hN d (i + 1) (by omega)
      rw [nI_succ] at ih
      exact ih.drop (by refine ⟨?_, ?_⟩ <;> simp [zget, zwf, zpw])
theorem r_power (M : zMm) (v : Int64) (n : Int32) (hn : ¬ n < 0) : yOk 106 0 [(0, .long v), (2, .int n)] [] M (some (.long (zpw v n.toNatClampNeg))) M := by
  have h1 : n.toNatClampNeg = n.toInt.toNat := rfl
  have h2 : n.toInt < 2 ^ 31 := Int32.toInt_lt n
  refine yOk.adv 4 (pc' := 5) (lv' := [(5, .int 0), (3, .long 1), (0, .long v), (2, .int n)]) (st' := []) (M' := M) rfl ?_
  have h := r_power_loop M v n.toNatClampNeg (by omega) n.toNatClampNeg 0 (by omega)
  rw [← zI_of hn] at h
  exact h.drop (by refine ⟨?_, ?_⟩ <;> simp [zget, zwf, zpw, nI])
-- isFrom twice and a sum: arePowers
theorem m_arePowers (M : zMm) (a b : Int32) : yOk 68 0 [(0, .int a), (1, .int b)] [] M (some (.int (if (0 ≤ a ∧ a ≤ 6) ∧ (0 ≤ b ∧ b ≤ 6) ∧ a + b ≤ 6 then 1 else 0))) M := by
  refine yOk.adv 3 (pc' := 4) (lv' := [(0, .int a), (1, .int b)]) (st' := [.int 6, .int 0, .int a]) (M' := M) rfl ?_
  refine yOk.call (M1 := M) _ rfl rfl rfl rfl rfl (m_isFrom a 0 6 M) ?_
  show yOk 68 7 [(0, .int a), (1, .int b)] [.int (if 0 ≤ a ∧ a ≤ 6 then 1 else 0)] M _ _
  refine yOk.if1 .eq _ _ _ _ rfl (fun q => ?_) (fun q => ?_)
  · have ha : ¬ (0 ≤ a ∧ a ≤ 6) := fun h => by rw [if_pos h] at q; cases q
    rw [if_neg (fun h => ha h.1)]
    refine yOk.adv 1 (pc' := 33) (lv' := [(0, .int a), (1, .int b)]) (st' := [.int 0]) (M' := M) rfl ?_
    exact yOk.ret _ rfl rfl rfl
  · have ha : 0 ≤ a ∧ a ≤ 6 := Classical.byContradiction fun h => by rw [if_neg h] at q; cases q
    refine yOk.adv 3 (pc' := 14) (lv' := [(0, .int a), (1, .int b)]) (st' := [.int 6, .int 0, .int b]) (M' := M) rfl ?_
    refine yOk.call (M1 := M) _ rfl rfl rfl rfl rfl (m_isFrom b 0 6 M) ?_
    show yOk 68 17 [(0, .int a), (1, .int b)] [.int (if 0 ≤ b ∧ b ≤ 6 then 1 else 0)] M _ _
    refine yOk.if1 .eq _ _ _ _ rfl (fun q2 => ?_) (fun q2 => ?_)
    · have hb : ¬ (0 ≤ b ∧ b ≤ 6) := fun h => by rw [if_pos h] at q2; cases q2
      rw [if_neg (fun h => hb h.2.1)]
      refine yOk.adv 1 (pc' := 33) (lv' := [(0, .int a), (1, .int b)]) (st' := [.int 0]) (M' := M) rfl ?_
      exact yOk.ret _ rfl rfl rfl
    · have hb : 0 ≤ b ∧ b ≤ 6 := Classical.byContradiction fun h => by rw [if_neg h] at q2; cases q2
      refine yOk.adv 4 (pc' := 25) (lv' := [(0, .int a), (1, .int b)]) (st' := [.int 6, .int (a + b)]) (M' := M) rfl ?_
      refine yOk.if2 .gt _ _ _ _ rfl (fun q3 => ?_) (fun q3 => ?_)
      · rw [if_neg (fun h => absurd (zgt_t q3) (Int32.not_lt.mpr h.2.2))]
        refine yOk.adv 1 (pc' := 33) (lv' := [(0, .int a), (1, .int b)]) (st' := [.int 0]) (M' := M) rfl ?_
        exact yOk.ret _ rfl rfl rfl
      · rw [if_pos ⟨ha, hb, Int32.not_lt.mp (zgt_f q3)⟩]
        refine yOk.adv 2 (pc' := 33) (lv' := [(0, .int a), (1, .int b)]) (st' := [.int 1]) (M' := M) rfl ?_
        exact yOk.ret _ rfl rfl rfl
