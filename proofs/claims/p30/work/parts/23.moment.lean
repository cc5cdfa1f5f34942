/-! ===== moments ===== -/
def zfact : Nat → Nat
  | 0 => 1
  | n + 1 => zfact n * (n + 1)
/-- the moment of x^a y^b over a domain: upper and lower number, not in least terms -/
def zmu (dom a b : Nat) : Int64 := if dom ≠ 1 ∧ (a % 2 = 1 ∨ b % 2 = 1) then 0 else if dom = 0 then 4 else zNl ((if dom = 2 then 4 else 1) * zfact a * zfact b)
def zmd (dom a b : Nat) : Int64 := if dom ≠ 1 ∧ (a % 2 = 1 ∨ b % 2 = 1) then 1 else if dom = 0 then zNl ((a + 1) * (b + 1)) else zNl (zfact (a + b + 2))
theorem zodd : ∀ a, a < 7 → zcB .ne (nI a - nI a / 2 * 2) 0 = decide (a % 2 = 1) := by decide
theorem zodd2 : ∀ a, a < 7 → zcB .eq (nI a - nI a / 2 * 2) 0 = decide (¬ a % 2 = 1) := by decide
theorem zodd3 : ∀ a, a < 7 → zcB .eq (nI a - nI a / 2 * 2) 1 = decide (a % 2 = 1) := by decide
theorem zodd4 : ∀ a, a < 7 → zcB .ne (nI a - nI a / 2 * 2) 1 = decide (¬ a % 2 = 1) := by decide
theorem zbx : ∀ a, a < 7 → ∀ b, b < 7 → ((nI a + 1) * (nI b + 1)).toInt64 = zNl ((a + 1) * (b + 1)) := by decide
theorem zbxr : ∀ a, a < 7 → ∀ b, b < 7 → ((nI a).toInt64 + 1) * ((nI b).toInt64 + 1) = zNl ((a + 1) * (b + 1)) := by decide
theorem zpow7 : ∀ a, a < 7 → ∀ b, b < 7 → a + b < 7 → (0 ≤ nI a ∧ nI a ≤ 6) ∧ (0 ≤ nI b ∧ nI b ≤ 6) ∧ nI a + nI b ≤ 6 := by decide
theorem zfc1 : ∀ a, a < 7 → ∀ b, b < 7 → a + b < 7 → (1 * (zF0 2).2 (nI a).toNatClampNeg * (zF0 2).2 (nI b).toNatClampNeg).toInt64 = zNl (1 * zfact a * zfact b) := by decide
theorem zfc4 : ∀ a, a < 7 → ∀ b, b < 7 → a + b < 7 → (4 * (zF0 2).2 (nI a).toNatClampNeg * (zF0 2).2 (nI b).toNatClampNeg).toInt64 = zNl (4 * zfact a * zfact b) := by decide
theorem zfcs : ∀ a, a < 7 → ∀ b, b < 7 → a + b < 7 → ((zF0 2).2 (nI a + nI b + 2).toNatClampNeg).toInt64 = zNl (zfact (a + b + 2)) := by decide
theorem zfcin : ∀ a, a < 7 → zin (nI a) ((zF0 2).1 - 1) = true := by decide
theorem zfcin2 : ∀ a, a < 7 → ∀ b, b < 7 → a + b < 7 → zin (nI a + nI b + 2) ((zF0 2).1 - 1) = true := by decide
theorem zmd_1 : ∀ a, a < 7 → ∀ b, b < 7 → 0 < (zNl ((a + 1) * (b + 1))).toInt := by decide
theorem zmd_2 : ∀ a, a < 7 → ∀ b, b < 7 → a + b < 7 → 0 < (zNl (zfact (a + b + 2))).toInt := by decide
theorem zmu_1 : ∀ a, a < 7 → ∀ b, b < 7 → a + b < 7 → (zNl (4 * zfact a * zfact b)).toInt ≠ -2 ^ 63 := by decide
theorem zmu_2 : ∀ a, a < 7 → ∀ b, b < 7 → a + b < 7 → (zNl (1 * zfact a * zfact b)).toInt ≠ -2 ^ 63 := by decide
theorem zmd_pos {dom : Nat} (a : Nat) (ha : a < 7) (b : Nat) (hb : b < 7) (hab : a + b < 7) : 0 < (zmd dom a b).toInt := by
  unfold zmd
  split
  · decide
  · split
    · exact zmd_1 a ha b hb
    · exact zmd_2 a ha b hb hab
theorem zmu_ok {dom : Nat} (a : Nat) (ha : a < 7) (b : Nat) (hb : b < 7) (hab : a + b < 7) : (zmu dom a b).toInt ≠ -2 ^ 63 := by
  unfold zmu
  split
  · decide
  · split
    · decide
    · split
      · exact zmu_1 a ha b hb hab
      · exact zmu_2 a ha b hb hab
theorem m_moment_50 (M : zMm) (dom a b : Nat) (hdom : dom < 3) (ha : a < 7) (hb : b < 7) (hab : a + b < 7) : yOk 3 0 [(0, .ref 50), (1, .int (nI dom)), (2, .int (nI a)), (3, .int (nI b))] [] M none (zupL (zupL M 50 0 (zfu (zmu dom a b) (zmd dom a b))) 50 1 (zfd (zmu dom a b) (zmd dom a b))) := by
  have hp := zmd_pos (dom := dom) a ha b hb hab
  have hu := zmu_ok (dom := dom) a ha b hb hab
  have hdn : (nI dom = 1) ↔ dom = 1 := by rcases (show dom = 0 ∨ dom = 1 ∨ dom = 2 by omega) with rfl | rfl | rfl <;> decide
  have hd0 : (nI dom = 0) ↔ dom = 0 := by rcases (show dom = 0 ∨ dom = 1 ∨ dom = 2 by omega) with rfl | rfl | rfl <;> decide
  have hd2 : (nI dom = 2) ↔ dom = 2 := by rcases (show dom = 0 ∨ dom = 1 ∨ dom = 2 by omega) with rfl | rfl | rfl <;> decide
  -- behind the test of odd powers
  have K : ∀ v : Int32, (v = 0 ∧ ¬ (dom ≠ 1 ∧ (a % 2 = 1 ∨ b % 2 = 1)) ∨ v = 1 ∧ (dom ≠ 1 ∧ (a % 2 = 1 ∨ b % 2 = 1))) → yOk 3 22 [(0, .ref 50), (1, .int (nI dom)), (2, .int (nI a)), (3, .int (nI b))] [.int v] M none (zupL (zupL M 50 0 (zfu (zmu dom a b) (zmd dom a b))) 50 1 (zfd (zmu dom a b) (zmd dom a b))) := by
    intro v hv
    refine yOk.adv 2 (pc' := 26) (lv' := [(4, .int v), (0, .ref 50), (1, .int (nI dom)), (2, .int (nI a)), (3, .int (nI b))]) (st' := [.int v]) (M' := M) rfl ?_
    refine yOk.if1 .ne _ _ _ _ rfl (fun q => ?_) (fun q => ?_)
    · have hodd : dom ≠ 1 ∧ (a % 2 = 1 ∨ b % 2 = 1) := by
        rcases hv with ⟨h0, -⟩ | ⟨-, h1⟩
        · rw [h0] at q; cases q
        · exact h1
      have e1 : zmu dom a b = 0 := by unfold zmu; rw [if_pos hodd]
      have e2 : zmd dom a b = 1 := by unfold zmd; rw [if_pos hodd]
      rw [e1, e2]
      rw [e1] at hu
      rw [e2] at hp
      refine yOk.adv 3 (pc' := 40) (lv' := [(4, .int v), (0, .ref 50), (1, .int (nI dom)), (2, .int (nI a)), (3, .int (nI b))]) (st' := [.long 1, .long 0, .ref 50]) (M' := M) rfl ?_
      refine yOk.call (M1 := zupL (zupL M 50 0 (zfu 0 1)) 50 1 (zfd 0 1)) _ rfl rfl rfl rfl rfl (m_become_50 M 0 1 hu hp) ?_
      show yOk 3 43 [(4, .int v), (0, .ref 50), (1, .int (nI dom)), (2, .int (nI a)), (3, .int (nI b))] [] (zupL (zupL M 50 0 (zfu 0 1)) 50 1 (zfd 0 1)) _ _
      refine yOk.adv 1 (pc' := 109) (lv' := [(4, .int v), (0, .ref 50), (1, .int (nI dom)), (2, .int (nI a)), (3, .int (nI b))]) (st' := []) (M' := zupL (zupL M 50 0 (zfu 0 1)) 50 1 (zfd 0 1)) rfl ?_
      exact yOk.ret _ rfl rfl rfl
    · have hev : ¬ (dom ≠ 1 ∧ (a % 2 = 1 ∨ b % 2 = 1)) := by
        rcases hv with ⟨-, h1⟩ | ⟨h0, -⟩
        · exact h1
        · rw [h0] at q; cases q
      refine yOk.adv 2 (pc' := 31) (lv' := [(4, .int v), (0, .ref 50), (1, .int (nI dom)), (2, .int (nI a)), (3, .int (nI b))]) (st' := [.int (nI b), .int (nI a)]) (M' := M) rfl ?_
      refine yOk.call (M1 := M) _ rfl rfl rfl rfl rfl (m_arePowers M (nI a) (nI b)) ?_
      show yOk 3 34 [(4, .int v), (0, .ref 50), (1, .int (nI dom)), (2, .int (nI a)), (3, .int (nI b))] [.int (if (0 ≤ nI a ∧ nI a ≤ 6) ∧ (0 ≤ nI b ∧ nI b ≤ 6) ∧ nI a + nI b ≤ 6 then 1 else 0)] M _ _
      rw [if_pos (zpow7 a ha b hb hab)]
      refine yOk.if1 .ne _ _ _ _ rfl (fun q2 => ?_) (fun q2 => ?_)
      · refine yOk.adv 1 (pc' := 47) (lv' := [(4, .int v), (0, .ref 50), (1, .int (nI dom)), (2, .int (nI a)), (3, .int (nI b))]) (st' := [.int (nI dom)]) (M' := M) rfl ?_
        refine yOk.if1 .ne _ _ _ _ rfl (fun q3 => ?_) (fun q3 => ?_)
        · have h0 : ¬ dom = 0 := fun h => zne_t q3 (hd0.mpr h)
          refine yOk.adv 2 (pc' := 70) (lv' := [(4, .int v), (0, .ref 50), (1, .int (nI dom)), (2, .int (nI a)), (3, .int (nI b))]) (st' := [.int 2, .int (nI dom)]) (M' := M) rfl ?_
          have K2 : ∀ w : Nat, w = (if dom = 2 then 4 else 1) → yOk 3 78 [(4, .int v), (0, .ref 50), (1, .int (nI dom)), (2, .int (nI a)), (3, .int (nI b))] [.int (nI w)] M none (zupL (zupL M 50 0 (zfu (zmu dom a b) (zmd dom a b))) 50 1 (zfd (zmu dom a b) (zmd dom a b))) := by
            intro w hw
            have e1 : zmu dom a b = zNl (w * zfact a * zfact b) := by unfold zmu; rw [if_neg hev, if_neg h0, hw]
            have e2 : zmd dom a b = zNl (zfact (a + b + 2)) := by unfold zmd; rw [if_neg hev, if_neg h0]
            have e3 : (nI w * (zF0 2).2 (nI a).toNatClampNeg * (zF0 2).2 (nI b).toNatClampNeg).toInt64 = zNl (w * zfact a * zfact b) := by
              rw [hw]
              by_cases h2 : dom = 2
              · rw [if_pos h2]; exact zfc4 a ha b hb hab
              · rw [if_neg h2]; exact zfc1 a ha b hb hab
            rw [e1, e2]
            rw [e1] at hu
            rw [e2] at hp
            refine yOk.adv 5 (pc' := 87) (lv' := [(5, .int (nI w)), (4, .int v), (0, .ref 50), (1, .int (nI dom)), (2, .int (nI a)), (3, .int (nI b))]) (st' := [.int (nI a), .retAddr 2, .int (nI w), .ref 50]) (M' := M) rfl ?_
            refine yOk.fald _ _ _ rfl rfl (zfcin a ha) ?_
            refine yOk.adv 3 (pc' := 93) (lv' := [(5, .int (nI w)), (4, .int v), (0, .ref 50), (1, .int (nI dom)), (2, .int (nI a)), (3, .int (nI b))]) (st' := [.int (nI b), .retAddr 2, .int ((nI w) * ((zF0 2).2 ((nI a).toNatClampNeg))), .ref 50]) (M' := M) rfl ?_
            refine yOk.fald _ _ _ rfl rfl (zfcin b hb) ?_
            refine yOk.adv 2 (pc' := 96) (lv' := [(5, .int (nI w)), (4, .int v), (0, .ref 50), (1, .int (nI dom)), (2, .int (nI a)), (3, .int (nI b))]) (st' := [.long ((((nI w) * ((zF0 2).2 ((nI a).toNatClampNeg))) * ((zF0 2).2 ((nI b).toNatClampNeg))).toInt64), .ref 50]) (M' := M) rfl ?_
            rw [e3]
            refine yOk.adv 6 (pc' := 104) (lv' := [(5, .int (nI w)), (4, .int v), (0, .ref 50), (1, .int (nI dom)), (2, .int (nI a)), (3, .int (nI b))]) (st' := [.int (((nI a) + (nI b)) + 2), .retAddr 2, .long (zNl (w * zfact a * zfact b)), .ref 50]) (M' := M) rfl ?_
            refine yOk.fald _ _ _ rfl rfl (zfcin2 a ha b hb hab) ?_
            refine yOk.adv 1 (pc' := 106) (lv' := [(5, .int (nI w)), (4, .int v), (0, .ref 50), (1, .int (nI dom)), (2, .int (nI a)), (3, .int (nI b))]) (st' := [.long (((zF0 2).2 ((((nI a) + (nI b)) + 2).toNatClampNeg)).toInt64), .long (zNl (w * zfact a * zfact b)), .ref 50]) (M' := M) rfl ?_
            rw [zfcs a ha b hb hab]
            refine yOk.call (M1 := zupL (zupL M 50 0 (zfu (zNl (w * zfact a * zfact b)) (zNl (zfact (a + b + 2))))) 50 1 (zfd (zNl (w * zfact a * zfact b)) (zNl (zfact (a + b + 2))))) _ rfl rfl rfl rfl rfl (m_become_50 M (zNl (w * zfact a * zfact b)) (zNl (zfact (a + b + 2))) hu hp) ?_
            show yOk 3 109 [(5, .int (nI w)), (4, .int v), (0, .ref 50), (1, .int (nI dom)), (2, .int (nI a)), (3, .int (nI b))] [] (zupL (zupL M 50 0 (zfu (zNl (w * zfact a * zfact b)) (zNl (zfact (a + b + 2))))) 50 1 (zfd (zNl (w * zfact a * zfact b)) (zNl (zfact (a + b + 2))))) _ _
            exact yOk.ret _ rfl rfl rfl
          refine yOk.if2 .ne _ _ _ _ rfl (fun q4 => ?_) (fun q4 => ?_)
          · refine yOk.adv 1 (pc' := 78) (lv' := [(4, .int v), (0, .ref 50), (1, .int (nI dom)), (2, .int (nI a)), (3, .int (nI b))]) (st' := [.int 1]) (M' := M) rfl ?_
            exact K2 1 (by rw [if_neg (fun h => zne_t q4 (hd2.mpr h))])
          · refine yOk.adv 2 (pc' := 78) (lv' := [(4, .int v), (0, .ref 50), (1, .int (nI dom)), (2, .int (nI a)), (3, .int (nI b))]) (st' := [.int 4]) (M' := M) rfl ?_
            exact K2 4 (by rw [if_pos (hd2.mp (zne_f q4))])
        · have h0 : dom = 0 := hd0.mp (zne_f q3)
          have e1 : zmu dom a b = 4 := by unfold zmu; rw [if_neg hev, if_pos h0]
          have e2 : zmd dom a b = zNl ((a + 1) * (b + 1)) := by unfold zmd; rw [if_neg hev, if_pos h0]
          rw [e1, e2]
          rw [e1] at hu
          rw [e2] at hp
          refine yOk.adv 10 (pc' := 62) (lv' := [(4, .int v), (0, .ref 50), (1, .int (nI dom)), (2, .int (nI a)), (3, .int (nI b))]) (st' := [.long ((((nI a) + 1) * ((nI b) + 1)).toInt64), .long 4, .ref 50]) (M' := M) rfl ?_
          rw [zbx a ha b hb]
          refine yOk.call (M1 := zupL (zupL M 50 0 (zfu 4 (zNl ((a + 1) * (b + 1))))) 50 1 (zfd 4 (zNl ((a + 1) * (b + 1))))) _ rfl rfl rfl rfl rfl (m_become_50 M 4 (zNl ((a + 1) * (b + 1))) hu hp) ?_
          show yOk 3 65 [(4, .int v), (0, .ref 50), (1, .int (nI dom)), (2, .int (nI a)), (3, .int (nI b))] [] (zupL (zupL M 50 0 (zfu 4 (zNl ((a + 1) * (b + 1))))) 50 1 (zfd 4 (zNl ((a + 1) * (b + 1))))) _ _
          refine yOk.adv 1 (pc' := 109) (lv' := [(4, .int v), (0, .ref 50), (1, .int (nI dom)), (2, .int (nI a)), (3, .int (nI b))]) (st' := []) (M' := zupL (zupL M 50 0 (zfu 4 (zNl ((a + 1) * (b + 1))))) 50 1 (zfd 4 (zNl ((a + 1) * (b + 1))))) rfl ?_
          exact yOk.ret _ rfl rfl rfl
      · exact absurd q2 (by decide)
  have two : ¬ (2 : Int32) = 0 := by decide
  have K1 : (a % 2 = 1 ∨ b % 2 = 1) → yOk 3 12 [(0, .ref 50), (1, .int (nI dom)), (2, .int (nI a)), (3, .int (nI b))] [] M none (zupL (zupL M 50 0 (zfu (zmu dom a b) (zmd dom a b))) 50 1 (zfd (zmu dom a b) (zmd dom a b))) := by
    intro ho
    refine yOk.adv 2 (pc' := 14) (lv' := [(0, .ref 50), (1, .int (nI dom)), (2, .int (nI a)), (3, .int (nI b))]) (st' := [.int 1, .int (nI dom)]) (M' := M) rfl ?_
    refine yOk.if2 .eq _ _ _ _ rfl (fun q => ?_) (fun q => ?_)
    · refine yOk.adv 1 (pc' := 22) (lv' := [(0, .ref 50), (1, .int (nI dom)), (2, .int (nI a)), (3, .int (nI b))]) (st' := [.int 0]) (M' := M) rfl ?_
      exact K 0 (Or.inl ⟨rfl, fun h => h.1 (hdn.mp (zeq_t q))⟩)
    · refine yOk.adv 2 (pc' := 22) (lv' := [(0, .ref 50), (1, .int (nI dom)), (2, .int (nI a)), (3, .int (nI b))]) (st' := [.int 1]) (M' := M) rfl ?_
      exact K 1 (Or.inr ⟨rfl, fun h => zeq_f q (hdn.mpr h), ho⟩)
  refine yOk.adv 2 (pc' := 2) (lv' := [(0, .ref 50), (1, .int (nI dom)), (2, .int (nI a)), (3, .int (nI b))]) (st' := [.int 2, .int (nI a)]) (M' := M) rfl ?_
  refine yOk.irem _ _ _ rfl (two) ?_
  refine yOk.if1 .ne _ _ _ _ rfl (fun q => ?_) (fun q => ?_)
  · exact K1 (Or.inl (by rw [zodd a ha] at q; exact of_decide_eq_true q))
  · have hea : ¬ a % 2 = 1 := by rw [zodd a ha] at q; exact of_decide_eq_false q
    refine yOk.adv 2 (pc' := 8) (lv' := [(0, .ref 50), (1, .int (nI dom)), (2, .int (nI a)), (3, .int (nI b))]) (st' := [.int 2, .int (nI b)]) (M' := M) rfl ?_
    refine yOk.irem _ _ _ rfl (two) ?_
    refine yOk.if1 .eq _ _ _ _ rfl (fun q2 => ?_) (fun q2 => ?_)
    · have heb : ¬ b % 2 = 1 := by rw [zodd2 b hb] at q2; exact of_decide_eq_true q2
      refine yOk.adv 1 (pc' := 22) (lv' := [(0, .ref 50), (1, .int (nI dom)), (2, .int (nI a)), (3, .int (nI b))]) (st' := [.int 0]) (M' := M) rfl ?_
      exact K 0 (Or.inl ⟨rfl, fun h => h.2.elim hea heb⟩)
    · exact K1 (Or.inr (by rw [zodd2 b hb] at q2; exact Classical.byContradiction fun h => of_decide_eq_false q2 h))
theorem m_moment_52 (M : zMm) (dom a b : Nat) (hdom : dom < 3) (ha : a < 7) (hb : b < 7) (hab : a + b < 7) : yOk 3 0 [(0, .ref 52), (1, .int (nI dom)), (2, .int (nI a)), (3, .int (nI b))] [] M none (zupL (zupL M 52 0 (zfu (zmu dom a b) (zmd dom a b))) 52 1 (zfd (zmu dom a b) (zmd dom a b))) := by
  have hp := zmd_pos (dom := dom) a ha b hb hab
  have hu := zmu_ok (dom := dom) a ha b hb hab
  have hdn : (nI dom = 1) ↔ dom = 1 := by rcases (show dom = 0 ∨ dom = 1 ∨ dom = 2 by omega) with rfl | rfl | rfl <;> decide
  have hd0 : (nI dom = 0) ↔ dom = 0 := by rcases (show dom = 0 ∨ dom = 1 ∨ dom = 2 by omega) with rfl | rfl | rfl <;> decide
  have hd2 : (nI dom = 2) ↔ dom = 2 := by rcases (show dom = 0 ∨ dom = 1 ∨ dom = 2 by omega) with rfl | rfl | rfl <;> decide
  -- behind the test of odd powers
  have K : ∀ v : Int32, (v = 0 ∧ ¬ (dom ≠ 1 ∧ (a % 2 = 1 ∨ b % 2 = 1)) ∨ v = 1 ∧ (dom ≠ 1 ∧ (a % 2 = 1 ∨ b % 2 = 1))) → yOk 3 22 [(0, .ref 52), (1, .int (nI dom)), (2, .int (nI a)), (3, .int (nI b))] [.int v] M none (zupL (zupL M 52 0 (zfu (zmu dom a b) (zmd dom a b))) 52 1 (zfd (zmu dom a b) (zmd dom a b))) := by
    intro v hv
    refine yOk.adv 2 (pc' := 26) (lv' := [(4, .int v), (0, .ref 52), (1, .int (nI dom)), (2, .int (nI a)), (3, .int (nI b))]) (st' := [.int v]) (M' := M) rfl ?_
    refine yOk.if1 .ne _ _ _ _ rfl (fun q => ?_) (fun q => ?_)
    · have hodd : dom ≠ 1 ∧ (a % 2 = 1 ∨ b % 2 = 1) := by
        rcases hv with ⟨h0, -⟩ | ⟨-, h1⟩
        · rw [h0] at q; cases q
        · exact h1
      have e1 : zmu dom a b = 0 := by unfold zmu; rw [if_pos hodd]
      have e2 : zmd dom a b = 1 := by unfold zmd; rw [if_pos hodd]
      rw [e1, e2]
      rw [e1] at hu
      rw [e2] at hp
      refine yOk.adv 3 (pc' := 40) (lv' := [(4, .int v), (0, .ref 52), (1, .int (nI dom)), (2, .int (nI a)), (3, .int (nI b))]) (st' := [.long 1, .long 0, .ref 52]) (M' := M) rfl ?_
      refine yOk.call (M1 := zupL (zupL M 52 0 (zfu 0 1)) 52 1 (zfd 0 1)) _ rfl rfl rfl rfl rfl (m_become_52 M 0 1 hu hp) ?_
      show yOk 3 43 [(4, .int v), (0, .ref 52), (1, .int (nI dom)), (2, .int (nI a)), (3, .int (nI b))] [] (zupL (zupL M 52 0 (zfu 0 1)) 52 1 (zfd 0 1)) _ _
      refine yOk.adv 1 (pc' := 109) (lv' := [(4, .int v), (0, .ref 52), (1, .int (nI dom)), (2, .int (nI a)), (3, .int (nI b))]) (st' := []) (M' := zupL (zupL M 52 0 (zfu 0 1)) 52 1 (zfd 0 1)) rfl ?_
      exact yOk.ret _ rfl rfl rfl
    · have hev : ¬ (dom ≠ 1 ∧ (a % 2 = 1 ∨ b % 2 = 1)) := by
        rcases hv with ⟨-, h1⟩ | ⟨h0, -⟩
        · exact h1
        · rw [h0] at q; cases q
      refine yOk.adv 2 (pc' := 31) (lv' := [(4, .int v), (0, .ref 52), (1, .int (nI dom)), (2, .int (nI a)), (3, .int (nI b))]) (st' := [.int (nI b), .int (nI a)]) (M' := M) rfl ?_
      refine yOk.call (M1 := M) _ rfl rfl rfl rfl rfl (m_arePowers M (nI a) (nI b)) ?_
      show yOk 3 34 [(4, .int v), (0, .ref 52), (1, .int (nI dom)), (2, .int (nI a)), (3, .int (nI b))] [.int (if (0 ≤ nI a ∧ nI a ≤ 6) ∧ (0 ≤ nI b ∧ nI b ≤ 6) ∧ nI a + nI b ≤ 6 then 1 else 0)] M _ _
      rw [if_pos (zpow7 a ha b hb hab)]
      refine yOk.if1 .ne _ _ _ _ rfl (fun q2 => ?_) (fun q2 => ?_)
      · refine yOk.adv 1 (pc' := 47) (lv' := [(4, .int v), (0, .ref 52), (1, .int (nI dom)), (2, .int (nI a)), (3, .int (nI b))]) (st' := [.int (nI dom)]) (M' := M) rfl ?_
        refine yOk.if1 .ne _ _ _ _ rfl (fun q3 => ?_) (fun q3 => ?_)
        · have h0 : ¬ dom = 0 := fun h => zne_t q3 (hd0.mpr h)
          refine yOk.adv 2 (pc' := 70) (lv' := [(4, .int v), (0, .ref 52), (1, .int (nI dom)), (2, .int (nI a)), (3, .int (nI b))]) (st' := [.int 2, .int (nI dom)]) (M' := M) rfl ?_
          have K2 : ∀ w : Nat, w = (if dom = 2 then 4 else 1) → yOk 3 78 [(4, .int v), (0, .ref 52), (1, .int (nI dom)), (2, .int (nI a)), (3, .int (nI b))] [.int (nI w)] M none (zupL (zupL M 52 0 (zfu (zmu dom a b) (zmd dom a b))) 52 1 (zfd (zmu dom a b) (zmd dom a b))) := by
            intro w hw
            have e1 : zmu dom a b = zNl (w * zfact a * zfact b) := by unfold zmu; rw [if_neg hev, if_neg h0, hw]
            have e2 : zmd dom a b = zNl (zfact (a + b + 2)) := by unfold zmd; rw [if_neg hev, if_neg h0]
            have e3 : (nI w * (zF0 2).2 (nI a).toNatClampNeg * (zF0 2).2 (nI b).toNatClampNeg).toInt64 = zNl (w * zfact a * zfact b) := by
              rw [hw]
              by_cases h2 : dom = 2
              · rw [if_pos h2]; exact zfc4 a ha b hb hab
              · rw [if_neg h2]; exact zfc1 a ha b hb hab
            rw [e1, e2]
            rw [e1] at hu
            rw [e2] at hp
            refine yOk.adv 5 (pc' := 87) (lv' := [(5, .int (nI w)), (4, .int v), (0, .ref 52), (1, .int (nI dom)), (2, .int (nI a)), (3, .int (nI b))]) (st' := [.int (nI a), .retAddr 2, .int (nI w), .ref 52]) (M' := M) rfl ?_
            refine yOk.fald _ _ _ rfl rfl (zfcin a ha) ?_
            refine yOk.adv 3 (pc' := 93) (lv' := [(5, .int (nI w)), (4, .int v), (0, .ref 52), (1, .int (nI dom)), (2, .int (nI a)), (3, .int (nI b))]) (st' := [.int (nI b), .retAddr 2, .int ((nI w) * ((zF0 2).2 ((nI a).toNatClampNeg))), .ref 52]) (M' := M) rfl ?_
            refine yOk.fald _ _ _ rfl rfl (zfcin b hb) ?_
            refine yOk.adv 2 (pc' := 96) (lv' := [(5, .int (nI w)), (4, .int v), (0, .ref 52), (1, .int (nI dom)), (2, .int (nI a)), (3, .int (nI b))]) (st' := [.long ((((nI w) * ((zF0 2).2 ((nI a).toNatClampNeg))) * ((zF0 2).2 ((nI b).toNatClampNeg))).toInt64), .ref 52]) (M' := M) rfl ?_
            rw [e3]
            refine yOk.adv 6 (pc' := 104) (lv' := [(5, .int (nI w)), (4, .int v), (0, .ref 52), (1, .int (nI dom)), (2, .int (nI a)), (3, .int (nI b))]) (st' := [.int (((nI a) + (nI b)) + 2), .retAddr 2, .long (zNl (w * zfact a * zfact b)), .ref 52]) (M' := M) rfl ?_
            refine yOk.fald _ _ _ rfl rfl (zfcin2 a ha b hb hab) ?_
            refine yOk.adv 1 (pc' := 106) (lv' := [(5, .int (nI w)), (4, .int v), (0, .ref 52), (1, .int (nI dom)), (2, .int (nI a)), (3, .int (nI b))]) (st' := [.long (((zF0 2).2 ((((nI a) + (nI b)) + 2).toNatClampNeg)).toInt64), .long (zNl (w * zfact a * zfact b)), .ref 52]) (M' := M) rfl ?_
            rw [zfcs a ha b hb hab]
            refine yOk.call (M1 := zupL (zupL M 52 0 (zfu (zNl (w * zfact a * zfact b)) (zNl (zfact (a + b + 2))))) 52 1 (zfd (zNl (w * zfact a * zfact b)) (zNl (zfact (a + b + 2))))) _ rfl rfl rfl rfl rfl (m_become_52 M (zNl (w * zfact a * zfact b)) (zNl (zfact (a + b + 2))) hu hp) ?_
            show yOk 3 109 [(5, .int (nI w)), (4, .int v), (0, .ref 52), (1, .int (nI dom)), (2, .int (nI a)), (3, .int (nI b))] [] (zupL (zupL M 52 0 (zfu (zNl (w * zfact a * zfact b)) (zNl (zfact (a + b + 2))))) 52 1 (zfd (zNl (w * zfact a * zfact b)) (zNl (zfact (a + b + 2))))) _ _
            exact yOk.ret _ rfl rfl rfl
          refine yOk.if2 .ne _ _ _ _ rfl (fun q4 => ?_) (fun q4 => ?_)
          · refine yOk.adv 1 (pc' := 78) (lv' := [(4, .int v), (0, .ref 52), (1, .int (nI dom)), (2, .int (nI a)), (3, .int (nI b))]) (st' := [.int 1]) (M' := M) rfl ?_
            exact K2 1 (by rw [if_neg (fun h => zne_t q4 (hd2.mpr h))])
          · refine yOk.adv 2 (pc' := 78) (lv' := [(4, .int v), (0, .ref 52), (1, .int (nI dom)), (2, .int (nI a)), (3, .int (nI b))]) (st' := [.int 4]) (M' := M) rfl ?_
            exact K2 4 (by rw [if_pos (hd2.mp (zne_f q4))])
        · have h0 : dom = 0 := hd0.mp (zne_f q3)
          have e1 : zmu dom a b = 4 := by unfold zmu; rw [if_neg hev, if_pos h0]
          have e2 : zmd dom a b = zNl ((a + 1) * (b + 1)) := by unfold zmd; rw [if_neg hev, if_pos h0]
          rw [e1, e2]
          rw [e1] at hu
          rw [e2] at hp
          refine yOk.adv 10 (pc' := 62) (lv' := [(4, .int v), (0, .ref 52), (1, .int (nI dom)), (2, .int (nI a)), (3, .int (nI b))]) (st' := [.long ((((nI a) + 1) * ((nI b) + 1)).toInt64), .long 4, .ref 52]) (M' := M) rfl ?_
          rw [zbx a ha b hb]
          refine yOk.call (M1 := zupL (zupL M 52 0 (zfu 4 (zNl ((a + 1) * (b + 1))))) 52 1 (zfd 4 (zNl ((a + 1) * (b + 1))))) _ rfl rfl rfl rfl rfl (m_become_52 M 4 (zNl ((a + 1) * (b + 1))) hu hp) ?_
          show yOk 3 65 [(4, .int v), (0, .ref 52), (1, .int (nI dom)), (2, .int (nI a)), (3, .int (nI b))] [] (zupL (zupL M 52 0 (zfu 4 (zNl ((a + 1) * (b + 1))))) 52 1 (zfd 4 (zNl ((a + 1) * (b + 1))))) _ _
          refine yOk.adv 1 (pc' := 109) (lv' := [(4, .int v), (0, .ref 52), (1, .int (nI dom)), (2, .int (nI a)), (3, .int (nI b))]) (st' := []) (M' := zupL (zupL M 52 0 (zfu 4 (zNl ((a + 1) * (b + 1))))) 52 1 (zfd 4 (zNl ((a + 1) * (b + 1))))) rfl ?_
          exact yOk.ret _ rfl rfl rfl
      · exact absurd q2 (by decide)
  have two : ¬ (2 : Int32) = 0 := by decide
  have K1 : (a % 2 = 1 ∨ b % 2 = 1) → yOk 3 12 [(0, .ref 52), (1, .int (nI dom)), (2, .int (nI a)), (3, .int (nI b))] [] M none (zupL (zupL M 52 0 (zfu (zmu dom a b) (zmd dom a b))) 52 1 (zfd (zmu dom a b) (zmd dom a b))) := by
    intro ho
    refine yOk.adv 2 (pc' := 14) (lv' := [(0, .ref 52), (1, .int (nI dom)), (2, .int (nI a)), (3, .int (nI b))]) (st' := [.int 1, .int (nI dom)]) (M' := M) rfl ?_
    refine yOk.if2 .eq _ _ _ _ rfl (fun q => ?_) (fun q => ?_)
    · refine yOk.adv 1 (pc' := 22) (lv' := [(0, .ref 52), (1, .int (nI dom)), (2, .int (nI a)), (3, .int (nI b))]) (st' := [.int 0]) (M' := M) rfl ?_
      exact K 0 (Or.inl ⟨rfl, fun h => h.1 (hdn.mp (zeq_t q))⟩)
    · refine yOk.adv 2 (pc' := 22) (lv' := [(0, .ref 52), (1, .int (nI dom)), (2, .int (nI a)), (3, .int (nI b))]) (st' := [.int 1]) (M' := M) rfl ?_
      exact K 1 (Or.inr ⟨rfl, fun h => zeq_f q (hdn.mpr h), ho⟩)
  refine yOk.adv 2 (pc' := 2) (lv' := [(0, .ref 52), (1, .int (nI dom)), (2, .int (nI a)), (3, .int (nI b))]) (st' := [.int 2, .int (nI a)]) (M' := M) rfl ?_
  refine yOk.irem _ _ _ rfl (two) ?_
  refine yOk.if1 .ne _ _ _ _ rfl (fun q => ?_) (fun q => ?_)
  · exact K1 (Or.inl (by rw [zodd a ha] at q; exact of_decide_eq_true q))
  · have hea : ¬ a % 2 = 1 := by rw [zodd a ha] at q; exact of_decide_eq_false q
    refine yOk.adv 2 (pc' := 8) (lv' := [(0, .ref 52), (1, .int (nI dom)), (2, .int (nI a)), (3, .int (nI b))]) (st' := [.int 2, .int (nI b)]) (M' := M) rfl ?_
    refine yOk.irem _ _ _ rfl (two) ?_
    refine yOk.if1 .eq _ _ _ _ rfl (fun q2 => ?_) (fun q2 => ?_)
    · have heb : ¬ b % 2 = 1 := by rw [zodd2 b hb] at q2; exact of_decide_eq_true q2
      refine yOk.adv 1 (pc' := 22) (lv' := [(0, .ref 52), (1, .int (nI dom)), (2, .int (nI a)), (3, .int (nI b))]) (st' := [.int 0]) (M' := M) rfl ?_
      exact K 0 (Or.inl ⟨rfl, fun h => h.2.elim hea heb⟩)
    · exact K1 (Or.inr (by rw [zodd2 b hb] at q2; exact Classical.byContradiction fun h => of_decide_eq_false q2 h))
theorem m_moment_53 (M : zMm) (dom a b : Nat) (hdom : dom < 3) (ha : a < 7) (hb : b < 7) (hab : a + b < 7) : yOk 3 0 [(0, .ref 53), (1, .int (nI dom)), (2, .int (nI a)), (3, .int (nI b))] [] M none (zupL (zupL M 53 0 (zfu (zmu dom a b) (zmd dom a b))) 53 1 (zfd (zmu dom a b) (zmd dom a b))) := by
  have hp := zmd_pos (dom := dom) a ha b hb hab
  have hu := zmu_ok (dom := dom) a ha b hb hab
  have hdn : (nI dom = 1) ↔ dom = 1 := by rcases (show dom = 0 ∨ dom = 1 ∨ dom = 2 by omega) with rfl | rfl | rfl <;> decide
  have hd0 : (nI dom = 0) ↔ dom = 0 := by rcases (show dom = 0 ∨ dom = 1 ∨ dom = 2 by omega) with rfl | rfl | rfl <;> decide
  have hd2 : (nI dom = 2) ↔ dom = 2 := by rcases (show dom = 0 ∨ dom = 1 ∨ dom = 2 by omega) with rfl | rfl | rfl <;> decide
  -- behind the test of odd powers
  have K : ∀ v : Int32, (v = 0 ∧ ¬ (dom ≠ 1 ∧ (a % 2 = 1 ∨ b % 2 = 1)) ∨ v = 1 ∧ (dom ≠ 1 ∧ (a % 2 = 1 ∨ b % 2 = 1))) → yOk 3 22 [(0, .ref 53), (1, .int (nI dom)), (2, .int (nI a)), (3, .int (nI b))] [.int v] M none (zupL (zupL M 53 0 (zfu (zmu dom a b) (zmd dom a b))) 53 1 (zfd (zmu dom a b) (zmd dom a b))) := by
    intro v hv
    refine yOk.adv 2 (pc' := 26) (lv' := [(4, .int v), (0, .ref 53), (1, .int (nI dom)), (2, .int (nI a)), (3, .int (nI b))]) (st' := [.int v]) (M' := M) rfl ?_
    refine yOk.if1 .ne _ _ _ _ rfl (fun q => ?_) (fun q => ?_)
    · have hodd : dom ≠ 1 ∧ (a % 2 = 1 ∨ b % 2 = 1) := by
        rcases hv with ⟨h0, -⟩ | ⟨-, h1⟩
        · rw [h0] at q; cases q
        · exact h1
      have e1 : zmu dom a b = 0 := by unfold zmu; rw [if_pos hodd]
      have e2 : zmd dom a b = 1 := by unfold zmd; rw [if_pos hodd]
      rw [e1, e2]
      rw [e1] at hu
      rw [e2] at hp
      refine yOk.adv 3 (pc' := 40) (lv' := [(4, .int v), (0, .ref 53), (1, .int (nI dom)), (2, .int (nI a)), (3, .int (nI b))]) (st' := [.long 1, .long 0, .ref 53]) (M' := M) rfl ?_
      refine yOk.call (M1 := zupL (zupL M 53 0 (zfu 0 1)) 53 1 (zfd 0 1)) _ rfl rfl rfl rfl rfl (m_become_53 M 0 1 hu hp) ?_
      show yOk 3 43 [(4, .int v), (0, .ref 53), (1, .int (nI dom)), (2, .int (nI a)), (3, .int (nI b))] [] (zupL (zupL M 53 0 (zfu 0 1)) 53 1 (zfd 0 1)) _ _
      refine yOk.adv 1 (pc' := 109) (lv' := [(4, .int v), (0, .ref 53), (1, .int (nI dom)), (2, .int (nI a)), (3, .int (nI b))]) (st' := []) (M' := zupL (zupL M 53 0 (zfu 0 1)) 53 1 (zfd 0 1)) rfl ?_
      exact yOk.ret _ rfl rfl rfl
    · have hev : ¬ (dom ≠ 1 ∧ (a % 2 = 1 ∨ b % 2 = 1)) := by
        rcases hv with ⟨-, h1⟩ | ⟨h0, -⟩
        · exact h1
        · rw [h0] at q; cases q
      refine yOk.adv 2 (pc' := 31) (lv' := [(4, .int v), (0, .ref 53), (1, .int (nI dom)), (2, .int (nI a)), (3, .int (nI b))]) (st' := [.int (nI b), .int (nI a)]) (M' := M) rfl ?_
      refine yOk.call (M1 := M) _ rfl rfl rfl rfl rfl (m_arePowers M (nI a) (nI b)) ?_
      show yOk 3 34 [(4, .int v), (0, .ref 53), (1, .int (nI dom)), (2, .int (nI a)), (3, .int (nI b))] [.int (if (0 ≤ nI a ∧ nI a ≤ 6) ∧ (0 ≤ nI b ∧ nI b ≤ 6) ∧ nI a + nI b ≤ 6 then 1 else 0)] M _ _
      rw [if_pos (zpow7 a ha b hb hab)]
      refine yOk.if1 .ne _ _ _ _ rfl (fun q2 => ?_) (fun q2 => ?_)
      · refine yOk.adv 1 (pc' := 47) (lv' := [(4, .int v), (0, .ref 53), (1, .int (nI dom)), (2, .int (nI a)), (3, .int (nI b))]) (st' := [.int (nI dom)]) (M' := M) rfl ?_
        refine yOk.if1 .ne _ _ _ _ rfl (fun q3 => ?_) (fun q3 => ?_)
        · have h0 : ¬ dom = 0 := fun h => zne_t q3 (hd0.mpr h)
          refine yOk.adv 2 (pc' := 70) (lv' := [(4, .int v), (0, .ref 53), (1, .int (nI dom)), (2, .int (nI a)), (3, .int (nI b))]) (st' := [.int 2, .int (nI dom)]) (M' := M) rfl ?_
          have K2 : ∀ w : Nat, w = (if dom = 2 then 4 else 1) → yOk 3 78 [(4, .int v), (0, .ref 53), (1, .int (nI dom)), (2, .int (nI a)), (3, .int (nI b))] [.int (nI w)] M none (zupL (zupL M 53 0 (zfu (zmu dom a b) (zmd dom a b))) 53 1 (zfd (zmu dom a b) (zmd dom a b))) := by
            intro w hw
            have e1 : zmu dom a b = zNl (w * zfact a * zfact b) := by unfold zmu; rw [if_neg hev, if_neg h0, hw]
            have e2 : zmd dom a b = zNl (zfact (a + b + 2)) := by unfold zmd; rw [if_neg hev, if_neg h0]
            have e3 : (nI w * (zF0 2).2 (nI a).toNatClampNeg * (zF0 2).2 (nI b).toNatClampNeg).toInt64 = zNl (w * zfact a * zfact b) := by
              rw [hw]
              by_cases h2 : dom = 2
              · rw [if_pos h2]; exact zfc4 a ha b hb hab
              · rw [if_neg h2]; exact zfc1 a ha b hb hab
            rw [e1, e2]
            rw [e1] at hu
            rw [e2] at hp
            refine yOk.adv 5 (pc' := 87) (lv' := [(5, .int (nI w)), (4, .int v), (0, .ref 53), (1, .int (nI dom)), (2, .int (nI a)), (3, .int (nI b))]) (st' := [.int (nI a), .retAddr 2, .int (nI w), .ref 53]) (M' := M) rfl ?_
            refine yOk.fald _ _ _ rfl rfl (zfcin a ha) ?_
            refine yOk.adv 3 (pc' := 93) (lv' := [(5, .int (nI w)), (4, .int v), (0, .ref 53), (1, .int (nI dom)), (2, .int (nI a)), (3, .int (nI b))]) (st' := [.int (nI b), .retAddr 2, .int ((nI w) * ((zF0 2).2 ((nI a).toNatClampNeg))), .ref 53]) (M' := M) rfl ?_
            refine yOk.fald _ _ _ rfl rfl (zfcin b hb) ?_
            refine yOk.adv 2 (pc' := 96) (lv' := [(5, .int (nI w)), (4, .int v), (0, .ref 53), (1, .int (nI dom)), (2, .int (nI a)), (3, .int (nI b))]) (st' := [.long ((((nI w) * ((zF0 2).2 ((nI a).toNatClampNeg))) * ((zF0 2).2 ((nI b).toNatClampNeg))).toInt64), .ref 53]) (M' := M) rfl ?_
            rw [e3]
            refine yOk.adv 6 (pc' := 104) (lv' := [(5, .int (nI w)), (4, .int v), (0, .ref 53), (1, .int (nI dom)), (2, .int (nI a)), (3, .int (nI b))]) (st' := [.int (((nI a) + (nI b)) + 2), .retAddr 2, .long (zNl (w * zfact a * zfact b)), .ref 53]) (M' := M) rfl ?_
            refine yOk.fald _ _ _ rfl rfl (zfcin2 a ha b hb hab) ?_
            refine yOk.adv 1 (pc' := 106) (lv' := [(5, .int (nI w)), (4, .int v), (0, .ref 53), (1, .int (nI dom)), (2, .int (nI a)), (3, .int (nI b))]) (st' := [.long (((zF0 2).2 ((((nI a) + (nI b)) + 2).toNatClampNeg)).toInt64), .long (zNl (w * zfact a * zfact b)), .ref 53]) (M' := M) rfl ?_
            rw [zfcs a ha b hb hab]
            refine yOk.call (M1 := zupL (zupL M 53 0 (zfu (zNl (w * zfact a * zfact b)) (zNl (zfact (a + b + 2))))) 53 1 (zfd (zNl (w * zfact a * zfact b)) (zNl (zfact (a + b + 2))))) _ rfl rfl rfl rfl rfl (m_become_53 M (zNl (w * zfact a * zfact b)) (zNl (zfact (a + b + 2))) hu hp) ?_
            show yOk 3 109 [(5, .int (nI w)), (4, .int v), (0, .ref 53), (1, .int (nI dom)), (2, .int (nI a)), (3, .int (nI b))] [] (zupL (zupL M 53 0 (zfu (zNl (w * zfact a * zfact b)) (zNl (zfact (a + b + 2))))) 53 1 (zfd (zNl (w * zfact a * zfact b)) (zNl (zfact (a + b + 2))))) _ _
            exact yOk.ret _ rfl rfl rfl
          refine yOk.if2 .ne _ _ _ _ rfl (fun q4 => ?_) (fun q4 => ?_)
          · refine yOk.adv 1 (pc' := 78) (lv' := [(4, .int v), (0, .ref 53), (1, .int (nI dom)), (2, .int (nI a)), (3, .int (nI b))]) (st' := [.int 1]) (M' := M) rfl ?_
            exact K2 1 (by rw [if_neg (fun h => zne_t q4 (hd2.mpr h))])
          · refine yOk.adv 2 (pc' := 78) (lv' := [(4, .int v), (0, .ref 53), (1, .int (nI dom)), (2, .int (nI a)), (3, .int (nI b))]) (st' := [.int 4]) (M' := M) rfl ?_
            exact K2 4 (by rw [if_pos (hd2.mp (zne_f q4))])
        · have h0 : dom = 0 := hd0.mp (zne_f q3)
          have e1 : zmu dom a b = 4 := by unfold zmu; rw [if_neg hev, if_pos h0]
          have e2 : zmd dom a b = zNl ((a + 1) * (b + 1)) := by unfold zmd; rw [if_neg hev, if_pos h0]
          rw [e1, e2]
          rw [e1] at hu
          rw [e2] at hp
          refine yOk.adv 10 (pc' := 62) (lv' := [(4, .int v), (0, .ref 53), (1, .int (nI dom)), (2, .int (nI a)), (3, .int (nI b))]) (st' := [.long ((((nI a) + 1) * ((nI b) + 1)).toInt64), .long 4, .ref 53]) (M' := M) rfl ?_
          rw [zbx a ha b hb]
          refine yOk.call (M1 := zupL (zupL M 53 0 (zfu 4 (zNl ((a + 1) * (b + 1))))) 53 1 (zfd 4 (zNl ((a + 1) * (b + 1))))) _ rfl rfl rfl rfl rfl (m_become_53 M 4 (zNl ((a + 1) * (b + 1))) hu hp) ?_
          show yOk 3 65 [(4, .int v), (0, .ref 53), (1, .int (nI dom)), (2, .int (nI a)), (3, .int (nI b))] [] (zupL (zupL M 53 0 (zfu 4 (zNl ((a + 1) * (b + 1))))) 53 1 (zfd 4 (zNl ((a + 1) * (b + 1))))) _ _
          refine yOk.adv 1 (pc' := 109) (lv' := [(4, .int v), (0, .ref 53), (1, .int (nI dom)), (2, .int (nI a)), (3, .int (nI b))]) (st' := []) (M' := zupL (zupL M 53 0 (zfu 4 (zNl ((a + 1) * (b + 1))))) 53 1 (zfd 4 (zNl ((a + 1) * (b + 1))))) rfl ?_
          exact yOk.ret _ rfl rfl rfl
      · exact absurd q2 (by decide)
  have two : ¬ (2 : Int32) = 0 := by decide
  have K1 : (a % 2 = 1 ∨ b % 2 = 1) → yOk 3 12 [(0, .ref 53), (1, .int (nI dom)), (2, .int (nI a)), (3, .int (nI b))] [] M none (zupL (zupL M 53 0 (zfu (zmu dom a b) (zmd dom a b))) 53 1 (zfd (zmu dom a b) (zmd dom a b))) := by
    intro ho
    refine yOk.adv 2 (pc' := 14) (lv' := [(0, .ref 53), (1, .int (nI dom)), (2, .int (nI a)), (3, .int (nI b))]) (st' := [.int 1, .int (nI dom)]) (M' := M) rfl ?_
    refine yOk.if2 .eq _ _ _ _ rfl (fun q => ?_) (fun q => ?_)
    · refine yOk.adv 1 (pc' := 22) (lv' := [(0, .ref 53), (1, .int (nI dom)), (2, .int (nI a)), (3, .int (nI b))]) (st' := [.int 0]) (M' := M) rfl ?_
      exact K 0 (Or.inl ⟨rfl, fun h => h.1 (hdn.mp (zeq_t q))⟩)
    · refine yOk.adv 2 (pc' := 22) (lv' := [(0, .ref 53), (1, .int (nI dom)), (2, .int (nI a)), (3, .int (nI b))]) (st' := [.int 1]) (M' := M) rfl ?_
      exact K 1 (Or.inr ⟨rfl, fun h => zeq_f q (hdn.mpr h), ho⟩)
  refine yOk.adv 2 (pc' := 2) (lv' := [(0, .ref 53), (1, .int (nI dom)), (2, .int (nI a)), (3, .int (nI b))]) (st' := [.int 2, .int (nI a)]) (M' := M) rfl ?_
  refine yOk.irem _ _ _ rfl (two) ?_
  refine yOk.if1 .ne _ _ _ _ rfl (fun q => ?_) (fun q => ?_)
  · exact K1 (Or.inl (by rw [zodd a ha] at q; exact of_decide_eq_true q))
  · have hea : ¬ a % 2 = 1 := by rw [zodd a ha] at q; exact of_decide_eq_false q
    refine yOk.adv 2 (pc' := 8) (lv' := [(0, .ref 53), (1, .int (nI dom)), (2, .int (nI a)), (3, .int (nI b))]) (st' := [.int 2, .int (nI b)]) (M' := M) rfl ?_
    refine yOk.irem _ _ _ rfl (two) ?_
    refine yOk.if1 .eq _ _ _ _ rfl (fun q2 => ?_) (fun q2 => ?_)
    · have heb : ¬ b % 2 = 1 := by rw [zodd2 b hb] at q2; exact of_decide_eq_true q2
      refine yOk.adv 1 (pc' := 22) (lv' := [(0, .ref 53), (1, .int (nI dom)), (2, .int (nI a)), (3, .int (nI b))]) (st' := [.int 0]) (M' := M) rfl ?_
      exact K 0 (Or.inl ⟨rfl, fun h => h.2.elim hea heb⟩)
    · exact K1 (Or.inr (by rw [zodd2 b hb] at q2; exact Classical.byContradiction fun h => of_decide_eq_false q2 h))
