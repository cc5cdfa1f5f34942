/-! ===== the reference's small methods and moments ===== -/
theorem zlc_lt (x y : Int64) : zcB .lt (lg_cmp x y) 0 = decide (x < y) := by
  unfold lg_cmp
  by_cases h1 : x > y
  · have : ¬ x < y := fun h => by
      have h1 : y < x := h1
      rw [Int64.lt_iff_toInt_lt] at h h1
      omega
    rw [if_pos h1, decide_eq_false this]; decide
  · rw [if_neg h1]
    by_cases h2 : x = y
    · rw [if_pos h2, decide_eq_false (fun h => by rw [h2, Int64.lt_iff_toInt_lt] at h; omega)]; decide
    · have h3 : x < y := by
        have h1 : ¬ y < x := h1
        rw [Int64.lt_iff_toInt_lt] at h1 ⊢
        have : x.toInt ≠ y.toInt := fun h => h2 (Int64.toInt_inj.mp h)
        omega
      rw [if_neg h2, decide_eq_true h3]; decide
theorem zlc_gt (x y : Int64) : zcB .gt (lg_cmp x y) 0 = decide (y < x) := by
  unfold lg_cmp
  by_cases h1 : x > y
  · rw [if_pos h1, decide_eq_true (show y < x from h1)]; decide
  · rw [if_neg h1, decide_eq_false (show ¬ y < x from h1)]
    by_cases h2 : x = y
    · rw [if_pos h2]; decide
    · rw [if_neg h2]; decide
theorem r_within (M : zMm) (v lo hi : Int64) : yOk 100 0 [(0, .long v), (2, .long lo), (4, .long hi)] [] M (some (.int (if lo ≤ v ∧ v ≤ hi then 1 else 0))) M := by
  refine yOk.adv 3 (pc' := 3) (lv' := [(0, .long v), (2, .long lo), (4, .long hi)]) (st' := [.int (lg_cmp v lo)]) (M' := M) rfl ?_
  refine yOk.if1 .lt _ _ _ _ rfl (fun q => ?_) (fun q => ?_)
  · rw [zlc_lt] at q
    rw [if_neg (fun h => absurd (of_decide_eq_true q) (Int64.not_lt.mpr h.1))]
    refine yOk.adv 1 (pc' := 18) (lv' := [(0, .long v), (2, .long lo), (4, .long hi)]) (st' := [.int 0]) (M' := M) rfl ?_
    exact yOk.ret _ rfl rfl rfl
  · rw [zlc_lt] at q
    refine yOk.adv 3 (pc' := 10) (lv' := [(0, .long v), (2, .long lo), (4, .long hi)]) (st' := [.int (lg_cmp v hi)]) (M' := M) rfl ?_
    refine yOk.if1 .gt _ _ _ _ rfl (fun q2 => ?_) (fun q2 => ?_)
    · rw [zlc_gt] at q2
      rw [if_neg (fun h => absurd (of_decide_eq_true q2) (Int64.not_lt.mpr h.2))]
      refine yOk.adv 1 (pc' := 18) (lv' := [(0, .long v), (2, .long lo), (4, .long hi)]) (st' := [.int 0]) (M' := M) rfl ?_
      exact yOk.ret _ rfl rfl rfl
    · rw [zlc_gt] at q2
      rw [if_pos ⟨Int64.not_lt.mp (of_decide_eq_false q), Int64.not_lt.mp (of_decide_eq_false q2)⟩]
      refine yOk.adv 2 (pc' := 18) (lv' := [(0, .long v), (2, .long lo), (4, .long hi)]) (st' := [.int 1]) (M' := M) rfl ?_
      exact yOk.ret _ rfl rfl rfl
/-- within, of ints made long -/
theorem r_withinI (M : zMm) (v : Int32) (lo hi : Int) (lo' hi' : Int64) (h1 : lo'.toInt = lo) (h2 : hi'.toInt = hi) : yOk 100 0 [(0, .long v.toInt64), (2, .long lo'), (4, .long hi')] [] M (some (.int (if lo ≤ v.toInt ∧ v.toInt ≤ hi then 1 else 0))) M := by
  have h := r_within M v.toInt64 lo' hi'
  have e : (lo' ≤ v.toInt64 ∧ v.toInt64 ≤ hi') ↔ (lo ≤ v.toInt ∧ v.toInt ≤ hi) := by
    rw [Int64.le_iff_toInt_le, Int64.le_iff_toInt_le, Kit.i64_of_i32, h1, h2]
  by_cases hc : lo ≤ v.toInt ∧ v.toInt ≤ hi
  · rw [if_pos (e.mpr hc)] at h; rw [if_pos hc]; exact h
  · rw [if_neg (fun q => hc (e.mp q))] at h; rw [if_neg hc]; exact h
theorem m_isFromI (M : zMm) (v : Int32) (lo hi : Int) (lo' hi' : Int32) (h1 : lo'.toInt = lo) (h2 : hi'.toInt = hi) : yOk 67 0 [(0, .int v), (1, .int lo'), (2, .int hi')] [] M (some (.int (if lo ≤ v.toInt ∧ v.toInt ≤ hi then 1 else 0))) M := by
  have h := m_isFrom v lo' hi' M
  have e : (lo' ≤ v ∧ v ≤ hi') ↔ (lo ≤ v.toInt ∧ v.toInt ≤ hi) := by
    rw [Int32.le_iff_toInt_le, Int32.le_iff_toInt_le, h1, h2]
  by_cases hc : lo ≤ v.toInt ∧ v.toInt ≤ hi
  · rw [if_pos (e.mpr hc)] at h; rw [if_pos hc]; exact h
  · rw [if_neg (fun q => hc (e.mp q))] at h; rw [if_neg hc]; exact h
/-- powers that are allowed -/
def zpok (a b : Int32) : Prop := 0 ≤ a.toInt ∧ 0 ≤ b.toInt ∧ a.toInt + b.toInt ≤ 6
theorem zpok_m (a b : Int32) : ((0 ≤ a ∧ a ≤ 6) ∧ (0 ≤ b ∧ b ≤ 6) ∧ a + b ≤ 6) ↔ zpok a b := by
  have e0 : ((0 : Int32)).toInt = 0 := rfl
  have e6 : ((6 : Int32)).toInt = 6 := rfl
  unfold zpok
  rw [Int32.le_iff_toInt_le, Int32.le_iff_toInt_le, Int32.le_iff_toInt_le, Int32.le_iff_toInt_le, Int32.le_iff_toInt_le, e0, e6]
  constructor
  · rintro ⟨h1, h2, h3⟩
    rw [Kit.i32_add (by omega) (by omega)] at h3
    omega
  · rintro ⟨h1, h2, h3⟩
    refine ⟨by omega, by omega, ?_⟩
    rw [Kit.i32_add (by omega) (by omega)]
    omega
theorem m_arePowersI (M : zMm) (a b : Int32) (v : Int32) (hv : (zpok a b ∧ v = 1) ∨ (¬ zpok a b ∧ v = 0)) : yOk 68 0 [(0, .int a), (1, .int b)] [] M (some (.int v)) M := by
  have h := m_arePowers M a b
  rcases hv with ⟨hp, rfl⟩ | ⟨hp, rfl⟩
  · rw [if_pos ((zpok_m a b).mpr hp)] at h; exact h
  · rw [if_neg (fun q => hp ((zpok_m a b).mp q))] at h; exact h
theorem r_isPower (M : zMm) (a b : Int32) (v : Int32) (hv : (zpok a b ∧ v = 1) ∨ (¬ zpok a b ∧ v = 0)) : yOk 109 0 [(0, .int a), (1, .int b)] [] M (some (.int v)) M := by
  have e0 : ((0 : Int32)).toInt = 0 := rfl
  have e6 : ((6 : Int32)).toInt = 6 := rfl
  have no : ¬ zpok a b → v = 0 := fun h => hv.elim (fun q => absurd q.1 h) (fun q => q.2)
  have yes : zpok a b → v = 1 := fun h => hv.elim (fun q => q.2) (fun q => absurd h q.1)
  have out : v = 0 → yOk 109 26 [(0, .int a), (1, .int b)] [] M (some (.int v)) M := by
    intro h
    subst h
    refine yOk.adv 1 (pc' := 27) (lv' := [(0, .int a), (1, .int b)]) (st' := [.int 0]) (M' := M) rfl ?_
    exact yOk.ret _ rfl rfl rfl
  refine yOk.adv 1 (pc' := 1) (lv' := [(0, .int a), (1, .int b)]) (st' := [.int a]) (M' := M) rfl ?_
  refine yOk.if1 .lt _ _ _ _ rfl (fun q => ?_) (fun q => ?_)
  · refine out (no fun h => ?_)
    have := Int32.lt_iff_toInt_lt.mp (zlt_t q)
    unfold zpok at h
    omega
  · refine yOk.adv 1 (pc' := 5) (lv' := [(0, .int a), (1, .int b)]) (st' := [.int b]) (M' := M) rfl ?_
    refine yOk.if1 .lt _ _ _ _ rfl (fun q2 => ?_) (fun q2 => ?_)
    · refine out (no fun h => ?_)
      have := Int32.lt_iff_toInt_lt.mp (zlt_t q2)
      unfold zpok at h
      omega
    · refine yOk.adv 2 (pc' := 11) (lv' := [(0, .int a), (1, .int b)]) (st' := [.int 6, .int a]) (M' := M) rfl ?_
      refine yOk.if2 .gt _ _ _ _ rfl (fun q3 => ?_) (fun q3 => ?_)
      · refine out (no fun h => ?_)
        have := Int32.lt_iff_toInt_lt.mp (zgt_t q3)
        unfold zpok at h
        omega
      · have h1 : 0 ≤ a.toInt := by have := Int32.le_iff_toInt_le.mp (Int32.not_lt.mp (zlt_f q)); omega
        have h2 : 0 ≤ b.toInt := by have := Int32.le_iff_toInt_le.mp (Int32.not_lt.mp (zlt_f q2)); omega
        have h3 : a.toInt ≤ 6 := by have := Int32.le_iff_toInt_le.mp (Int32.not_lt.mp (zgt_f q3)); omega
        have hs : ((6 : Int32) - a).toInt = 6 - a.toInt := by rw [Kit.i32_sub (by rw [e6]; omega) (by rw [e6]; omega), e6]
        refine yOk.adv 4 (pc' := 19) (lv' := [(0, .int a), (1, .int b)]) (st' := [.int (6 - a), .int b]) (M' := M) rfl ?_
        refine yOk.if2 .gt _ _ _ _ rfl (fun q4 => ?_) (fun q4 => ?_)
        · refine out (no fun h => ?_)
          have := Int32.lt_iff_toInt_lt.mp (zgt_t q4)
          unfold zpok at h
          omega
        · have h4 : b.toInt ≤ 6 - a.toInt := by have := Int32.le_iff_toInt_le.mp (Int32.not_lt.mp (zgt_f q4)); omega
          have : v = 1 := yes ⟨h1, h2, by omega⟩
          subst this
          refine yOk.adv 2 (pc' := 27) (lv' := [(0, .int a), (1, .int b)]) (st' := [.int 1]) (M' := M) rfl ?_
          exact yOk.ret _ rfl rfl rfl
theorem r_isWhich (M : zMm) (w : Int32) (v : Int32) (hv : ((w = 0 ∨ w = 1) ∧ v = 1) ∨ (¬ (w = 0 ∨ w = 1) ∧ v = 0)) : yOk 114 0 [(0, .int w)] [] M (some (.int v)) M := by
  have yes : (w = 0 ∨ w = 1) → yOk 114 9 [(0, .int w)] [] M (some (.int v)) M := by
    intro h
    have : v = 1 := hv.elim (fun q => q.2) (fun q => absurd h q.1)
    subst this
    refine yOk.adv 2 (pc' := 14) (lv' := [(0, .int w)]) (st' := [.int 1]) (M' := M) rfl ?_
    exact yOk.ret _ rfl rfl rfl
  refine yOk.adv 1 (pc' := 1) (lv' := [(0, .int w)]) (st' := [.int w]) (M' := M) rfl ?_
  refine yOk.if1 .eq _ _ _ _ rfl (fun q => ?_) (fun q => ?_)
  · exact yes (Or.inl (zeq_t q))
  · refine yOk.adv 2 (pc' := 6) (lv' := [(0, .int w)]) (st' := [.int 1, .int w]) (M' := M) rfl ?_
    refine yOk.if2 .ne _ _ _ _ rfl (fun q2 => ?_) (fun q2 => ?_)
    · have : v = 0 := hv.elim (fun h => absurd h.1 (fun h => h.elim (zeq_f q) (zne_t q2))) (fun h => h.2)
      subst this
      refine yOk.adv 1 (pc' := 14) (lv' := [(0, .int w)]) (st' := [.int 0]) (M' := M) rfl ?_
      exact yOk.ret _ rfl rfl rfl
    · exact yes (Or.inr (zne_f q2))
theorem zNl_mul (a b : Nat) : zNl a * zNl b = zNl (a * b) := (Int64.ofNat_mul a b).symm
theorem zNl_i {n : Nat} (h : n < 2 ^ 31) : (nI n).toInt64 = zNl n := nI_l h
theorem r_fact_loop (M : zMm) (N : Nat) (hN : N < 100) : ∀ (d i : Nat), i + d = N → yOk 107 4 [(0, .int (nI N)), (1, .long (zNl (zfact i))), (3, .int (nI (i + 1)))] [] M (some (.long (zNl (zfact N)))) M
  | 0, i, h => by
    refine yOk.adv 2 (pc' := 6) (lv' := [(0, .int (nI N)), (1, .long (zNl (zfact i))), (3, .int (nI (i + 1)))]) (st' := [.int (nI N), .int (nI (i + 1))]) (M' := M) rfl ?_
    refine yOk.if2 .gt _ _ _ _ rfl (fun q => ?_) (fun q => ?_)
    · refine yOk.adv 1 (pc' := 21) (lv' := [(0, .int (nI N)), (1, .long (zNl (zfact i))), (3, .int (nI (i + 1)))]) (st' := [.long (zNl (zfact i))]) (M' := M) rfl ?_
      have : i = N := by omega
      subst this
      exact yOk.ret _ rfl rfl rfl
    · exact absurd (nI_lt (show N < i + 1 by omega) (by omega)) (zgt_f q)
  | d + 1, i, h => by
    refine yOk.adv 2 (pc' := 6) (lv' := [(0, .int (nI N)), (1, .long (zNl (zfact i))), (3, .int (nI (i + 1)))]) (st' := [.int (nI N), .int (nI (i + 1))]) (M' := M) rfl ?_
    refine yOk.if2 .gt _ _ _ _ rfl (fun q => ?_) (fun q => ?_)
    · exact absurd (zgt_t q) (nI_nlt (show i + 1 ≤ N by omega) (by omega))
    · refine yOk.adv 3 (pc' := 12) (lv' := [(0, .int (nI N)), (1, .long (zNl (zfact i))), (3, .int (nI (i + 1)))]) (st' := [.long ((nI (i + 1)).toInt64), .long (zNl (zfact i))]) (M' := M) rfl ?_
      rw [zNl_i (by omega)]
      refine yOk.adv 1 (pc' := 13) (lv' := [(0, .int (nI N)), (1, .long (zNl (zfact i))), (3, .int (nI (i + 1)))]) (st' := [.long ((zNl (zfact i)) * (zNl (i + 1)))]) (M' := M) rfl ?_
      rw [zNl_mul]
      refine yOk.adv 3 (pc' := 4) (lv' := [(3, .int (nI (i + 1) + 1)), (1, .long (zNl (zfact i * (i + 1)))), (0, .int (nI N))]) (st' := []) (M' := M) rfl ?_
      have ih := r_fact_loop M N hN d (i + 1) (by omega)
      rw [nI_succ (i + 1)] at ih
      exact ih.drop (by refine ⟨?_, ?_⟩ <;> simp [zget, zwf, zfact])
theorem r_fact (M : zMm) (N : Nat) (hN : N < 100) : yOk 107 0 [(0, .int (nI N))] [] M (some (.long (zNl (zfact N)))) M := by
  refine yOk.adv 4 (pc' := 4) (lv' := [(3, .int 2), (1, .long 1), (0, .int (nI N))]) (st' := []) (M' := M) rfl ?_
  by_cases h0 : N = 0
  · subst h0
    refine yOk.adv 2 (pc' := 6) (lv' := [(3, .int 2), (1, .long 1), (0, .int (nI 0))]) (st' := [.int (nI 0), .int 2]) (M' := M) rfl ?_
    refine yOk.if2 .gt _ _ _ _ rfl (fun q => ?_) (fun q => ?_)
    · refine yOk.adv 1 (pc' := 21) (lv' := [(3, .int 2), (1, .long 1), (0, .int (nI 0))]) (st' := [.long 1]) (M' := M) rfl ?_
      exact yOk.ret _ rfl rfl rfl
    · exact absurd q (by decide)
  · have h := r_fact_loop M N hN (N - 1) 1 (by omega)
    exact h.drop (by refine ⟨?_, ?_⟩ <;> simp [zget, zwf, zfact] <;> decide)
theorem r_moment (M : zMm) (dom a b : Nat) (hm : M.1 93 4 = nI dom) (hdom : dom < 3) (ha : a < 7) (hb : b < 7) (hab : a + b < 7) : yOk 111 0 [(0, .ref 93), (1, .int (nI a)), (2, .int (nI b))] [] M none (zupL (zupL M 93 2 (zfu (zmu dom a b) (zmd dom a b))) 93 3 (zfd (zmu dom a b) (zmd dom a b))) := by
  have hp := zmd_pos (dom := dom) a ha b hb hab
  have hu := zmu_ok (dom := dom) a ha b hb hab
  have hdn : (nI dom = 1) ↔ dom = 1 := by rcases (show dom = 0 ∨ dom = 1 ∨ dom = 2 by omega) with rfl | rfl | rfl <;> decide
  have hd0 : (nI dom = 0) ↔ dom = 0 := by rcases (show dom = 0 ∨ dom = 1 ∨ dom = 2 by omega) with rfl | rfl | rfl <;> decide
  have hd2 : (nI dom = 2) ↔ dom = 2 := by rcases (show dom = 0 ∨ dom = 1 ∨ dom = 2 by omega) with rfl | rfl | rfl <;> decide
  -- behind the zero moment
  have KB : ∀ v : Int32, ¬ (dom ≠ 1 ∧ (a % 2 = 1 ∨ b % 2 = 1)) → yOk 111 41 [(3, .int v), (0, .ref 93), (1, .int (nI a)), (2, .int (nI b))] [] M none (zupL (zupL M 93 2 (zfu (zmu dom a b) (zmd dom a b))) 93 3 (zfd (zmu dom a b) (zmd dom a b))) := by
    intro v hev
    refine yOk.adv 2 (pc' := 45) (lv' := [(3, .int v), (0, .ref 93), (1, .int (nI a)), (2, .int (nI b))]) (st' := [.int (M.1 93 4)]) (M' := M) rfl ?_
    rw [hm]
    refine yOk.if1 .ne _ _ _ _ rfl (fun q3 => ?_) (fun q3 => ?_)
    · have h0 : ¬ dom = 0 := fun h => zne_t q3 (hd0.mpr h)
      have K2 : ∀ w : Nat, w = (if dom = 2 then 4 else 1) → yOk 111 83 [(3, .int v), (0, .ref 93), (1, .int (nI a)), (2, .int (nI b))] [.long (zNl w), .ref 93] M none (zupL (zupL M 93 2 (zfu (zmu dom a b) (zmd dom a b))) 93 3 (zfd (zmu dom a b) (zmd dom a b))) := by
        intro w hw
        have e1 : zmu dom a b = zNl (w * zfact a * zfact b) := by unfold zmu; rw [if_neg hev, if_neg h0, hw]
        have e2 : zmd dom a b = zNl (zfact (a + b + 2)) := by unfold zmd; rw [if_neg hev, if_neg h0]
        rw [e1, e2]
        rw [e1] at hu
        rw [e2] at hp
        refine yOk.adv 1 (pc' := 84) (lv' := [(3, .int v), (0, .ref 93), (1, .int (nI a)), (2, .int (nI b))]) (st' := [.int (nI a), .long (zNl w), .ref 93]) (M' := M) rfl ?_
        refine yOk.call (M1 := M) _ rfl rfl rfl rfl rfl (r_fact M a (by omega)) ?_
        show yOk 111 87 [(3, .int v), (0, .ref 93), (1, .int (nI a)), (2, .int (nI b))] [.long (zNl (zfact a)), .long (zNl w), .ref 93] M _ _
        refine yOk.adv 1 (pc' := 88) (lv' := [(3, .int v), (0, .ref 93), (1, .int (nI a)), (2, .int (nI b))]) (st' := [.long ((zNl w) * (zNl (zfact a))), .ref 93]) (M' := M) rfl ?_
        rw [zNl_mul]
        refine yOk.adv 1 (pc' := 89) (lv' := [(3, .int v), (0, .ref 93), (1, .int (nI a)), (2, .int (nI b))]) (st' := [.int (nI b), .long (zNl (w * zfact a)), .ref 93]) (M' := M) rfl ?_
        refine yOk.call (M1 := M) _ rfl rfl rfl rfl rfl (r_fact M b (by omega)) ?_
        show yOk 111 92 [(3, .int v), (0, .ref 93), (1, .int (nI a)), (2, .int (nI b))] [.long (zNl (zfact b)), .long (zNl (w * zfact a)), .ref 93] M _ _
        refine yOk.adv 1 (pc' := 93) (lv' := [(3, .int v), (0, .ref 93), (1, .int (nI a)), (2, .int (nI b))]) (st' := [.long ((zNl (w * zfact a)) * (zNl (zfact b))), .ref 93]) (M' := M) rfl ?_
        rw [zNl_mul]
        refine yOk.adv 5 (pc' := 98) (lv' := [(3, .int v), (0, .ref 93), (1, .int (nI a)), (2, .int (nI b))]) (st' := [.int (((nI a) + (nI b)) + 2), .long (zNl (w * zfact a * zfact b)), .ref 93]) (M' := M) rfl ?_
        rw [show nI a + nI b + 2 = nI (a + b + 2) by rw [nI_add]; exact nI_add (a + b) 2]
        refine yOk.call (M1 := M) _ rfl rfl rfl rfl rfl (r_fact M (a + b + 2) (by omega)) ?_
        show yOk 111 101 [(3, .int v), (0, .ref 93), (1, .int (nI a)), (2, .int (nI b))] [.long (zNl (zfact (a + b + 2))), .long (zNl (w * zfact a * zfact b)), .ref 93] M _ _
        refine yOk.call (M1 := zupL (zupL M 93 2 (zfu (zNl (w * zfact a * zfact b)) (zNl (zfact (a + b + 2))))) 93 3 (zfd (zNl (w * zfact a * zfact b)) (zNl (zfact (a + b + 2))))) _ rfl rfl rfl rfl rfl (r_fraction M (zNl (w * zfact a * zfact b)) (zNl (zfact (a + b + 2))) hu hp) ?_
        show yOk 111 104 [(3, .int v), (0, .ref 93), (1, .int (nI a)), (2, .int (nI b))] [] (zupL (zupL M 93 2 (zfu (zNl (w * zfact a * zfact b)) (zNl (zfact (a + b + 2))))) 93 3 (zfd (zNl (w * zfact a * zfact b)) (zNl (zfact (a + b + 2))))) _ _
        exact yOk.ret _ rfl rfl rfl
      refine yOk.adv 4 (pc' := 73) (lv' := [(3, .int v), (0, .ref 93), (1, .int (nI a)), (2, .int (nI b))]) (st' := [.int 2, .int (M.1 93 4), .ref 93]) (M' := M) rfl ?_
      rw [hm]
      refine yOk.if2 .ne _ _ _ _ rfl (fun q4 => ?_) (fun q4 => ?_)
      · refine yOk.adv 1 (pc' := 83) (lv' := [(3, .int v), (0, .ref 93), (1, .int (nI a)), (2, .int (nI b))]) (st' := [.long 1, .ref 93]) (M' := M) rfl ?_
        exact K2 1 (by rw [if_neg (fun h => zne_t q4 (hd2.mpr h))])
      · refine yOk.adv 2 (pc' := 83) (lv' := [(3, .int v), (0, .ref 93), (1, .int (nI a)), (2, .int (nI b))]) (st' := [.long 4, .ref 93]) (M' := M) rfl ?_
        exact K2 4 (by rw [if_pos (hd2.mp (zne_f q4))])
    · have h0 : dom = 0 := hd0.mp (zne_f q3)
      have e1 : zmu dom a b = 4 := by unfold zmu; rw [if_neg hev, if_pos h0]
      have e2 : zmd dom a b = zNl ((a + 1) * (b + 1)) := by unfold zmd; rw [if_neg hev, if_pos h0]
      rw [e1, e2]
      rw [e1] at hu
      rw [e2] at hp
      refine yOk.adv 11 (pc' := 61) (lv' := [(3, .int v), (0, .ref 93), (1, .int (nI a)), (2, .int (nI b))]) (st' := [.long ((((nI a).toInt64) + 1) * (((nI b).toInt64) + 1)), .long 4, .ref 93]) (M' := M) rfl ?_
      rw [zbxr a ha b hb]
      refine yOk.call (M1 := zupL (zupL M 93 2 (zfu 4 (zNl ((a + 1) * (b + 1))))) 93 3 (zfd 4 (zNl ((a + 1) * (b + 1))))) _ rfl rfl rfl rfl rfl (r_fraction M 4 (zNl ((a + 1) * (b + 1))) hu hp) ?_
      show yOk 111 64 [(3, .int v), (0, .ref 93), (1, .int (nI a)), (2, .int (nI b))] [] (zupL (zupL M 93 2 (zfu 4 (zNl ((a + 1) * (b + 1))))) 93 3 (zfd 4 (zNl ((a + 1) * (b + 1))))) _ _
      refine yOk.adv 1 (pc' := 104) (lv' := [(3, .int v), (0, .ref 93), (1, .int (nI a)), (2, .int (nI b))]) (st' := []) (M' := zupL (zupL M 93 2 (zfu 4 (zNl ((a + 1) * (b + 1))))) 93 3 (zfd 4 (zNl ((a + 1) * (b + 1))))) rfl ?_
      exact yOk.ret _ rfl rfl rfl
  have K : ∀ v : Int32, (v = 0 ∧ ¬ (a % 2 = 1 ∨ b % 2 = 1) ∨ v = 1 ∧ (a % 2 = 1 ∨ b % 2 = 1)) → yOk 111 19 [(0, .ref 93), (1, .int (nI a)), (2, .int (nI b))] [.int v] M none (zupL (zupL M 93 2 (zfu (zmu dom a b) (zmd dom a b))) 93 3 (zfd (zmu dom a b) (zmd dom a b))) := by
    intro v hv
    refine yOk.adv 4 (pc' := 25) (lv' := [(3, .int v), (0, .ref 93), (1, .int (nI a)), (2, .int (nI b))]) (st' := [.int 1, .int (M.1 93 4)]) (M' := M) rfl ?_
    rw [hm]
    refine yOk.if2 .eq _ _ _ _ rfl (fun q => ?_) (fun q => ?_)
    · exact KB v (fun h => h.1 (hdn.mp (zeq_t q)))
    · refine yOk.adv 1 (pc' := 29) (lv' := [(3, .int v), (0, .ref 93), (1, .int (nI a)), (2, .int (nI b))]) (st' := [.int v]) (M' := M) rfl ?_
      refine yOk.if1 .eq _ _ _ _ rfl (fun q2 => ?_) (fun q2 => ?_)
      · refine KB v (fun h => ?_)
        rcases hv with ⟨-, h1⟩ | ⟨h0, -⟩
        · exact h1 h.2
        · rw [h0] at q2; cases q2
      · have hodd : dom ≠ 1 ∧ (a % 2 = 1 ∨ b % 2 = 1) := by
          refine ⟨fun h => zeq_f q (hdn.mpr h), ?_⟩
          rcases hv with ⟨h0, -⟩ | ⟨-, h1⟩
          · rw [h0] at q2; cases q2
          · exact h1
        have e1 : zmu dom a b = 0 := by unfold zmu; rw [if_pos hodd]
        have e2 : zmd dom a b = 1 := by unfold zmd; rw [if_pos hodd]
        rw [e1, e2]
        rw [e1] at hu
        rw [e2] at hp
        refine yOk.adv 3 (pc' := 35) (lv' := [(3, .int v), (0, .ref 93), (1, .int (nI a)), (2, .int (nI b))]) (st' := [.long 1, .long 0, .ref 93]) (M' := M) rfl ?_
        refine yOk.call (M1 := zupL (zupL M 93 2 (zfu 0 1)) 93 3 (zfd 0 1)) _ rfl rfl rfl rfl rfl (r_fraction M 0 1 hu hp) ?_
        show yOk 111 38 [(3, .int v), (0, .ref 93), (1, .int (nI a)), (2, .int (nI b))] [] (zupL (zupL M 93 2 (zfu 0 1)) 93 3 (zfd 0 1)) _ _
        refine yOk.adv 1 (pc' := 104) (lv' := [(3, .int v), (0, .ref 93), (1, .int (nI a)), (2, .int (nI b))]) (st' := []) (M' := zupL (zupL M 93 2 (zfu 0 1)) 93 3 (zfd 0 1)) rfl ?_
        exact yOk.ret _ rfl rfl rfl
  have two : ¬ (2 : Int32) = 0 := by decide
  refine yOk.adv 2 (pc' := 2) (lv' := [(0, .ref 93), (1, .int (nI a)), (2, .int (nI b))]) (st' := [.int 2, .int (nI a)]) (M' := M) rfl ?_
  refine yOk.irem _ _ _ rfl (two) ?_
  refine yOk.adv 1 (pc' := 4) (lv' := [(0, .ref 93), (1, .int (nI a)), (2, .int (nI b))]) (st' := [.int 1, .int ((nI a) - (nI a) / 2 * 2)]) (M' := M) rfl ?_
  refine yOk.if2 .eq _ _ _ _ rfl (fun q => ?_) (fun q => ?_)
  · refine yOk.adv 2 (pc' := 19) (lv' := [(0, .ref 93), (1, .int (nI a)), (2, .int (nI b))]) (st' := [.int 1]) (M' := M) rfl ?_
    exact K 1 (Or.inr ⟨rfl, Or.inl (by rw [zodd3 a ha] at q; exact of_decide_eq_true q)⟩)
  · have hea : ¬ a % 2 = 1 := by rw [zodd3 a ha] at q; exact of_decide_eq_false q
    refine yOk.adv 2 (pc' := 9) (lv' := [(0, .ref 93), (1, .int (nI a)), (2, .int (nI b))]) (st' := [.int 2, .int (nI b)]) (M' := M) rfl ?_
    refine yOk.irem _ _ _ rfl (two) ?_
    refine yOk.adv 1 (pc' := 11) (lv' := [(0, .ref 93), (1, .int (nI a)), (2, .int (nI b))]) (st' := [.int 1, .int ((nI b) - (nI b) / 2 * 2)]) (M' := M) rfl ?_
    refine yOk.if2 .ne _ _ _ _ rfl (fun q2 => ?_) (fun q2 => ?_)
    · have heb : ¬ b % 2 = 1 := by rw [zodd4 b hb] at q2; exact of_decide_eq_true q2
      refine yOk.adv 1 (pc' := 19) (lv' := [(0, .ref 93), (1, .int (nI a)), (2, .int (nI b))]) (st' := [.int 0]) (M' := M) rfl ?_
      exact K 0 (Or.inl ⟨rfl, fun h => h.elim hea heb⟩)
    · refine yOk.adv 2 (pc' := 19) (lv' := [(0, .ref 93), (1, .int (nI a)), (2, .int (nI b))]) (st' := [.int 1]) (M' := M) rfl ?_
      exact K 1 (Or.inr ⟨rfl, Or.inr (by rw [zodd4 b hb] at q2; exact Classical.byContradiction fun h => of_decide_eq_false q2 h)⟩)
