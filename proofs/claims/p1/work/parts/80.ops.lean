/-! ===== each call on fresh numbers: both answer alike ===== -/
def zopI (kc kr : Nat) (args : List Value) : Prop := ∃ (v : Int32) (M1 M2 : zMm), yOk kc 0 (lv_args 0 (.ref 0 :: args)) [] zM0 (some (.int v)) M1 ∧ yOk kr 0 (lv_args 0 (.ref 93 :: args)) [] M1 (some (.int v)) M2
def zopL (kc kr : Nat) (args : List Value) : Prop := ∃ (v : Int64) (M1 M2 : zMm), yOk kc 0 (lv_args 0 (.ref 0 :: args)) [] zM0 (some (.long v)) M1 ∧ yOk kr 0 (lv_args 0 (.ref 93 :: args)) [] M1 (some (.long v)) M2
theorem zlow {A : List Nat} {B : List (Nat × Nat)} {M N : zMm} (e : zKp A B M N) (h : (A.all (fun a => decide (a < 93)) && B.all (fun p => decide (p.1 < 93))) = true) : ∀ a i, 93 ≤ a → N.1 a i = M.1 a i := fun a i ha => by
  obtain ⟨h1, h2⟩ := Bool.and_eq_true_iff.mp h
  refine (e a i (fun z => ?_) (fun z => ?_)).1
  · have := of_decide_eq_true (List.all_eq_true.mp h1 a z)
    omega
  · have := of_decide_eq_true (List.all_eq_true.mp h2 (a, i) z)
    simp only at this
    omega
theorem zm0 : zRm 0 1 1 zM0 [] := ⟨⟨rfl, by decide, fun p e h => by simp at h⟩, fun e he => (by simp at he), rfl, rfl, rfl, by decide, by decide, by decide⟩
theorem zr0 {N : zMm} (h : ∀ a i, 93 ≤ a → N.1 a i = zM0.1 a i) : zRr 0 1 1 N [] := ⟨⟨by rw [h 93 7 (by omega)]; rfl, by decide, fun p e h => by simp at h⟩, fun e he => (by simp at he), by rw [h 93 4 (by omega)]; rfl, by rw [h 93 5 (by omega)]; rfl, by rw [h 93 6 (by omega)]; rfl, by decide, by decide, by decide⟩
theorem zop0 (d q w : Int32) : zopI 38 110 [.int d, .int q, .int w] := by
  by_cases h : zbeg d q w
  · exact ⟨1, _, _, m_begin zM0 _ d q w 1 (Or.inl ⟨h, rfl, rfl⟩), r_begin _ _ d q w 1 (Or.inl ⟨h, rfl, rfl⟩)⟩
  · exact ⟨-2, _, _, m_begin zM0 _ d q w (-2) (Or.inr ⟨h, rfl, rfl⟩), r_begin _ _ d q w (-2) (Or.inr ⟨h, rfl, rfl⟩)⟩
theorem zop1 (a b w : Int32) : zopL 39 115 [.int a, .int b, .int w] := by
  by_cases h : zpok a b ∧ (w = 0 ∨ w = 1)
  · obtain ⟨a', b', rfl, rfl, ha, hb, hab⟩ := zpok_nat h.1
    exact ⟨_, _, _, m_momentP zM0 0 a' b' rfl (by decide) ha hb hab h.1 w h.2, r_momentP _ 0 a' b' rfl (by decide) ha hb hab h.1 w h.2⟩
  · exact ⟨zlost, _, _, m_moment_no zM0 a b w h, r_momentP_no _ a b w h⟩
theorem zbad0 {X Y W X' Y' W' : Nat → Int32} {x y w : Int32} (h : zbad X Y W 0 x y w) : zbad X' Y' W' 0 x y w := by
  rcases h with h | ⟨p, h1, _⟩
  · exact Or.inl h
  · cases h1
theorem zop2 (x y w : Int32) : zopI 40 126 [.int x, .int y, .int w] := by
  by_cases h : zbad (zM0.1 2) (zM0.1 3) (zM0.1 4) 0 x y w
  · exact ⟨-2, _, _, m_place_bad zM0 0 rfl (by decide) (fun p hp => absurd hp (by omega)) x y w h, r_place_no zM0 0 rfl (by decide) (fun p hp => absurd hp (by omega)) x y w (-2) (by decide) (Or.inl ⟨zbad0 h, rfl⟩)⟩
  · exact ⟨nI 0, _, _, m_place zM0 0 rfl (by decide) (fun p hp => absurd hp (by omega)) x y w h (Or.inl (by decide)), r_place (zlayM 1 3 2 3 4 zM0 0 x y w) 0 rfl (by decide) (fun p hp => absurd hp (by omega)) x y w (fun z => h (zbad0 z)) (Or.inl (by decide))⟩
theorem zop3 (x y w : Int32) : zopI 41 127 [.int x, .int y, .int w] := by
  obtain ⟨r1, M1, y1, h1⟩ := m_orbit zM0 0 1 1 [] zm0 x y w
  have lo : ∀ a i, 93 ≤ a → M1.1 a i = zM0.1 a i := by
    rcases h1 with ⟨_, _, e⟩ | ⟨_, _, _, e⟩ | ⟨_, _, _, _, e⟩ | ⟨_, _, _, _, e⟩
    · rw [e]; exact fun _ _ _ => rfl
    · exact zlow e (by decide)
    · exact zlow e (by decide)
    · exact zlow e (by decide)
  obtain ⟨r2, M2, y2, h2⟩ := r_orbit M1 0 1 1 [] (zr0 lo) x y w
  rcases h1 with ⟨a, e, _⟩ | ⟨a, b, e, _⟩ | ⟨a, b, c, e, _⟩ | ⟨a, b, e, _⟩ <;> rcases h2 with ⟨a', e', _⟩ | ⟨a', b', e', _⟩ | ⟨a', b', c', e', _⟩ | ⟨a', b', e', _⟩
  all_goals first
    | (subst e e'; exact ⟨_, M1, M2, y1, y2⟩)
    | exact absurd a' a
    | exact absurd a a'
    | exact absurd b b'
    | exact absurd b' b
    | exact absurd b b'.1
    | exact absurd b' b.1
    | exact absurd c b'.2
    | exact absurd c' b.2
theorem zcases4 (s : Int32) (h : 0 ≤ s.toInt ∧ s.toInt ≤ 3) : s = 0 ∨ s = 1 ∨ s = 2 ∨ s = 3 := by
  have e : ∀ n : Int, s.toInt = n → s = iI n := fun n hn => by rw [← hn, iI_of]
  have hc : s.toInt = 0 ∨ s.toInt = 1 ∨ s.toInt = 2 ∨ s.toInt = 3 := by omega
  rcases hc with z | z | z | z
  · exact Or.inl (e 0 z)
  · exact Or.inr (Or.inl (e 1 z))
  · exact Or.inr (Or.inr (Or.inl (e 2 z)))
  · exact Or.inr (Or.inr (Or.inr (e 3 z)))
theorem zcases6 (s : Int32) (h : 0 ≤ s.toInt ∧ s.toInt ≤ 5) : s = 0 ∨ s = 1 ∨ s = 2 ∨ s = 3 ∨ s = 4 ∨ s = 5 := by
  have e : ∀ n : Int, s.toInt = n → s = iI n := fun n hn => by rw [← hn, iI_of]
  have hc : s.toInt = 0 ∨ s.toInt = 1 ∨ s.toInt = 2 ∨ s.toInt = 3 ∨ s.toInt = 4 ∨ s.toInt = 5 := by omega
  rcases hc with z | z | z | z | z | z
  · exact Or.inl (e 0 z)
  · exact Or.inr (Or.inl (e 1 z))
  · exact Or.inr (Or.inr (Or.inl (e 2 z)))
  · exact Or.inr (Or.inr (Or.inr (Or.inl (e 3 z))))
  · exact Or.inr (Or.inr (Or.inr (Or.inr (Or.inl (e 4 z)))))
  · exact Or.inr (Or.inr (Or.inr (Or.inr (Or.inr (e 5 z)))))
theorem zop4 (s l i n : Int32) : zopI 42 128 [.int s, .int l, .int i, .int n] := by
  by_cases h1 : 0 ≤ s.toInt ∧ s.toInt ≤ 3
  · by_cases h2 : 0 ≤ l.toInt ∧ l.toInt ≤ 2
    · rcases zcases4 s h1 with rfl | rfl | rfl | rfl
      · exact ⟨-11, _, _, m_places_null_0 zM0 rfl l i n h2, r_places_null _ 0 (by decide) rfl l i n h2⟩
      · exact ⟨-11, _, _, m_places_null_1 zM0 rfl l i n h2, r_places_null _ 1 (by decide) rfl l i n h2⟩
      · exact ⟨-11, _, _, m_places_null_2 zM0 rfl l i n h2, r_places_null _ 2 (by decide) rfl l i n h2⟩
      · exact ⟨-11, _, _, m_places_null_3 zM0 rfl l i n h2, r_places_null _ 3 (by decide) rfl l i n h2⟩
    · exact ⟨-2, _, _, m_places_no zM0 s l i n (-2) (Or.inr ⟨h1, h2, rfl⟩), r_places_no _ s l i n (-2) (Or.inr ⟨h1, h2, rfl⟩)⟩
  · exact ⟨-1, _, _, m_places_no zM0 s l i n (-1) (Or.inl ⟨h1, rfl⟩), r_places_no _ s l i n (-1) (Or.inl ⟨h1, rfl⟩)⟩
theorem zno (p : Int32) : ¬ (0 ≤ p.toInt ∧ p.toInt < (0 : Nat)) := fun h => by omega
theorem zop5 (p : Int32) : zopI 43 129 [.int p] := ⟨-1, _, _, m_drop_no zM0 0 rfl (by decide) p (zno p), r_drop_no _ 0 rfl (by decide) p (zno p)⟩
theorem zop6 (p x : Int32) : zopI 44 132 [.int p, .int x] := ⟨-1, _, _, m_about_no zM0 0 rfl (by decide) p x (zno p), r_about_no _ 0 rfl (by decide) p x (zno p)⟩
theorem zop7 (a b w : Int32) : zopL 45 116 [.int a, .int b, .int w] := by
  by_cases h : zpok a b ∧ (w = 0 ∨ w = 1)
  · obtain ⟨a', b', rfl, rfl, ha, hb, hab⟩ := zpok_nat h.1
    obtain ⟨d1, d2, d3⟩ := zD_ok (W := 1) (q := 1) (by decide) (by decide) (a' + b') (by omega)
    have hd : 0 < ((iI 1).toInt64 * zpw (iI 1).toInt64 (a' + b')).toInt := by rw [d1]; exact d2
    exact ⟨_, _, _, m_sumP zM0 0 a' b' rfl (by decide) ha hb h.1 (by show (0 : Int64).toInt ≠ _; decide) hd w h.2, r_sumP (zansM zM0 0 ((iI 1).toInt64 * zpw (iI 1).toInt64 (a' + b'))) 0 a' b' rfl (by decide) ha hb h.1 (by show (0 : Int64).toInt ≠ _; decide) hd w h.2⟩
  · exact ⟨zlost, _, _, m_sum_no zM0 a b w h, r_sum_no _ a b w h⟩
theorem zop8 (a b w : Int32) : zopL 46 117 [.int a, .int b, .int w] := by
  by_cases h : zpok a b ∧ (w = 0 ∨ w = 1)
  · obtain ⟨a', b', rfl, rfl, ha, hb, hab⟩ := zpok_nat h.1
    obtain ⟨d1, d2, d3⟩ := zD_ok (W := 1) (q := 1) (by decide) (by decide) (a' + b') (by omega)
    have hd : 0 < ((iI 1).toInt64 * zpw (iI 1).toInt64 (a' + b')).toInt ∧ ((iI 1).toInt64 * zpw (iI 1).toInt64 (a' + b')).toInt ≤ 2 ^ 35 := by rw [d1]; exact ⟨d2, d3⟩
    have hmp := zmd_pos (dom := 0) a' ha b' hb hab
    have hmb := zmd_b (dom := 0) a' ha b' hb hab
    have hub := zmu_b (dom := 0) a' ha b' hb hab
    have l1 := zfu_le (u := 0) hd.1
    have l2 := zfd_le (u := 0) hd.1
    have l3 := zfu_le (u := zmu 0 a' b') hmp
    have l4 := zfd_le (u := zmu 0 a' b') hmp
    have h00 : (0 : Int64).toInt.natAbs = 0 := rfl
    have hs := zerr_same (A := zfu 0 ((iI 1).toInt64 * zpw (iI 1).toInt64 (a' + b'))) (B := zfd 0 ((iI 1).toInt64 * zpw (iI 1).toInt64 (a' + b'))) (m := zfu (zmu 0 a' b') (zmd 0 a' b')) (e := zfd (zmu 0 a' b') (zmd 0 a' b')) (by omega) ⟨l2.1, by omega⟩ (by omega) ⟨l4.1, by omega⟩
    generalize hD : (iI 1).toInt64 * zpw (iI 1).toInt64 (a' + b') = D at *
    obtain ⟨M1, y1, hM1⟩ : ∃ M1 : zMm, yOk 46 0 [(0, .ref 0), (1, .int (nI a')), (2, .int (nI b')), (3, .int w)] [] zM0 (some (.long (if w = 0 then zfu (zU (zfu 0 D) (zfd 0 D) (zfu (zmu 0 a' b') (zmd 0 a' b')) (zfd (zmu 0 a' b') (zmd 0 a' b'))) (zV (zfd 0 D) (zfd (zmu 0 a' b') (zmd 0 a' b'))) else zfd (zU (zfu 0 D) (zfd 0 D) (zfu (zmu 0 a' b') (zmd 0 a' b')) (zfd (zmu 0 a' b') (zmd 0 a' b'))) (zV (zfd 0 D) (zfd (zmu 0 a' b') (zmd 0 a' b')))))) M1 ∧ M1.1 = zM0.1 := ⟨_, m_errorP zM0 0 0 a' b' rfl (by decide) rfl (by decide) ha hb hab h.1 0 D rfl hD (by decide) hd w h.2, rfl⟩
    have y2 := r_errorP M1 0 0 a' b' (by rw [hM1]; rfl) (by decide) (by rw [hM1]; rfl) (by decide) ha hb hab h.1 0 D rfl (by rw [hM1]; exact hD) (by decide) hd w h.2
    rw [show zfu (zU (zfu 0 D) (zfd 0 D) (zfu (zmu 0 a' b') (zmd 0 a' b')) (zfd (zmu 0 a' b') (zmd 0 a' b'))) (zV (zfd 0 D) (zfd (zmu 0 a' b') (zmd 0 a' b'))) = zfu (zUr (zfu 0 D) (zfd 0 D) (zfu (zmu 0 a' b') (zmd 0 a' b')) (zfd (zmu 0 a' b') (zmd 0 a' b'))) (zVr (zfd 0 D) (zfd (zmu 0 a' b') (zmd 0 a' b'))) from hs.1, show zfd (zU (zfu 0 D) (zfd 0 D) (zfu (zmu 0 a' b') (zmd 0 a' b')) (zfd (zmu 0 a' b') (zmd 0 a' b'))) (zV (zfd 0 D) (zfd (zmu 0 a' b') (zmd 0 a' b'))) = zfd (zUr (zfu 0 D) (zfd 0 D) (zfu (zmu 0 a' b') (zmd 0 a' b')) (zfd (zmu 0 a' b') (zmd 0 a' b'))) (zVr (zfd 0 D) (zfd (zmu 0 a' b') (zmd 0 a' b'))) from hs.2] at y1
    exact ⟨_, _, _, y1, y2⟩
  · exact ⟨zlost, _, _, m_error_no zM0 a b w h, r_error_no _ a b w h⟩
theorem zop9 : zopI 47 134 [] := by
  obtain ⟨r, hr⟩ : ∃ r, zdegV (fun t => zE0 0 1 1 [] (zpxN t) (zpyN t)) r := by
    rcases zFW_ex (fun t => zE0 0 1 1 [] (zpxN t) (zpyN t)) 28 with ⟨t, t1, t2, t3⟩ | h
    · exact ⟨_, Or.inl ⟨t, t1, t2, t3, rfl⟩⟩
    · exact ⟨_, Or.inr ⟨h, rfl⟩⟩
  obtain ⟨r1, M1, y1, rfl, e1⟩ := m_degree zM0 0 1 1 [] zm0 r hr
  obtain ⟨r2, M2, y2, rfl, e2⟩ := r_degree M1 0 1 1 [] (zr0 (zlow e1 (by decide))) r hr
  exact ⟨r, M1, M2, y1, y2⟩
theorem zop10 (w : Int32) : zopI 48 135 [.int w] := by
  by_cases hw : 0 ≤ w.toInt ∧ w.toInt ≤ 1
  · obtain ⟨r, hr⟩ : ∃ r, zfstV (fun t => zE0 0 1 1 [] (zpxN t) (zpyN t)) w r := by
      rcases zFW_ex (fun t => zE0 0 1 1 [] (zpxN t) (zpyN t)) 28 with ⟨t, t1, t2, t3⟩ | h
      · exact ⟨_, Or.inl ⟨t, t1, t2, t3, rfl⟩⟩
      · exact ⟨_, Or.inr ⟨h, rfl⟩⟩
    obtain ⟨r1, M1, y1, rfl, e1⟩ := m_first zM0 0 1 1 [] zm0 w hw r hr
    obtain ⟨r2, M2, y2, rfl, e2⟩ := r_first M1 0 1 1 [] (zr0 (zlow e1 (by decide))) w hw r hr
    exact ⟨r, M1, M2, y1, y2⟩
  · exact ⟨-2, _, _, m_first_no zM0 w hw, r_first_no _ w hw⟩
theorem zop11 (x : Int32) : zopI 49 137 [.int x] := by
  by_cases h : x.toInt < 0 ∨ 2 < x.toInt
  · exact ⟨-2, _, _, m_is_0 zM0 rfl x (-2) (Or.inr ⟨h, rfl⟩), r_is_0 _ rfl x (-2) (Or.inr ⟨h, rfl⟩)⟩
  · exact ⟨1, _, _, m_is_0 zM0 rfl x 1 (Or.inl ⟨by omega, by omega, rfl⟩), r_is_0 _ rfl x 1 (Or.inl ⟨by omega, by omega, rfl⟩)⟩
theorem zop12 (d : Int32) : zopI 50 138 [.int d] := by
  by_cases h : 0 ≤ d.toInt ∧ d.toInt ≤ 6
  · exact ⟨zleast d, _, _, m_least zM0 d _ (Or.inl ⟨h, rfl⟩), r_least _ d _ (Or.inl ⟨h, rfl⟩)⟩
  · exact ⟨-2, _, _, m_least zM0 d _ (Or.inr ⟨h, rfl⟩), r_least _ d _ (Or.inr ⟨h, rfl⟩)⟩
theorem zop13 (k : Int32) : zopI 51 139 [.int k] := by
  by_cases h : 0 ≤ k.toInt ∧ k.toInt ≤ 5
  · rcases zcases6 k h with rfl | rfl | rfl | rfl | rfl | rfl
    · exact ⟨nI 0, _, _, m_keep_0 zM0 0 rfl (by decide), r_keep_0 _ 0 rfl (by decide)⟩
    · exact ⟨nI 0, _, _, m_keep_1 zM0 0 rfl (by decide), r_keep_1 _ 0 rfl (by decide)⟩
    · exact ⟨nI 0, _, _, m_keep_2 zM0 0 rfl (by decide), r_keep_2 _ 0 rfl (by decide)⟩
    · exact ⟨nI 0, _, _, m_keep_3 zM0 0 rfl (by decide), r_keep_3 _ 0 rfl (by decide)⟩
    · exact ⟨nI 0, _, _, m_keep_4 zM0 0 rfl (by decide), r_keep_4 _ 0 rfl (by decide)⟩
    · exact ⟨nI 0, _, _, m_keep_5 zM0 0 rfl (by decide), r_keep_5 _ 0 rfl (by decide)⟩
  · exact ⟨-1, _, _, m_keep_no zM0 k h, r_keep_no _ k h⟩
theorem zop14 (k : Int32) : zopI 52 140 [.int k] := by
  by_cases h : 0 ≤ k.toInt ∧ k.toInt ≤ 5
  · rcases zcases6 k h with rfl | rfl | rfl | rfl | rfl | rfl
    · exact ⟨-1, _, _, m_load_0_no zM0 rfl, r_load_0_no _ rfl⟩
    · exact ⟨-1, _, _, m_load_1_no zM0 rfl, r_load_1_no _ rfl⟩
    · exact ⟨-1, _, _, m_load_2_no zM0 rfl, r_load_2_no _ rfl⟩
    · exact ⟨-1, _, _, m_load_3_no zM0 rfl, r_load_3_no _ rfl⟩
    · exact ⟨-1, _, _, m_load_4_no zM0 rfl, r_load_4_no _ rfl⟩
    · exact ⟨-1, _, _, m_load_5_no zM0 rfl, r_load_5_no _ rfl⟩
  · exact ⟨-1, _, _, m_load_no zM0 k h, r_load_no _ k h⟩
theorem zop15 (d q : Int32) : zopI 53 147 [.int d, .int q] := by
  by_cases h : (1 ≤ d.toInt ∧ d.toInt ≤ 5) ∧ (1 ≤ q.toInt ∧ q.toInt ≤ 6)
  · obtain ⟨dg, hdg⟩ : ∃ dg : Nat, d.toInt = dg := ⟨d.toInt.toNat, by omega⟩
    obtain ⟨qq, hqq⟩ : ∃ qq : Nat, q.toInt = qq := ⟨q.toInt.toNat, by omega⟩
    have ed : d = nI dg := by rw [nI_iI, ← hdg, iI_of]
    have eq : q = iI (qq : Int) := by rw [← hqq, iI_of]
    rw [ed, eq]
    obtain ⟨r1, M1, y1, h1⟩ := m_pair zM0 0 (by decide) qq (by omega) dg (by omega) rfl _ rfl
    have lo : ∀ a i, 93 ≤ a → M1.1 a i = zM0.1 a i := by
      rcases h1 with ⟨_, _, _, _, _, _, _, e⟩ | ⟨_, _, e⟩
      · exact zlow e (by decide)
      · exact zlow e (by decide)
    obtain ⟨r2, M2, y2, h2⟩ := r_pair M1 0 (by decide) qq (by omega) dg (by omega) 1 1 [] (zr0 lo) _ rfl
    rcases h1 with ⟨a, e, _⟩ | ⟨a, e, _⟩ <;> rcases h2 with ⟨a', e', _⟩ | ⟨a', e', _⟩
    · subst e e'; exact ⟨_, M1, M2, y1, y2⟩
    · exact absurd a a'
    · exact absurd a' a
    · subst e e'; exact ⟨_, M1, M2, y1, y2⟩
  · exact ⟨-2, _, _, m_pair_no zM0 d q h, r_pair_no _ d q h⟩
theorem zop16 (t c : Int32) : zopL 54 148 [.int t, .int c] := by
  by_cases h : zterm t c
  · obtain ⟨tn, ht⟩ : ∃ tn : Nat, t.toInt = tn := ⟨t.toInt.toNat, by have := h.1.1; omega⟩
    have et : t = nI tn := by rw [nI_iI, ← ht, iI_of]
    have hlt : tn < 15 := by have := h.1.2; omega
    rw [et]
    exact ⟨0, _, _, m_term zM0 tn hlt c h.2, r_term (zup zM0 56 tn c) tn hlt c h.2⟩
  · exact ⟨zlost, _, _, m_term_no zM0 t c h, r_term_no _ t c h⟩
theorem zop17 (w : Int32) : zopL 55 150 [.int w] := by
  by_cases hw : w = 0 ∨ w = 1
  · obtain ⟨r1, M1, y1, rfl, e1⟩ := m_whole zM0 0 (by decide) rfl (fun _ => 0) (fun _ _ => by decide) (fun _ _ => rfl) w hw
    have lo := zlow e1 (by decide)
    obtain ⟨r2, M2, y2, rfl, e2⟩ := r_whole M1 0 (by decide) (by rw [lo 93 4 (by omega)]; rfl) (fun _ => 0) (fun _ _ => by decide) (fun t _ => by rw [lo 117 t (by omega)]; rfl) w hw
    exact ⟨_, M1, M2, y1, y2⟩
  · exact ⟨zlost, _, _, m_whole_no zM0 w hw, r_whole_no _ w hw⟩
theorem zop18 (k w : Int32) : zopL 56 152 [.int k, .int w] := by
  by_cases h : zbyok 0 k w
  · obtain ⟨kn, hk⟩ : ∃ kn : Nat, k.toInt = kn := ⟨k.toInt.toNat, by have := h.1.1; omega⟩
    have ek : k = nI kn := by rw [nI_iI, ← hk, iI_of]
    have h13 := h.1
    rw [ek] at h ⊢
    obtain ⟨r1, M1, y1, rfl, e1⟩ := m_byRule zM0 0 1 1 [] zm0 (fun _ => 0) (fun _ _ => by decide) (fun _ _ => rfl) kn w h (by omega)
    have lo := zlow e1 (by decide)
    obtain ⟨r2, M2, y2, rfl, e2⟩ := r_byRule M1 0 1 1 [] (zr0 lo) (fun _ => 0) (fun _ _ => by decide) (fun t _ => by rw [lo 117 t (by omega)]; rfl) kn w h (by omega)
    exact ⟨_, M1, M2, y1, y2⟩
  · exact ⟨zlost, _, _, m_byRule_no zM0 0 (by decide) rfl k w h, r_byRule_no _ 0 (by decide) rfl k w h⟩
theorem zop19 (k l n : Int32) : zopI 57 153 [.int k, .int l, .int n] := by
  by_cases h1 : 0 ≤ k.toInt ∧ k.toInt ≤ 3
  · by_cases h2 : (0 ≤ l.toInt ∧ l.toInt ≤ 2) ∧ n.toInt ≤ 72
    · by_cases h3 : n.toInt < 0
      · rcases zcases4 k h1 with rfl | rfl | rfl | rfl
        · exact ⟨-10 - 4, _, _, m_sheet_0 zM0 _ l n _ h2.1 h2.2 (Or.inl ⟨h3, rfl, rfl⟩), r_sheet_0 _ _ l n _ h2.1 h2.2 (Or.inl ⟨h3, rfl, rfl⟩)⟩
        · exact ⟨-10 - 4, _, _, m_sheet_1 zM0 _ l n _ h2.1 h2.2 (Or.inl ⟨h3, rfl, rfl⟩), r_sheet_1 _ _ l n _ h2.1 h2.2 (Or.inl ⟨h3, rfl, rfl⟩)⟩
        · exact ⟨-10 - 4, _, _, m_sheet_2 zM0 _ l n _ h2.1 h2.2 (Or.inl ⟨h3, rfl, rfl⟩), r_sheet_2 _ _ l n _ h2.1 h2.2 (Or.inl ⟨h3, rfl, rfl⟩)⟩
        · exact ⟨-10 - 4, _, _, m_sheet_3 zM0 _ l n _ h2.1 h2.2 (Or.inl ⟨h3, rfl, rfl⟩), r_sheet_3 _ _ l n _ h2.1 h2.2 (Or.inl ⟨h3, rfl, rfl⟩)⟩
      · rcases zcases4 k h1 with rfl | rfl | rfl | rfl
        · exact ⟨1, _, _, m_sheet_0 zM0 _ l n _ h2.1 h2.2 (Or.inr ⟨by omega, rfl, rfl⟩), r_sheet_0 _ _ l n _ h2.1 h2.2 (Or.inr ⟨by omega, rfl, rfl⟩)⟩
        · exact ⟨1, _, _, m_sheet_1 zM0 _ l n _ h2.1 h2.2 (Or.inr ⟨by omega, rfl, rfl⟩), r_sheet_1 _ _ l n _ h2.1 h2.2 (Or.inr ⟨by omega, rfl, rfl⟩)⟩
        · exact ⟨1, _, _, m_sheet_2 zM0 _ l n _ h2.1 h2.2 (Or.inr ⟨by omega, rfl, rfl⟩), r_sheet_2 _ _ l n _ h2.1 h2.2 (Or.inr ⟨by omega, rfl, rfl⟩)⟩
        · exact ⟨1, _, _, m_sheet_3 zM0 _ l n _ h2.1 h2.2 (Or.inr ⟨by omega, rfl, rfl⟩), r_sheet_3 _ _ l n _ h2.1 h2.2 (Or.inr ⟨by omega, rfl, rfl⟩)⟩
    · exact ⟨-2, _, _, m_sheet_no zM0 k l n (-2) (Or.inr ⟨h1, h2, rfl⟩), r_sheet_no _ k l n (-2) (Or.inr ⟨h1, h2, rfl⟩)⟩
  · exact ⟨-1, _, _, m_sheet_no zM0 k l n (-1) (Or.inl ⟨h1, rfl⟩), r_sheet_no _ k l n (-1) (Or.inl ⟨h1, rfl⟩)⟩
theorem zop20 (k : Int32) : zopI 58 154 [.int k] := by
  by_cases h1 : 0 ≤ k.toInt ∧ k.toInt ≤ 3
  · rcases zcases4 k h1 with rfl | rfl | rfl | rfl
    · exact ⟨0, _, _, m_lose_0 zM0 zM0 0 (Or.inl ⟨rfl, rfl, rfl⟩), r_lose_0 _ 0 (Or.inl ⟨rfl, rfl⟩)⟩
    · exact ⟨0, _, _, m_lose_1 zM0 zM0 0 (Or.inl ⟨rfl, rfl, rfl⟩), r_lose_1 _ 0 (Or.inl ⟨rfl, rfl⟩)⟩
    · exact ⟨0, _, _, m_lose_2 zM0 zM0 0 (Or.inl ⟨rfl, rfl, rfl⟩), r_lose_2 _ 0 (Or.inl ⟨rfl, rfl⟩)⟩
    · exact ⟨0, _, _, m_lose_3 zM0 zM0 0 (Or.inl ⟨rfl, rfl, rfl⟩), r_lose_3 _ 0 (Or.inl ⟨rfl, rfl⟩)⟩
  · exact ⟨-1, _, _, m_lose_no zM0 k h1, r_lose_no _ k h1⟩
theorem zop21 (s i n : Int32) : zopI 59 155 [.int s, .int i, .int n] := by
  by_cases h1 : 0 ≤ s.toInt ∧ s.toInt ≤ 3
  · rcases zcases4 s h1 with rfl | rfl | rfl | rfl
    · exact ⟨-11, _, _, m_put_null_0 zM0 rfl i n, r_put_null _ 0 (by decide) rfl i n⟩
    · exact ⟨-11, _, _, m_put_null_1 zM0 rfl i n, r_put_null _ 1 (by decide) rfl i n⟩
    · exact ⟨-11, _, _, m_put_null_2 zM0 rfl i n, r_put_null _ 2 (by decide) rfl i n⟩
    · exact ⟨-11, _, _, m_put_null_3 zM0 rfl i n, r_put_null _ 3 (by decide) rfl i n⟩
  · exact ⟨-1, _, _, m_put_no zM0 s i n h1, r_put_no _ s i n h1⟩
theorem zop22 (s i l : Int32) : zopL 60 156 [.int s, .int i, .int l] := by
  by_cases h : (0 ≤ s.toInt ∧ s.toInt ≤ 3) ∧ (0 ≤ l.toInt ∧ l.toInt ≤ 2)
  · rcases zcases4 s h.1 with rfl | rfl | rfl | rfl
    · exact ⟨zlost, _, _, m_at_null_0 zM0 rfl i l h.2, r_at_null _ 0 (by decide) rfl i l h.2⟩
    · exact ⟨zlost, _, _, m_at_null_1 zM0 rfl i l h.2, r_at_null _ 1 (by decide) rfl i l h.2⟩
    · exact ⟨zlost, _, _, m_at_null_2 zM0 rfl i l h.2, r_at_null _ 2 (by decide) rfl i l h.2⟩
    · exact ⟨zlost, _, _, m_at_null_3 zM0 rfl i l h.2, r_at_null _ 3 (by decide) rfl i l h.2⟩
  · exact ⟨zlost, _, _, m_at_no zM0 s i l h, r_at_no _ s i l h⟩
theorem zop23 (p : Int32) : zopI 61 158 [.int p] := ⟨-1, _, _, m_tell_no zM0 0 rfl (by decide) p (zno p), r_tell_no _ 0 rfl (by decide) p (zno p)⟩
theorem zop24 (p : Int32) : zopI 62 159 [.int p] := ⟨-1, _, _, m_count_no zM0 0 rfl (by decide) p (zno p), r_count_no _ 0 rfl (by decide) p (zno p)⟩
theorem zop25 (p x : Int32) : zopI 63 160 [.int p, .int x] := ⟨-1, _, _, m_as_no zM0 0 rfl (by decide) p x (zno p), r_as_no _ 0 rfl (by decide) p x (zno p)⟩
theorem zop26 : zopI 64 161 [] := ⟨0, _, _, m_trace zM0, r_trace _⟩
theorem zop27 : zopI 65 162 [] := ⟨0, _, _, m_fault zM0, r_fault _⟩
theorem zop28 (x : Int32) : zopI 66 163 [.int x] := by
  have hb : ∀ k, k < 6 → (zM0.1 55 k = 0 ∧ (fun _ : Nat => 0) k = 0) ∨ (zM0.1 55 k ≠ 0 ∧ (fun _ : Nat => 0) k = 1) := fun k _ => Or.inl ⟨rfl, rfl⟩
  have hb' : ∀ k, k < 6 → (zM0.1 103 k = -9 ∧ (fun _ : Nat => 0) k = 0) ∨ (zM0.1 103 k ≠ -9 ∧ (fun _ : Nat => 0) k = 1) := fun k _ => Or.inl ⟨rfl, rfl⟩
  rcases zsw5 x with h | h | h | h | h | h
  · exact ⟨_, _, _, m_told zM0 (fun _ => 0) hb x _ (Or.inl ⟨h, rfl⟩), r_told zM0 (fun _ => 0) hb' x _ (Or.inl ⟨h, rfl⟩)⟩
  · exact ⟨_, _, _, m_told zM0 (fun _ => 0) hb x _ (Or.inr (Or.inl ⟨h, rfl⟩)), r_told zM0 (fun _ => 0) hb' x _ (Or.inr (Or.inl ⟨h, rfl⟩))⟩
  · exact ⟨_, _, _, m_told zM0 (fun _ => 0) hb x _ (Or.inr (Or.inr (Or.inl ⟨h, rfl⟩))), r_told zM0 (fun _ => 0) hb' x _ (Or.inr (Or.inr (Or.inl ⟨h, rfl⟩)))⟩
  · exact ⟨_, _, _, m_told zM0 (fun _ => 0) hb x _ (Or.inr (Or.inr (Or.inr (Or.inl ⟨h, rfl⟩)))), r_told zM0 (fun _ => 0) hb' x _ (Or.inr (Or.inr (Or.inr (Or.inl ⟨h, rfl⟩))))⟩
  · exact ⟨_, _, _, m_told zM0 (fun _ => 0) hb x _ (Or.inr (Or.inr (Or.inr (Or.inr (Or.inl ⟨h, rfl⟩))))), r_told zM0 (fun _ => 0) hb' x _ (Or.inr (Or.inr (Or.inr (Or.inr (Or.inl ⟨h, rfl⟩)))))⟩
  · exact ⟨_, _, _, m_told zM0 (fun _ => 0) hb x _ (Or.inr (Or.inr (Or.inr (Or.inr (Or.inr ⟨h, rfl⟩))))), r_told zM0 (fun _ => 0) hb' x _ (Or.inr (Or.inr (Or.inr (Or.inr (Or.inr ⟨h, rfl⟩)))))⟩
