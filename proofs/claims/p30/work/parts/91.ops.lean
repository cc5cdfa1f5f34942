/-! ===== each call keeps it, and both answer alike ===== -/
theorem zkup {A : List Nat} {B : List (Nat × Nat)} {M N : zMm} (e : zKp A B M N) : zKp A B M N := e
theorem zop0 (M : zMm) (hI : zInv M) (d q' w : Int32) : zopI2 38 110 [.int d, .int q', .int w] M := by
  obtain ⟨dom, q, W, L, hm, hr⟩ := hI.1
  by_cases h : zbeg d q' w
  · have y1 := m_begin M _ d q' w 1 (Or.inl ⟨h, rfl, rfl⟩)
    generalize g1 : zup (zup (zup (zup M 1 0 d) 1 1 q') 1 2 w) 1 3 0 = M1 at y1
    have y2 := r_begin M1 _ d q' w 1 (Or.inl ⟨h, rfl, rfl⟩)
    generalize g2 : zup (zup (zup (zup M1 93 4 d) 93 5 q') 93 6 w) 93 7 0 = M2 at y2
    have e1 : zKp [1] [] M M1 := by rw [← g1]; exact ((((zKp.refl _ _ M).up (by simp)).up (by simp)).up (by simp)).up (by simp)
    have e2 : zKp [] [(93, 4), (93, 5), (93, 6), (93, 7)] M1 M2 := by rw [← g2]; exact ((((zKp.refl _ _ M1).up (by simp)).up (by simp)).up (by simp)).up (by simp)
    obtain ⟨b1, b2, b3⟩ := h
    have hd : d = nI d.toInt.toNat := znat b1.1
    have m1 : zRm d.toInt.toNat q'.toInt w.toInt M1 [] := ⟨⟨by rw [← g1]; simp [zup_i]; rfl, by decide, fun p e hp => by simp at hp⟩, fun e he => (by simp at he), by rw [← g1, ← hd]; simp [zup_i], by rw [← g1, iI_of]; simp [zup_i], by rw [← g1, iI_of]; simp [zup_i], by omega, b2, b3⟩
    have r2 : zRr d.toInt.toNat q'.toInt w.toInt M2 [] := ⟨⟨by rw [← g2]; simp [zup_i]; rfl, by decide, fun p e hp => by simp at hp⟩, fun e he => (by simp at he), by rw [← g2, ← hd]; simp [zup_i], by rw [← g2, iI_of]; simp [zup_i], by rw [← g2, iI_of]; simp [zup_i], by omega, b2, b3⟩
    exact ⟨1, M1, M2, y1, y2, hI.rule e1 e2 m1 r2 (by decide) (by decide) (by decide)⟩
  · exact ⟨-2, M, M, m_begin M _ d q' w (-2) (Or.inr ⟨h, rfl, rfl⟩), r_begin _ _ d q' w (-2) (Or.inr ⟨h, rfl, rfl⟩), hI⟩
theorem zop1 (M : zMm) (hI : zInv M) (a b w : Int32) : zopL2 39 115 [.int a, .int b, .int w] M := by
  obtain ⟨dom, q, W, L, hm, hr⟩ := hI.1
  by_cases h : zpok a b ∧ (w = 0 ∨ w = 1)
  · obtain ⟨a', b', rfl, rfl, ha, hb, hab⟩ := zpok_nat h.1
    have y1 := m_momentP M dom a' b' hm.2.2.1 hm.2.2.2.2.2.1 ha hb hab h.1 w h.2
    have y2 := r_momentP (zansM M (zmu dom a' b') (zmd dom a' b')) dom a' b' hr.2.2.1 hm.2.2.2.2.2.1 ha hb hab h.1 w h.2
    exact ⟨_, _, _, y1, y2, hI.fr (A1 := [52]) (B1 := []) (A2 := []) (B2 := [(93, 2), (93, 3)]) (((zKp.refl _ _ M).upL (by simp)).upL (by simp)) (((zKp.refl _ _ _).upL (by simp)).upL (by simp)) (by decide) (by decide)⟩
  · exact ⟨zlost, _, _, m_moment_no M a b w h, r_momentP_no _ a b w h, hI⟩
theorem zop2 (M : zMm) (hI : zInv M) (x y w : Int32) : zopI2 40 126 [.int x, .int y, .int w] M := by
  obtain ⟨dom, q, W, L, hm, hr⟩ := hI.1
  have hU := hm.1
  have hk := hm.2.1
  have hV := hr.1
  by_cases hb : zbadL L x y w
  · exact ⟨-2, M, M, m_place_bad M L.length hU.1 hU.2.1 (hU.W hk) x y w ((hU.bad x y w).mpr hb), r_place_no M L.length hV.1 hV.2.1 (hV.W hk) x y w (-2) (by decide) (Or.inl ⟨(hV.bad x y w).mpr hb, rfl⟩), hI⟩
  · by_cases hf : lix L (x, y) 0 = none ∧ L.length = 24
    · exact ⟨-4, M, M, m_placeF M L hU hk x y w hb hf.1 hf.2, r_place_no M L.length hV.1 hV.2.1 (hV.W hk) x y w (-4) (by decide) (Or.inr ⟨fun z => hb ((hV.bad x y w).mp z), by rw [hV.fnd]; exact hf, rfl⟩), hI⟩
    · have hroom := zroom hU.2.1 hf
      have l1 := hU.lay (by decide) (by decide) (by decide) (by decide) (by decide) (by decide) x y w hroom
      have y1 := m_place M L.length hU.1 hU.2.1 (hU.W hk) x y w (fun z => hb ((hU.bad x y w).mp z)) (by rw [hU.fnd]; exact hroom)
      rw [hU.layR] at y1
      generalize zlayM 1 3 2 3 4 M L.length x y w = M1 at y1 l1
      have r1 := hr.low l1.2 (by decide)
      have hV1 := r1.1
      have l2 := hV1.lay (by decide) (by decide) (by decide) (by decide) (by decide) (by decide) x y w hroom
      have y2 := r_place M1 L.length hV1.1 hV1.2.1 (hV1.W hk) x y w (fun z => hb ((hV1.bad x y w).mp z)) (by rw [hV1.fnd]; exact hroom)
      rw [hV1.layR] at y2
      generalize zlayM 93 7 94 95 96 M1 L.length x y w = M2 at y2 l2
      have m1 : zRm dom q W M1 (ladd L (x, y) w) := ⟨l1.1, hk.add hb, by rw [(l1.2 1 0 (by decide) (by decide)).1]; exact hm.2.2.1, by rw [(l1.2 1 1 (by decide) (by decide)).1]; exact hm.2.2.2.1, by rw [(l1.2 1 2 (by decide) (by decide)).1]; exact hm.2.2.2.2.1, hm.2.2.2.2.2⟩
      have r2 : zRr dom q W M2 (ladd L (x, y) w) := ⟨l2.1, hk.add hb, by rw [(l2.2 93 4 (by decide) (by decide)).1]; exact r1.2.2.1, by rw [(l2.2 93 5 (by decide) (by decide)).1]; exact r1.2.2.2.1, by rw [(l2.2 93 6 (by decide) (by decide)).1]; exact r1.2.2.2.2.1, hm.2.2.2.2.2⟩
      exact ⟨_, M1, M2, y1, y2, hI.rule l1.2 l2.2 m1 r2 (by decide) (by decide) (by decide)⟩
theorem zop3 (M : zMm) (hI : zInv M) (x y w : Int32) : zopI2 41 127 [.int x, .int y, .int w] M := by
  obtain ⟨dom, q, W, L, hm, hr⟩ := hI.1
  obtain ⟨r1, M1, y1, h1⟩ := m_orbit M dom q W L hm x y w
  have r1' : zRr dom q W M1 L := by
    rcases h1 with ⟨_, _, e⟩ | ⟨_, _, _, e⟩ | ⟨_, _, _, _, e⟩ | ⟨_, _, _, _, e⟩
    · rw [e]; exact hr
    · exact hr.low e (by decide)
    · exact hr.low e (by decide)
    · exact hr.low e (by decide)
  obtain ⟨r2, M2, y2, h2⟩ := r_orbit M1 dom q W L r1' x y w
  rcases h1 with ⟨a, e, f⟩ | ⟨a, b, e, f⟩ | ⟨a, b, c, e, f⟩ | ⟨a, b, e, g, f⟩ <;> rcases h2 with ⟨a', e', f'⟩ | ⟨a', b', e', f'⟩ | ⟨a', b', c', e', f'⟩ | ⟨a', b', e', g', f'⟩
  all_goals first
    | (subst e e'; exact ⟨_, M1, M2, y1, y2, hI.rule f f' g g' (by decide) (by decide) (by decide)⟩)
    | (subst e e'; exact ⟨_, M1, M2, y1, y2, hI.fr f f' (by decide) (by decide)⟩)
    | (subst e e'; exact ⟨_, M1, M2, y1, y2, by rw [f', f]; exact hI⟩)
    | exact absurd a' a
    | exact absurd a a'
    | exact absurd b b'
    | exact absurd b' b
    | exact absurd b b'.1
    | exact absurd b' b.1
    | exact absurd c b'.2
    | exact absurd c' b.2
theorem zplaces2 (M : zMm) (hI : zInv M) (dom : Nat) (q W : Int) (L : zPl) (hm : zRm dom q W M L) (hr : zRr dom q W M L) (s : Nat) (hs : s < 4) (ca cb : Nat) (sv : Int32) (hsv : sv = nI s) (lane len : Nat) (p1 : lane < 3) (p2 : len ≤ 72) (p4 : M.1 99 s = nI lane) (p6 : M.1 100 s = nI len) (cc : Nat → Int32) (hcc : ∀ j, j < 72 → M.1 101 (72 * s + j) = cc j) (l i n : Int32) (h2 : 0 ≤ l.toInt ∧ l.toInt ≤ 2) (A : yR 42 0 [(0, .ref 0), (1, .int sv), (2, .int l), (3, .int i), (4, .int n)] [] M (fun r N => (¬ l = nI lane ∧ r = some (.int (-12)) ∧ zKp [] [(0, 14)] M N) ∨ (l = nI lane ∧ n.toInt < 0 ∧ r = some (.int (-14)) ∧ zKp [] [(0, 14)] M N) ∨ (l = nI lane ∧ 0 < n.toInt ∧ ¬ (0 ≤ i.toInt ∧ i.toInt + 3 * n.toInt ≤ len) ∧ r = some (.int (-13)) ∧ zKp [] [(0, 14)] M N) ∨ (l = nI lane ∧ n.toInt = 0 ∧ r = some (.int (nI L.length)) ∧ zRm dom q W N L ∧ zKp [1, 2, 3, 4, 5, 6, 7, 8] [(0, 14)] M N) ∨ (l = nI lane ∧ 0 < n.toInt ∧ (0 ≤ i.toInt ∧ i.toInt + 3 * n.toInt ≤ len) ∧ ((∃ v, (zpls cc n.toInt.toNat i.toInt.toNat L).1 = some v ∧ r = some (.int v) ∧ zRm dom q W N L) ∨ ((zpls cc n.toInt.toNat i.toInt.toNat L).1 = none ∧ r = some (.int (nI (zpls cc n.toInt.toNat i.toInt.toNat L).2.length)) ∧ zRm dom q W N (zpls cc n.toInt.toNat i.toInt.toNat L).2)) ∧ zKp [1, 2, 3, 4, 5, 6, 7, 8] [(0, 14)] M N))) : zopJ2 42 128 [.int sv, .int l, .int i, .int n] M := by
  subst hsv
  obtain ⟨r1, M1, y1, h1⟩ := A
  have hfr : zKp [1, 2, 3, 4, 5, 6, 7, 8] [(0, 14)] M M1 := by
    rcases h1 with ⟨_, _, e⟩ | ⟨_, _, _, e⟩ | ⟨_, _, _, _, e⟩ | ⟨_, _, _, _, e⟩ | ⟨_, _, _, _, e⟩
    · exact e.sub (by decide)
    · exact e.sub (by decide)
    · exact e.sub (by decide)
    · exact e
    · exact e
  have lo := zlow hfr (by decide)
  obtain ⟨r2, M2, y2, g⟩ := r_places M1 dom q W L (hr.low hfr (by decide)) s hs lane len p1 p2 (by rw [lo 99 s (by omega)]; exact p4) (by rw [lo 100 s (by omega)]; exact p6) cc (fun j hj => by rw [lo 101 _ (by omega)]; exact hcc j hj) l i n h2
  have nf : ∀ N : zMm, zKp [] [(0, 14)] M N → zRm dom q W N L := fun N e => hm.keep (fun a i z1 z2 => (e a i (by simp) (by simp <;> omega)).1)
  rcases h1 with ⟨a1, rfl, e⟩ | ⟨a1, a2, rfl, e⟩ | ⟨a1, a2, a3, rfl, e⟩ | ⟨a1, a2, rfl, m1, e⟩ | ⟨a1, a2, a3, a4, e⟩
  · rcases g with ⟨b1, rfl, f⟩ | ⟨b1, _⟩ | ⟨b1, _⟩ | ⟨b1, _⟩
    · exact ⟨_, _, M1, M2, y1, y2, hI.fr e f (by decide) (by decide)⟩
    · exact absurd b1 a1
    · exact absurd b1 a1
    · exact absurd b1 a1
  · rcases g with ⟨b1, _⟩ | ⟨b1, b2, rfl, f⟩ | ⟨b1, b2, _⟩ | ⟨b1, b2, _⟩
    · exact absurd a1 b1
    · exact ⟨_, _, M1, M2, y1, y2, hI.fr e f (by decide) (by decide)⟩
    · omega
    · omega
  · rcases g with ⟨b1, _⟩ | ⟨b1, b2, _⟩ | ⟨b1, b2, b3, rfl, f⟩ | ⟨b1, b2, b3, _⟩
    · exact absurd a1 b1
    · omega
    · exact ⟨_, _, M1, M2, y1, y2, hI.fr e f (by decide) (by decide)⟩
    · exact absurd b3 a3
  · have hz0 : n.toInt.toNat = 0 := by omega
    rcases g with ⟨b1, _⟩ | ⟨b1, b2, _⟩ | ⟨b1, b2, b3, rfl, f⟩ | ⟨b1, b2, b3, b4, f⟩
    · exact absurd a1 b1
    · omega
    · exact ⟨_, _, M1, M2, y1, y2, hI.rule e f m1 ((hr.low hfr (by decide)).keep (fun i z1 z2 => (f 93 i (by simp) (by simp <;> omega)).1) (fun a i z1 z2 => (f a i (by simp) (by simp <;> omega)).1)) (by decide) (by decide) (by decide)⟩
    · rw [hz0] at b4
      rcases b4 with ⟨v, c1, _⟩ | ⟨c1, rfl, c2⟩
      · cases c1
      · exact ⟨_, _, M1, M2, y1, y2, hI.rule e f m1 c2 (by decide) (by decide) (by decide)⟩
  · rcases g with ⟨b1, _⟩ | ⟨b1, b2, _⟩ | ⟨b1, b2, b3, _⟩ | ⟨b1, b2, b3, b4, f⟩
    · exact absurd a1 b1
    · omega
    · exact absurd a3 b3
    · rcases a4 with ⟨v, c1, rfl, c2⟩ | ⟨c1, rfl, c2⟩ <;> rcases b4 with ⟨v', d1, rfl, d2⟩ | ⟨d1, rfl, d2⟩
      · exact ⟨_, _, M1, M2, y1, y2, hI.rule e f c2 d2 (by decide) (by decide) (by decide)⟩
      · rw [c1] at d1; cases d1
      · rw [c1] at d1; cases d1
      · exact ⟨_, _, M1, M2, y1, y2, hI.rule e f c2 d2 (by decide) (by decide) (by decide)⟩
theorem zop4 (M : zMm) (hI : zInv M) (s l i n : Int32) : zopJ2 42 128 [.int s, .int l, .int i, .int n] M := by
  obtain ⟨dom, q, W, L, hm, hr⟩ := hI.1
  by_cases h1 : 0 ≤ s.toInt ∧ s.toInt ≤ 3
  · by_cases h2 : 0 ≤ l.toInt ∧ l.toInt ≤ 2
    · rcases zcases4 s h1 with rfl | rfl | rfl | rfl
      · rcases hI.2.2.1 0 (by decide) with ⟨n1, n2⟩ | ⟨lane, len, p1, p2, p3, p4, p5, p6, p7⟩
        · exact ⟨-11, -11, _, _, m_places_null_0 M n1 l i n h2, r_places_null (zup (zup M 0 14 0) 0 14 1) 0 (by decide) n2 l i n h2, hI.fr (A1 := []) (B1 := [(0, 14)]) (A2 := []) (B2 := [(93, 0)]) (((zKp.refl _ _ M).up (by simp)).up (by simp)) (((zKp.refl _ _ _).up (by simp)).up (by simp)) (by decide) (by decide)⟩
        · exact zplaces2 M hI dom q W L hm hr 0 (by decide) 85 86 0 rfl lane len p1 p2 p4 p6 (M.1 86) (fun j hj => (p7 j hj).symm) l i n h2 (m_places_0 M dom q W L hm lane len p1 p2 p3 p5 l i n h2)
      · rcases hI.2.2.1 1 (by decide) with ⟨n1, n2⟩ | ⟨lane, len, p1, p2, p3, p4, p5, p6, p7⟩
        · exact ⟨-11, -11, _, _, m_places_null_1 M n1 l i n h2, r_places_null (zup (zup M 0 14 0) 0 14 1) 1 (by decide) n2 l i n h2, hI.fr (A1 := []) (B1 := [(0, 14)]) (A2 := []) (B2 := [(93, 0)]) (((zKp.refl _ _ M).up (by simp)).up (by simp)) (((zKp.refl _ _ _).up (by simp)).up (by simp)) (by decide) (by decide)⟩
        · exact zplaces2 M hI dom q W L hm hr 1 (by decide) 87 88 1 rfl lane len p1 p2 p4 p6 (M.1 88) (fun j hj => (p7 j hj).symm) l i n h2 (m_places_1 M dom q W L hm lane len p1 p2 p3 p5 l i n h2)
      · rcases hI.2.2.1 2 (by decide) with ⟨n1, n2⟩ | ⟨lane, len, p1, p2, p3, p4, p5, p6, p7⟩
        · exact ⟨-11, -11, _, _, m_places_null_2 M n1 l i n h2, r_places_null (zup (zup M 0 14 0) 0 14 1) 2 (by decide) n2 l i n h2, hI.fr (A1 := []) (B1 := [(0, 14)]) (A2 := []) (B2 := [(93, 0)]) (((zKp.refl _ _ M).up (by simp)).up (by simp)) (((zKp.refl _ _ _).up (by simp)).up (by simp)) (by decide) (by decide)⟩
        · exact zplaces2 M hI dom q W L hm hr 2 (by decide) 89 90 2 rfl lane len p1 p2 p4 p6 (M.1 90) (fun j hj => (p7 j hj).symm) l i n h2 (m_places_2 M dom q W L hm lane len p1 p2 p3 p5 l i n h2)
      · rcases hI.2.2.1 3 (by decide) with ⟨n1, n2⟩ | ⟨lane, len, p1, p2, p3, p4, p5, p6, p7⟩
        · exact ⟨-11, -11, _, _, m_places_null_3 M n1 l i n h2, r_places_null (zup (zup M 0 14 0) 0 14 1) 3 (by decide) n2 l i n h2, hI.fr (A1 := []) (B1 := [(0, 14)]) (A2 := []) (B2 := [(93, 0)]) (((zKp.refl _ _ M).up (by simp)).up (by simp)) (((zKp.refl _ _ _).up (by simp)).up (by simp)) (by decide) (by decide)⟩
        · exact zplaces2 M hI dom q W L hm hr 3 (by decide) 91 92 3 rfl lane len p1 p2 p4 p6 (M.1 92) (fun j hj => (p7 j hj).symm) l i n h2 (m_places_3 M dom q W L hm lane len p1 p2 p3 p5 l i n h2)
    · exact ⟨-2, -2, _, _, m_places_no M s l i n (-2) (Or.inr ⟨h1, h2, rfl⟩), r_places_no _ s l i n (-2) (Or.inr ⟨h1, h2, rfl⟩), hI.fr (A1 := []) (B1 := [(0, 14)]) (A2 := []) (B2 := [(93, 0)]) ((zKp.refl _ _ M).up (by simp)) ((zKp.refl _ _ _).up (by simp)) (by decide) (by decide)⟩
  · exact ⟨-1, -1, _, _, m_places_no M s l i n (-1) (Or.inl ⟨h1, rfl⟩), r_places_no _ s l i n (-1) (Or.inl ⟨h1, rfl⟩), hI.fr (A1 := []) (B1 := [(0, 14)]) (A2 := []) (B2 := [(93, 0)]) ((zKp.refl _ _ M).up (by simp)) ((zKp.refl _ _ _).up (by simp)) (by decide) (by decide)⟩
theorem zplace_in {L : zPl} {p : Int32} (h : 0 ≤ p.toInt ∧ p.toInt < L.length) : ∃ e, L[p.toInt.toNat]? = some e ∧ p.toInt.toNat < L.length := ⟨_, List.getElem?_eq_getElem (by omega), by omega⟩
theorem zop5 (M : zMm) (hI : zInv M) (p : Int32) : zopI2 43 129 [.int p] M := by
  obtain ⟨dom, q, W, L, hm, hr⟩ := hI.1
  by_cases h : 0 ≤ p.toInt ∧ p.toInt < L.length
  · rw [znat h.1]
    have hpl : p.toInt.toNat < L.length := by omega
    obtain ⟨r1, M1, y1, rfl, m1, e1⟩ := m_drop M dom q W L hm p.toInt.toNat hpl
    obtain ⟨r2, M2, y2, rfl, r2', e2⟩ := r_drop M1 dom q W L (hr.low e1 (by decide)) p.toInt.toNat hpl
    exact ⟨_, M1, M2, y1, y2, hI.rule e1 e2 m1 r2' (by decide) (by decide) (by decide)⟩
  · exact ⟨-1, M, M, m_drop_no M L.length hm.1.1 hm.1.2.1 p h, r_drop_no M L.length hr.1.1 hr.1.2.1 p h, hI⟩
theorem zop6 (M : zMm) (hI : zInv M) (p x : Int32) : zopI2 44 132 [.int p, .int x] M := by
  obtain ⟨dom, q, W, L, hm, hr⟩ := hI.1
  by_cases h : 0 ≤ p.toInt ∧ p.toInt < L.length
  · obtain ⟨e, he, hpl⟩ := zplace_in h
    rw [znat h.1]
    obtain ⟨v, hv⟩ : ∃ v : Int32, (x = 0 ∧ v = e.1.1) ∨ (x = 1 ∧ v = e.1.2) ∨ (x = 2 ∧ v = e.2) ∨ (x = 3 ∧ v = nI (ofold [] (zpsM (nI dom) (iI q) e.1.1 e.1.2)).length) ∨ (x = 4 ∧ ((zdom dom q e.1.1.toInt e.1.2.toInt ∧ v = 1) ∨ (¬ zdom dom q e.1.1.toInt e.1.2.toInt ∧ v = 0))) ∨ ((x.toInt < 0 ∨ 4 < x.toInt) ∧ v = -2) := by
      rcases zsw5 x with z | z | z | z | z | z
      · exact ⟨_, Or.inl ⟨z, rfl⟩⟩
      · exact ⟨_, Or.inr (Or.inl ⟨z, rfl⟩)⟩
      · exact ⟨_, Or.inr (Or.inr (Or.inl ⟨z, rfl⟩))⟩
      · exact ⟨_, Or.inr (Or.inr (Or.inr (Or.inl ⟨z, rfl⟩)))⟩
      · obtain ⟨v, hv⟩ := zem (zdom dom q e.1.1.toInt e.1.2.toInt)
        exact ⟨v, Or.inr (Or.inr (Or.inr (Or.inr (Or.inl ⟨z, hv⟩))))⟩
      · exact ⟨_, Or.inr (Or.inr (Or.inr (Or.inr (Or.inr ⟨z, rfl⟩))))⟩
    obtain ⟨r1, M1, y1, rfl, e1⟩ := m_about M dom q W L hm p.toInt.toNat e he x v hv
    obtain ⟨r2, M2, y2, rfl, e2⟩ := r_about M1 dom q W L (hr.low e1 (by decide)) p.toInt.toNat e he x v hv
    exact ⟨v, M1, M2, y1, y2, hI.fr e1 e2 (by decide) (by decide)⟩
  · exact ⟨-1, M, M, m_about_no M L.length hm.1.1 hm.1.2.1 p x h, r_about_no M L.length hr.1.1 hr.1.2.1 p x h, hI⟩
theorem zop7 (M : zMm) (hI : zInv M) (a b w : Int32) : zopL2 45 116 [.int a, .int b, .int w] M := by
  obtain ⟨dom, q, W, L, hm, hr⟩ := hI.1
  by_cases h : zpok a b ∧ (w = 0 ∨ w = 1)
  · obtain ⟨a', b', rfl, rfl, ha, hb, hab⟩ := zpok_nat h.1
    obtain ⟨d1, d2, d3⟩ := zD_ok hm.2.2.2.2.2.2.2 hm.2.2.2.2.2.2.1 (a' + b') (by omega)
    obtain ⟨s1, s2⟩ := zsm_L hm.1 hm.2.1 a' b' (by omega)
    obtain ⟨s3, s4⟩ := zsm_L hr.1 hr.2.1 a' b' (by omega)
    have hS : zsm (M.1 96) (M.1 94) (M.1 95) a' b' L.length = zsm (M.1 4) (M.1 2) (M.1 3) a' b' L.length := Int64.toInt_inj.mp (by rw [s1, s3])
    have hD1 : (M.1 1 2).toInt64 * zpw (M.1 1 1).toInt64 (a' + b') = (iI W).toInt64 * zpw (iI q).toInt64 (a' + b') := by rw [hm.2.2.2.1, hm.2.2.2.2.1]
    have hD2 : (M.1 93 6).toInt64 * zpw (M.1 93 5).toInt64 (a' + b') = (M.1 1 2).toInt64 * zpw (M.1 1 1).toInt64 (a' + b') := by rw [hr.2.2.2.1, hr.2.2.2.2.1, hm.2.2.2.1, hm.2.2.2.2.1]
    have y1 := m_sumP M L.length a' b' hm.1.1 hm.1.2.1 ha hb h.1 (by rw [s1]; omega) (by rw [hD1, d1]; exact d2) w h.2
    have y2 := r_sumP (zansM M (zsm (M.1 4) (M.1 2) (M.1 3) a' b' L.length) ((M.1 1 2).toInt64 * zpw (M.1 1 1).toInt64 (a' + b'))) L.length a' b' hr.1.1 hr.1.2.1 ha hb h.1 (by show (zsm (M.1 96) (M.1 94) (M.1 95) a' b' L.length).toInt ≠ _; rw [s3]; omega) (by show 0 < ((M.1 93 6).toInt64 * zpw (M.1 93 5).toInt64 (a' + b')).toInt; rw [hD2, hD1, d1]; exact d2) w h.2
    rw [show zsm ((zansM M (zsm (M.1 4) (M.1 2) (M.1 3) a' b' L.length) ((M.1 1 2).toInt64 * zpw (M.1 1 1).toInt64 (a' + b'))).1 96) ((zansM M (zsm (M.1 4) (M.1 2) (M.1 3) a' b' L.length) ((M.1 1 2).toInt64 * zpw (M.1 1 1).toInt64 (a' + b'))).1 94) ((zansM M (zsm (M.1 4) (M.1 2) (M.1 3) a' b' L.length) ((M.1 1 2).toInt64 * zpw (M.1 1 1).toInt64 (a' + b'))).1 95) a' b' L.length = zsm (M.1 4) (M.1 2) (M.1 3) a' b' L.length from hS, show ((zansM M (zsm (M.1 4) (M.1 2) (M.1 3) a' b' L.length) ((M.1 1 2).toInt64 * zpw (M.1 1 1).toInt64 (a' + b'))).1 93 6).toInt64 * zpw ((zansM M (zsm (M.1 4) (M.1 2) (M.1 3) a' b' L.length) ((M.1 1 2).toInt64 * zpw (M.1 1 1).toInt64 (a' + b'))).1 93 5).toInt64 (a' + b') = (M.1 1 2).toInt64 * zpw (M.1 1 1).toInt64 (a' + b') from hD2] at y2
    exact ⟨_, _, _, y1, y2, hI.fr (A1 := [52]) (B1 := []) (A2 := []) (B2 := [(93, 2), (93, 3)]) (((zKp.refl _ _ M).upL (by simp)).upL (by simp)) (((zKp.refl _ _ _).upL (by simp)).upL (by simp)) (by decide) (by decide)⟩
  · exact ⟨zlost, M, M, m_sum_no M a b w h, r_sum_no M a b w h, hI⟩
theorem zop8 (M : zMm) (hI : zInv M) (a b w : Int32) : zopL2 46 117 [.int a, .int b, .int w] M := by
  obtain ⟨dom, q, W, L, hm, hr⟩ := hI.1
  by_cases h : zpok a b ∧ (w = 0 ∨ w = 1)
  · obtain ⟨a', b', rfl, rfl, ha, hb, hab⟩ := zpok_nat h.1
    obtain ⟨d1, d2, d3⟩ := zD_ok hm.2.2.2.2.2.2.2 hm.2.2.2.2.2.2.1 (a' + b') (by omega)
    obtain ⟨s1, s2⟩ := zsm_L hm.1 hm.2.1 a' b' (by omega)
    obtain ⟨s3, s4⟩ := zsm_L hr.1 hr.2.1 a' b' (by omega)
    have hdom := hm.2.2.2.2.2.1
    have hS : zsm (M.1 96) (M.1 94) (M.1 95) a' b' L.length = zsm (M.1 4) (M.1 2) (M.1 3) a' b' L.length := Int64.toInt_inj.mp (by rw [s1, s3])
    have hD1 : (M.1 1 2).toInt64 * zpw (M.1 1 1).toInt64 (a' + b') = (iI W).toInt64 * zpw (iI q).toInt64 (a' + b') := by rw [hm.2.2.2.1, hm.2.2.2.2.1]
    have hD2 : (M.1 93 6).toInt64 * zpw (M.1 93 5).toInt64 (a' + b') = (iI W).toInt64 * zpw (iI q).toInt64 (a' + b') := by rw [hr.2.2.2.1, hr.2.2.2.2.1]
    generalize hSS : zsm (M.1 4) (M.1 2) (M.1 3) a' b' L.length = S at *
    generalize hDD : (iI W).toInt64 * zpw (iI q).toInt64 (a' + b') = D at *
    have hd : 0 < D.toInt ∧ D.toInt ≤ 2 ^ 35 := by rw [d1]; exact ⟨d2, d3⟩
    have hsb : S.toInt.natAbs ≤ 45864714240000 := by rw [s1]; exact s2
    have hmp := zmd_pos (dom := dom) a' ha b' hb hab
    have hmb := zmd_b (dom := dom) a' ha b' hb hab
    have hub := zmu_b (dom := dom) a' ha b' hb hab
    have l1 := zfu_le (u := S) hd.1
    have l2 := zfd_le (u := S) hd.1
    have l3 := zfu_le (u := zmu dom a' b') hmp
    have l4 := zfd_le (u := zmu dom a' b') hmp
    have hs := zerr_same (A := zfu S D) (B := zfd S D) (m := zfu (zmu dom a' b') (zmd dom a' b')) (e := zfd (zmu dom a' b') (zmd dom a' b')) (by omega) ⟨l2.1, by omega⟩ (by omega) ⟨l4.1, by omega⟩
    obtain ⟨M1, y1, e1⟩ : ∃ M1 : zMm, yOk 46 0 [(0, .ref 0), (1, .int (nI a')), (2, .int (nI b')), (3, .int w)] [] M (some (.long (if w = 0 then zfu (zU (zfu S D) (zfd S D) (zfu (zmu dom a' b') (zmd dom a' b')) (zfd (zmu dom a' b') (zmd dom a' b'))) (zV (zfd S D) (zfd (zmu dom a' b') (zmd dom a' b'))) else zfd (zU (zfu S D) (zfd S D) (zfu (zmu dom a' b') (zmd dom a' b')) (zfd (zmu dom a' b') (zmd dom a' b'))) (zV (zfd S D) (zfd (zmu dom a' b') (zmd dom a' b')))))) M1 ∧ zKp [52, 53] [] M M1 := ⟨_, m_errorP M L.length dom a' b' hm.1.1 hm.1.2.1 hm.2.2.1 hdom ha hb hab h.1 S D hSS hD1 hsb hd w h.2, ((((((zKp.refl _ _ M).upL (by simp)).upL (by simp)).upL (by simp)).upL (by simp)).upL (by simp)).upL (by simp)⟩
    have r1 := hr.low e1 (by decide)
    have lo := zlow e1 (by decide)
    obtain ⟨M2, y2, e2⟩ : ∃ M2 : zMm, yOk 117 0 [(0, .ref 93), (1, .int (nI a')), (2, .int (nI b')), (3, .int w)] [] M1 (some (.long (if w = 0 then zfu (zUr (zfu S D) (zfd S D) (zfu (zmu dom a' b') (zmd dom a' b')) (zfd (zmu dom a' b') (zmd dom a' b'))) (zVr (zfd S D) (zfd (zmu dom a' b') (zmd dom a' b'))) else zfd (zUr (zfu S D) (zfd S D) (zfu (zmu dom a' b') (zmd dom a' b')) (zfd (zmu dom a' b') (zmd dom a' b'))) (zVr (zfd S D) (zfd (zmu dom a' b') (zmd dom a' b')))))) M2 ∧ zKp [] [(93, 2), (93, 3)] M1 M2 := ⟨_, r_errorP M1 L.length dom a' b' r1.1.1 r1.1.2.1 r1.2.2.1 hdom ha hb hab h.1 S D (by rw [show M1.1 96 = M.1 96 from funext (fun i => lo 96 i (by omega)), show M1.1 94 = M.1 94 from funext (fun i => lo 94 i (by omega)), show M1.1 95 = M.1 95 from funext (fun i => lo 95 i (by omega))]; exact hS) (by rw [lo 93 6 (by omega), lo 93 5 (by omega)]; exact hD2) hsb hd w h.2, ((((((zKp.refl _ _ M1).upL (by simp)).upL (by simp)).upL (by simp)).upL (by simp)).upL (by simp)).upL (by simp)⟩
    rw [show zfu (zU (zfu S D) (zfd S D) (zfu (zmu dom a' b') (zmd dom a' b')) (zfd (zmu dom a' b') (zmd dom a' b'))) (zV (zfd S D) (zfd (zmu dom a' b') (zmd dom a' b'))) = zfu (zUr (zfu S D) (zfd S D) (zfu (zmu dom a' b') (zmd dom a' b')) (zfd (zmu dom a' b') (zmd dom a' b'))) (zVr (zfd S D) (zfd (zmu dom a' b') (zmd dom a' b'))) from hs.1, show zfd (zU (zfu S D) (zfd S D) (zfu (zmu dom a' b') (zmd dom a' b')) (zfd (zmu dom a' b') (zmd dom a' b'))) (zV (zfd S D) (zfd (zmu dom a' b') (zmd dom a' b'))) = zfd (zUr (zfu S D) (zfd S D) (zfu (zmu dom a' b') (zmd dom a' b')) (zfd (zmu dom a' b') (zmd dom a' b'))) (zVr (zfd S D) (zfd (zmu dom a' b') (zmd dom a' b'))) from hs.2] at y1
    exact ⟨_, M1, M2, y1, y2, hI.fr e1 e2 (by decide) (by decide)⟩
  · exact ⟨zlost, M, M, m_error_no M a b w h, r_error_no M a b w h, hI⟩
theorem zop9 (M : zMm) (hI : zInv M) : zopI2 47 134 [] M := by
  obtain ⟨dom, q, W, L, hm, hr⟩ := hI.1
  obtain ⟨r, hr'⟩ : ∃ r, zdegV (fun t => zE0 dom q W L (zpxN t) (zpyN t)) r := by
    rcases zFW_ex (fun t => zE0 dom q W L (zpxN t) (zpyN t)) 28 with ⟨t, t1, t2, t3⟩ | h
    · exact ⟨_, Or.inl ⟨t, t1, t2, t3, rfl⟩⟩
    · exact ⟨_, Or.inr ⟨h, rfl⟩⟩
  obtain ⟨r1, M1, y1, rfl, e1⟩ := m_degree M dom q W L hm r hr'
  obtain ⟨r2, M2, y2, rfl, e2⟩ := r_degree M1 dom q W L (hr.low e1 (by decide)) r hr'
  exact ⟨r, M1, M2, y1, y2, hI.fr e1 e2 (by decide) (by decide)⟩
theorem zop10 (M : zMm) (hI : zInv M) (w : Int32) : zopI2 48 135 [.int w] M := by
  obtain ⟨dom, q, W, L, hm, hr⟩ := hI.1
  by_cases hw : 0 ≤ w.toInt ∧ w.toInt ≤ 1
  · obtain ⟨r, hr'⟩ : ∃ r, zfstV (fun t => zE0 dom q W L (zpxN t) (zpyN t)) w r := by
      rcases zFW_ex (fun t => zE0 dom q W L (zpxN t) (zpyN t)) 28 with ⟨t, t1, t2, t3⟩ | h
      · exact ⟨_, Or.inl ⟨t, t1, t2, t3, rfl⟩⟩
      · exact ⟨_, Or.inr ⟨h, rfl⟩⟩
    obtain ⟨r1, M1, y1, rfl, e1⟩ := m_first M dom q W L hm w hw r hr'
    obtain ⟨r2, M2, y2, rfl, e2⟩ := r_first M1 dom q W L (hr.low e1 (by decide)) w hw r hr'
    exact ⟨r, M1, M2, y1, y2, hI.fr e1 e2 (by decide) (by decide)⟩
  · exact ⟨-2, M, M, m_first_no M w hw, r_first_no M w hw, hI⟩
theorem zop11 (M : zMm) (hI : zInv M) (x : Int32) : zopI2 49 137 [.int x] M := by
  obtain ⟨dom, q, W, L, hm, hr⟩ := hI.1
  by_cases h : x.toInt < 0 ∨ 2 < x.toInt
  · obtain ⟨r1, M1, y1, rfl, e1⟩ := m_is M dom q W L hm x (-2) (Or.inr (Or.inr (Or.inr ⟨h, rfl⟩)))
    exact ⟨-2, M1, M1, y1, r_is_no M1 x h, hI.fr e1 (zKp.refl [] [] M1) (by decide) (by decide)⟩
  · have hx : x = nI x.toInt.toNat := znat (by omega)
    obtain ⟨v, hv⟩ := zem (∀ e, e ∈ L → zisP dom q L x.toInt.toNat e)
    have hc : x.toInt.toNat = 0 ∨ x.toInt.toNat = 1 ∨ x.toInt.toNat = 2 := by omega
    have A : yR 49 0 [(0, .ref 0), (1, .int x)] [] M (fun r N => r = some (.int v) ∧ zKp [9, 10, 11] [] M N) := by
      rcases hc with c | c | c
      · rw [c] at hv hx; exact m_is M dom q W L hm x v (Or.inl ⟨hx, hv⟩)
      · rw [c] at hv hx; exact m_is M dom q W L hm x v (Or.inr (Or.inl ⟨hx, hv⟩))
      · rw [c] at hv hx; exact m_is M dom q W L hm x v (Or.inr (Or.inr (Or.inl ⟨hx, hv⟩)))
    obtain ⟨r1, M1, y1, rfl, e1⟩ := A
    obtain ⟨r2, M2, y2, rfl, e2⟩ := r_is M1 dom q W L (hr.low e1 (by decide)) x.toInt.toNat (by omega) v hv
    rw [← hx] at y2
    exact ⟨v, M1, M2, y1, y2, hI.fr e1 e2 (by decide) (by decide)⟩
theorem zop12 (M : zMm) (hI : zInv M) (d : Int32) : zopI2 50 138 [.int d] M := by
  by_cases h : 0 ≤ d.toInt ∧ d.toInt ≤ 6
  · exact ⟨zleast d, M, M, m_least M d _ (Or.inl ⟨h, rfl⟩), r_least _ d _ (Or.inl ⟨h, rfl⟩), hI⟩
  · exact ⟨-2, M, M, m_least M d _ (Or.inr ⟨h, rfl⟩), r_least _ d _ (Or.inr ⟨h, rfl⟩), hI⟩
