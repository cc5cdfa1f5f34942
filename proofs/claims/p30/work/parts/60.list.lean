/-! ===== a rule's places as a list ===== -/
abbrev zPl : Type := List (zPt × Int32)
def lix : zPl → zPt → Nat → Option Nat
  | [], _, _ => none
  | e :: r, p, i => if e.1 = p then some i else lix r p (i + 1)
def ladd (L : zPl) (p : zPt) (w : Int32) : zPl := match lix L p 0 with
  | some k => L.modify k (fun e => (e.1, e.2 + w))
  | none => L ++ [(p, w)]
def lnum (L : zPl) (p : zPt) : Nat := (lix L p 0).getD L.length
def zRu (c f ax ay aw : Nat) (M : zMm) (L : zPl) : Prop := M.1 c f = nI L.length ∧ L.length ≤ 24 ∧ ∀ p e, L[p]? = some e → M.1 ax p = e.1.1 ∧ M.1 ay p = e.1.2 ∧ M.1 aw p = e.2
def zLok (L : zPl) : Prop := ∀ e, e ∈ L → zgr e.1.1 ∧ zgr e.1.2 ∧ zwr e.2.toInt
theorem zfnd_lix {X Y : Nat → Int32} {p : zPt} : ∀ (L : zPl) (i : Nat), (∀ k e, L[k]? = some e → X (i + k) = e.1.1 ∧ Y (i + k) = e.1.2) → zfnd X Y p.1 p.2 L.length i = lix L p i
  | [], _, _ => rfl
  | e :: r, i, h => by
    have h0 := h 0 e rfl
    have ih := zfnd_lix (X := X) (Y := Y) (p := p) r (i + 1) (fun k e' hk => by have := h (k + 1) e' (by simpa using hk); rwa [show i + (k + 1) = i + 1 + k by omega] at this)
    show (if X i = p.1 ∧ Y i = p.2 then some i else zfnd X Y p.1 p.2 r.length (i + 1)) = if e.1 = p then some i else lix r p (i + 1)
    rw [ih]
    by_cases he : e.1 = p
    · rw [if_pos he, if_pos ⟨by rw [← he]; exact h0.1, by rw [← he]; exact h0.2⟩]
    · rw [if_neg he, if_neg (fun z => he (Prod.ext (by rw [← z.1]; exact h0.1.symm) (by rw [← z.2]; exact h0.2.symm)))]
theorem lix_some {p : zPt} : ∀ (L : zPl) (i k : Nat), lix L p i = some k → i ≤ k ∧ ∃ w, L[k - i]? = some (p, w)
  | [], _, _, h => by cases h
  | e :: r, i, k, h => by
    unfold lix at h
    split at h
    · next he =>
      obtain rfl := Option.some.inj h
      exact ⟨Nat.le_refl _, e.2, by rw [Nat.sub_self, ← he]; rfl⟩
    · obtain ⟨a1, w, a2⟩ := lix_some r (i + 1) k h
      exact ⟨by omega, w, by rw [show k - i = (k - (i + 1)) + 1 by omega]; simpa using a2⟩
theorem lix_none {p : zPt} : ∀ (L : zPl) (i : Nat), lix L p i = none → ∀ e, e ∈ L → e.1 ≠ p
  | [], _, _, e, he => by cases he
  | e' :: r, i, h, e, he => by
    unfold lix at h
    split at h
    · cases h
    · next hn =>
      rcases List.mem_cons.mp he with rfl | h2
      · exact hn
      · exact lix_none r (i + 1) h e h2
theorem lix_no {p : zPt} : ∀ (L : zPl) (i : Nat), (∀ e, e ∈ L → e.1 ≠ p) → lix L p i = none
  | [], _, _ => rfl
  | e :: r, i, h => by
    unfold lix
    rw [if_neg (h e List.mem_cons_self)]
    exact lix_no r (i + 1) (fun e' he => h e' (List.mem_cons_of_mem _ he))
section ZRU
variable {c f ax ay aw : Nat} {M : zMm} {L : zPl}
theorem zRu.fnd (h : zRu c f ax ay aw M L) (x y : Int32) : zfnd (M.1 ax) (M.1 ay) x y L.length 0 = lix L (x, y) 0 :=
  zfnd_lix (p := (x, y)) L 0 (fun k e hk => by rw [Nat.zero_add]; exact ⟨(h.2.2 k e hk).1, (h.2.2 k e hk).2.1⟩)
theorem zRu.W (h : zRu c f ax ay aw M L) (hk : zLok L) : ∀ p, p < L.length → zwr (M.1 aw p).toInt := fun p hp => by
  have hg := List.getElem?_eq_getElem hp
  rw [(h.2.2 p _ hg).2.2]
  exact (hk _ (List.mem_of_getElem? hg)).2.2
def zbadL (L : zPl) (x y w : Int32) : Prop := ¬ (zgr x ∧ zgr y ∧ zwr w.toInt) ∨ ∃ p w', lix L (x, y) 0 = some p ∧ L[p]? = some ((x, y), w') ∧ ¬ zwr (w'.toInt + w.toInt)
theorem zRu.bad (h : zRu c f ax ay aw M L) (x y w : Int32) : zbad (M.1 ax) (M.1 ay) (M.1 aw) L.length x y w ↔ zbadL L x y w := by
  unfold zbad zbadL
  rw [h.fnd]
  refine or_congr Iff.rfl ⟨fun ⟨p, h1, h2⟩ => ?_, fun ⟨p, w', h1, h2, h3⟩ => ⟨p, h1, by rw [(h.2.2 p _ h2).2.2]; exact h3⟩⟩
  obtain ⟨_, w', h3⟩ := lix_some L 0 p h1
  rw [Nat.sub_zero] at h3
  exact ⟨p, w', h1, h3, by rw [(h.2.2 p _ h3).2.2] at h2; exact h2⟩
theorem zRu.layR (h : zRu c f ax ay aw M L) (x y : Int32) : zlayR ax ay M L.length x y = nI (lnum L (x, y)) := by
  unfold zlayR lnum
  rw [h.fnd]
  cases lix L (x, y) 0 <;> rfl
theorem zRu.lay (h : zRu c f ax ay aw M L) (d1 : c ≠ ax) (d2 : c ≠ ay) (d3 : c ≠ aw) (d4 : ax ≠ ay) (d5 : ax ≠ aw) (d6 : ay ≠ aw) (x y w : Int32) (hroom : L.length < 24 ∨ ∃ p, lix L (x, y) 0 = some p) :
    zRu c f ax ay aw (zlayM c f ax ay aw M L.length x y w) (ladd L (x, y) w) ∧ zKp [ax, ay, aw] [(c, f)] M (zlayM c f ax ay aw M L.length x y w) := by
  unfold zlayM ladd
  rw [h.fnd]
  cases hl : lix L (x, y) 0 with
  | some k =>
    dsimp only
    refine ⟨⟨?_, ?_, fun p e hp => ?_⟩, (zKp.refl _ _ M).up (by simp)⟩
    · rw [zup_i, if_neg (fun z => d3 z.1), List.length_modify]; exact h.1
    · rw [List.length_modify]; exact h.2.1
    · rw [List.getElem?_modify] at hp
      cases hg : L[p]? with
      | none => rw [hg] at hp; cases hp
      | some e' =>
        rw [hg] at hp
        have he : (if k = p then (e'.1, e'.2 + w) else e') = e := by
          by_cases hkp : k = p
          · rw [if_pos hkp]; simpa [hkp] using hp
          · rw [if_neg hkp]; simpa [hkp] using hp
        obtain ⟨g1, g2, g3⟩ := h.2.2 p e' hg
        rw [zup_i, zup_i, zup_i, if_neg (fun z => d5 z.1), if_neg (fun z => d6 z.1), g1, g2]
        by_cases hkp : k = p
        · rw [if_pos hkp] at he
          rw [if_pos ⟨rfl, hkp.symm⟩, ← he, hkp, g3]
          exact ⟨rfl, rfl, rfl⟩
        · rw [if_neg hkp] at he
          rw [if_neg (fun z => hkp z.2.symm), ← he, g3]
          exact ⟨rfl, rfl, rfl⟩
  | none =>
    dsimp only
    have hlt : L.length < 24 := hroom.elim id (fun ⟨p, hp⟩ => by rw [hl] at hp; cases hp)
    refine ⟨⟨?_, ?_, fun p e hp => ?_⟩, ((((zKp.refl _ _ M).up (by simp)).up (by simp)).up (by simp)).up (by simp)⟩
    · rw [zup_i, if_pos ⟨rfl, rfl⟩, List.length_append]; rfl
    · rw [List.length_append]; simp; omega
    · have hc : ∀ (M' : zMm) (a : Nat) (v : Int32) (i : Nat), a ≠ c → (zup M' c f v).1 a i = M'.1 a i := fun M' a v i hn => by rw [zup_i, if_neg (fun z => hn z.1)]
      rw [hc _ ax _ _ d1.symm, hc _ ay _ _ d2.symm, hc _ aw _ _ d3.symm]
      simp only [zup_i]
      by_cases hlt2 : p < L.length
      · rw [List.getElem?_append_left hlt2] at hp
        obtain ⟨g1, g2, g3⟩ := h.2.2 p e hp
        have hne : ¬ p = L.length := by omega
        simp only [hne, and_false, if_false]
        exact ⟨g1, g2, g3⟩
      · have he : p = L.length := by
          have := (List.getElem?_eq_some_iff.mp hp).1
          rw [List.length_append] at this
          simp at this
          omega
        subst he
        rw [List.getElem?_append_right (Nat.le_refl _)] at hp
        simp at hp
        subst hp
        simp only [d4, d5, d6, false_and, if_false, and_self, if_true]
end ZRU
theorem zRu.keep {c f ax ay aw : Nat} {M N : zMm} {L : zPl} (h : zRu c f ax ay aw M L) (e1 : N.1 c f = M.1 c f) (e2 : ∀ i, N.1 ax i = M.1 ax i) (e3 : ∀ i, N.1 ay i = M.1 ay i) (e4 : ∀ i, N.1 aw i = M.1 aw i) : zRu c f ax ay aw N L := ⟨by rw [e1]; exact h.1, h.2.1, fun p e hp => by rw [e2, e3, e4]; exact h.2.2 p e hp⟩
theorem zLok.add {L : zPl} (h : zLok L) {x y w : Int32} (hb : ¬ zbadL L x y w) : zLok (ladd L (x, y) w) := by
  have hg : zgr x ∧ zgr y ∧ zwr w.toInt := Classical.byContradiction fun z => hb (Or.inl z)
  unfold ladd
  cases hl : lix L (x, y) 0 with
  | none =>
    intro e he
    rcases List.mem_append.mp he with h1 | h1
    · exact h e h1
    · simp at h1
      subst h1
      exact hg
  | some k =>
    intro e he
    obtain ⟨p, hp⟩ := List.mem_iff_getElem?.mp he
    rw [List.getElem?_modify] at hp
    cases hgp : L[p]? with
    | none => rw [hgp] at hp; cases hp
    | some e' =>
      rw [hgp] at hp
      have h1 := h e' (List.mem_of_getElem? hgp)
      by_cases hkp : k = p
      · have he' : (e'.1, e'.2 + w) = e := by simpa [hkp] using hp
        subst he'
        refine ⟨h1.1, h1.2.1, ?_⟩
        obtain ⟨_, w', h3⟩ := lix_some L 0 k hl
        rw [Nat.sub_zero, hkp, hgp] at h3
        have h4 : e'.2 = w' := by rw [Option.some.inj h3]
        have h5 : zwr (w'.toInt + w.toInt) := Classical.byContradiction fun z => hb (Or.inr ⟨k, w', hl, by rw [hkp, hgp, h3], z⟩)
        show zwr (e'.2 + w).toInt
        rw [h4, ← iI_of w', ← iI_of w, iI_add, iI_toInt (by unfold zwr at h5; omega)]
        exact h5
      · have he' : e' = e := by simpa [hkp] using hp
        subst he'
        exact h1
def laddA (L : zPl) (ps : List zPt) (w : Int32) : zPl := ps.foldl (fun L p => ladd L p w) L
def lgood (w : Int32) : zPl → List zPt → Prop
  | _, [] => True
  | L, p :: r => (¬ zbadL L p.1 p.2 w ∧ (L.length < 24 ∨ ∃ k, lix L p 0 = some k)) ∧ lgood w (ladd L p w) r
/-- places that are new -/
theorem lnew (w : Int32) (hw : zwr w.toInt) : ∀ (ps : List zPt) (L : zPl), ps.Nodup → (∀ p, p ∈ ps → zgr p.1 ∧ zgr p.2 ∧ ∀ e, e ∈ L → e.1 ≠ p) → L.length + ps.length ≤ 24 → laddA L ps w = L ++ ps.map (fun p => (p, w)) ∧ lgood w L ps
  | [], L, _, _, _ => ⟨(List.append_nil _).symm, trivial⟩
  | p :: r, L, hn, hp, hl => by
    obtain ⟨h1, h2⟩ := List.nodup_cons.mp hn
    obtain ⟨k1, k2, k3⟩ := hp p List.mem_cons_self
    have hx : lix L p 0 = none := lix_no L 0 k3
    have ha : ladd L p w = L ++ [(p, w)] := by unfold ladd; rw [hx]
    simp at hl
    obtain ⟨i1, i2⟩ := lnew w hw r (L ++ [(p, w)]) h2 (fun p' hp' => by
      obtain ⟨j1, j2, j3⟩ := hp p' (List.mem_cons_of_mem _ hp')
      refine ⟨j1, j2, fun e he => ?_⟩
      rcases List.mem_append.mp he with h3 | h3
      · exact j3 e h3
      · simp at h3
        subst h3
        intro h4
        have h5 : p = p' := h4
        rw [h5] at h1
        exact h1 hp') (by simp; omega)
    refine ⟨?_, ⟨⟨?_, Or.inl (by omega)⟩, by rw [ha]; exact i2⟩⟩
    · show laddA (ladd L p w) r w = _
      rw [ha, i1]
      simp
    · intro hb
      rcases hb with hb | ⟨k, w', hb, _⟩
      · exact hb ⟨k1, k2, hw⟩
      · have hx' : lix L (p.1, p.2) 0 = none := hx
        rw [hx'] at hb
        cases hb
