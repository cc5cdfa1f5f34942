/-! ===== places put in order, each once: Orbit.insert and take ===== -/
abbrev zPt : Type := Int32 × Int32
abbrev zpl (q p : zPt) : Prop := q.1 < p.1 ∨ (q.1 = p.1 ∧ q.2 < p.2)
def zspot : List zPt → zPt → Nat
  | [], _ => 0
  | q :: r, p => if zpl q p then zspot r p + 1 else 0
def oins : List zPt → zPt → List zPt
  | [], p => [p]
  | q :: r, p => if zpl q p then q :: oins r p else if q = p then q :: r else p :: q :: r
theorem zspot_le : ∀ (l : List zPt) (p : zPt), zspot l p ≤ l.length
  | [], _ => Nat.le_refl _
  | q :: r, p => by
    unfold zspot
    split
    · have := zspot_le r p; simp; omega
    · simp
theorem zspot_lt : ∀ (l : List zPt) (p : zPt) (j : Nat) (q : zPt), j < zspot l p → l[j]? = some q → zpl q p
  | [], _, j, q, h, _ => by unfold zspot at h; omega
  | q0 :: r, p, j, q, h, hq => by
    unfold zspot at h
    split at h
    · next h1 =>
      cases j with
      | zero => cases hq; exact h1
      | succ j => exact zspot_lt r p j q (by omega) (by simpa using hq)
    · omega
theorem zspot_at : ∀ (l : List zPt) (p q : zPt), l[zspot l p]? = some q → ¬ zpl q p
  | [], _, _, h => by cases h
  | q0 :: r, p, q, h => by
    unfold zspot at h
    split at h
    · exact zspot_at r p q (by simpa using h)
    · next h1 => cases h; exact h1
theorem oins_eq : ∀ (l : List zPt) (p : zPt), oins l p = if l[zspot l p]? = some p then l else l.take (zspot l p) ++ p :: l.drop (zspot l p)
  | [], p => by simp [oins, zspot]
  | q :: r, p => by
    unfold oins zspot
    by_cases h : zpl q p
    · rw [if_pos h, if_pos h, oins_eq r p]
      by_cases h2 : r[zspot r p]? = some p
      · rw [if_pos h2, if_pos (by simpa using h2)]
      · rw [if_neg h2, if_neg (by simpa using h2)]
        simp
    · rw [if_neg h, if_neg h]
      by_cases h2 : q = p
      · rw [if_pos h2, if_pos (by simp [h2])]
      · rw [if_neg h2, if_neg (by simp [h2])]
        simp
/-- the places that a row of cells holds: c, f where their number stands, ax, ay the arrays -/
def zOrb (c f ax ay : Nat) (M : zMm) (l : List zPt) : Prop := M.1 c f = nI l.length ∧ l.length ≤ 8 ∧ ∀ (i : Nat) (q : zPt), l[i]? = some q → M.1 ax i = q.1 ∧ M.1 ay i = q.2
def zFr (c f ax ay : Nat) (M N : zMm) : Prop := (∀ a i, a ≠ ax → a ≠ ay → (a ≠ c ∨ i ≠ f) → N.1 a i = M.1 a i) ∧ N.2 = M.2
def zshf (M : zMm) (ax ay i n : Nat) : zMm := (fun a j => if (a = ax ∨ a = ay) ∧ i < j ∧ j ≤ n then M.1 a (j - 1) else M.1 a j, M.2)
theorem zshf_n (M : zMm) (ax ay n : Nat) : zshf M ax ay n n = M := by
  unfold zshf
  have : (fun a j => if (a = ax ∨ a = ay) ∧ n < j ∧ j ≤ n then M.1 a (j - 1) else M.1 a j) = M.1 := by
    funext a j
    rw [if_neg (by omega)]
  rw [this]
theorem zshf_step (M : zMm) {ax ay i n : Nat} (hne : ax ≠ ay) (hi : i + 1 ≤ n) : zup (zup (zshf M ax ay (i + 1) n) ax (i + 1) (M.1 ax i)) ay (i + 1) (M.1 ay i) = zshf M ax ay i n := by
  unfold zup zshf
  congr 1
  funext a j
  dsimp only
  by_cases h1 : a = ay ∧ j = i + 1
  · rw [if_pos h1, if_pos ⟨Or.inr h1.1, by omega, by omega⟩, h1.1, h1.2]
    rfl
  · rw [if_neg h1]
    by_cases h2 : a = ax ∧ j = i + 1
    · rw [if_pos h2, if_pos ⟨Or.inl h2.1, by omega, by omega⟩, h2.1, h2.2]
      rfl
    · rw [if_neg h2]
      by_cases h3 : (a = ax ∨ a = ay) ∧ i + 1 < j ∧ j ≤ n
      · rw [if_pos h3, if_pos ⟨h3.1, by omega, h3.2.2⟩]
      · rw [if_neg h3, if_neg (fun q => h3 ⟨q.1, Classical.byContradiction fun hh => by
          have : j = i + 1 := by omega
          rcases q.1 with e | e
          · exact h2 ⟨e, this⟩
          · exact h1 ⟨e, this⟩, q.2.2⟩)]
theorem zshf_at (M : zMm) (ax ay i n : Nat) (a : Nat) {j : Nat} (h : j ≤ i) : (zshf M ax ay i n).1 a j = M.1 a j := by
  unfold zshf
  dsimp only
  rw [if_neg (by omega)]
/-- the numbers behind an insertion at s -/
def zinsM (c f ax ay : Nat) (M : zMm) (s n : Nat) (p : zPt) : zMm := zup (zup (zup (zshf M ax ay s n) ax s p.1) ay s p.2) c f (nI (n + 1))
theorem zinsM_fr {c f ax ay : Nat} (M : zMm) (s n : Nat) (p : zPt) : zFr c f ax ay M (zinsM c f ax ay M s n p) := by
  refine ⟨fun a i h1 h2 h3 => ?_, rfl⟩
  unfold zinsM zup zshf
  dsimp only
  rw [if_neg (fun q => h3.elim (fun h => h q.1) (fun h => h q.2)), if_neg (fun q => h2 q.1), if_neg (fun q => h1 q.1), if_neg (fun q => q.1.elim h1 h2)]
theorem zinsM_orb {c f ax ay : Nat} {M : zMm} {l : List zPt} {p : zPt} (hcx : c ≠ ax) (hcy : c ≠ ay) (hxy : ax ≠ ay) (hO : zOrb c f ax ay M l) (hlt : l.length < 8) (hno : ¬ l[zspot l p]? = some p) : zOrb c f ax ay (zinsM c f ax ay M (zspot l p) l.length p) (oins l p) := by
  obtain ⟨h1, h2, h3⟩ := hO
  have hs := zspot_le l p
  rw [oins_eq, if_neg hno]
  have hlen : (l.take (zspot l p) ++ p :: l.drop (zspot l p)).length = l.length + 1 := by simp; omega
  generalize zspot l p = s at *
  refine ⟨?_, by rw [hlen]; omega, fun i q hq => ?_⟩
  · rw [hlen]
    unfold zinsM zup
    dsimp only
    rw [if_pos ⟨rfl, rfl⟩]
  · have hx : ∀ a, a = ax ∨ a = ay → (zinsM c f ax ay M s l.length p).1 a i = if i = s then (if a = ay then p.2 else p.1) else if s < i ∧ i ≤ l.length then M.1 a (i - 1) else M.1 a i := by
      intro a ha
      unfold zinsM zup zshf
      dsimp only
      rw [if_neg (fun q => by rcases ha with e | e <;> rw [e] at q; exact hcx q.1.symm; exact hcy q.1.symm)]
      by_cases hi : i = s
      · rw [if_pos hi]
        by_cases hay : a = ay
        · rw [if_pos ⟨hay, hi⟩, if_pos hay]
        · rw [if_neg (fun q => hay q.1), if_neg hay, if_pos ⟨ha.resolve_right hay, hi⟩]
      · rw [if_neg hi, if_neg (fun q => hi q.2), if_neg (fun q => hi q.2)]
        by_cases hc : s < i ∧ i ≤ l.length
        · rw [if_pos hc, if_pos ⟨ha, hc⟩]
        · rw [if_neg hc, if_neg (fun q => hc q.2)]
    rw [hx ax (Or.inl rfl), hx ay (Or.inr rfl), if_neg hxy, if_pos rfl]
    by_cases c1 : i < s
    · rw [List.getElem?_append_left (by simp; omega), List.getElem?_take, if_pos c1] at hq
      rw [if_neg (by omega), if_neg (by omega), if_neg (by omega), if_neg (by omega)]
      exact h3 i q hq
    · rw [List.getElem?_append_right (by simp; omega), List.length_take, Nat.min_eq_left hs] at hq
      by_cases c2 : i = s
      · subst c2
        rw [Nat.sub_self] at hq
        cases hq
        rw [if_pos rfl, if_pos rfl]
        exact ⟨rfl, rfl⟩
      · have hil : i - s = (i - 1 - s) + 1 := by omega
        rw [hil, List.getElem?_cons_succ, List.getElem?_drop, show s + (i - 1 - s) = i - 1 by omega] at hq
        have hlt2 := (List.getElem?_eq_some_iff.mp hq).1
        rw [if_neg c2, if_neg c2, if_pos ⟨by omega, by omega⟩, if_pos ⟨by omega, by omega⟩]
        exact h3 (i - 1) q hq
theorem zOrb.at {c f ax ay : Nat} {M : zMm} {l : List zPt} (h : zOrb c f ax ay M l) {i : Nat} (hi : i < l.length) : ∃ q, l[i]? = some q ∧ M.1 ax i = q.1 ∧ M.1 ay i = q.2 := ⟨l[i], List.getElem?_eq_getElem hi, h.2.2 i _ (List.getElem?_eq_getElem hi)⟩
