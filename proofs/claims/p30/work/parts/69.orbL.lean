/-! ===== an orbit laid: lists ===== -/
def lw : zPl → zPt → Option Int32
  | [], _ => none
  | e :: r, p => if e.1 = p then some e.2 else lw r p
def lad (p : zPt) (w : Int32) : zPl → zPl
  | [] => [(p, w)]
  | e :: r => if e.1 = p then (e.1, e.2 + w) :: r else e :: lad p w r
theorem lix_lw {p : zPt} : ∀ (L : zPl) (i : Nat), (lix L p i = none ∧ lw L p = none) ∨ ∃ k w', lix L p i = some (i + k) ∧ L[k]? = some (p, w') ∧ lw L p = some w'
  | [], _ => Or.inl ⟨rfl, rfl⟩
  | e :: r, i => by
    unfold lix lw
    by_cases h : e.1 = p
    · rw [if_pos h, if_pos h]
      exact Or.inr ⟨0, e.2, rfl, by rw [← h]; rfl, rfl⟩
    · rw [if_neg h, if_neg h]
      rcases lix_lw r (i + 1) with h1 | ⟨k, w', h1, h2, h3⟩
      · exact Or.inl h1
      · exact Or.inr ⟨k + 1, w', by rw [h1]; congr 1; omega, by simpa using h2, h3⟩
theorem lad_shift {p : zPt} {w : Int32} : ∀ (L : zPl) (i : Nat), lad p w L = (match lix L p i with
    | some k => L.modify (k - i) (fun e => (e.1, e.2 + w))
    | none => L ++ [(p, w)])
  | [], _ => rfl
  | e :: r, i => by
    unfold lad lix
    by_cases h : e.1 = p
    · rw [if_pos h, if_pos h]
      simp
    · rw [if_neg h, if_neg h, lad_shift r (i + 1)]
      cases hl : lix r p (i + 1) with
      | none => rfl
      | some k =>
        have h1 := (lix_some r (i + 1) k hl).1
        dsimp only
        rw [show k - i = (k - (i + 1)) + 1 by omega]
        simp
theorem ladd_lad (L : zPl) (p : zPt) (w : Int32) : ladd L p w = lad p w L := by
  rw [lad_shift L 0]
  unfold ladd
  cases lix L p 0 <;> simp
theorem lw_lad {p p' : zPt} {w : Int32} (h : p' ≠ p) : ∀ L : zPl, lw (lad p w L) p' = lw L p'
  | [] => by
    unfold lad lw
    rw [if_neg (fun e => h e.symm)]
    rfl
  | e :: r => by
    unfold lad
    by_cases he : e.1 = p
    · rw [if_pos he]
      unfold lw
      rw [he, if_neg (fun z => h z.symm), if_neg (fun z => h z.symm)]
    · rw [if_neg he]
      show (if e.1 = p' then some e.2 else lw (lad p w r) p') = if e.1 = p' then some e.2 else lw r p'
      rw [lw_lad h r]
theorem lix_none_lw {L : zPl} {p : zPt} : lix L p 0 = none ↔ lw L p = none := by
  rcases lix_lw (p := p) L 0 with h | ⟨k, w', h1, h2, h3⟩
  · exact ⟨fun _ => h.2, fun _ => h.1⟩
  · rw [h1, h3]; simp
theorem zbadL_lw {L : zPl} {x y w : Int32} : zbadL L x y w ↔ ¬ (zgr x ∧ zgr y ∧ zwr w.toInt) ∨ ∃ w', lw L (x, y) = some w' ∧ ¬ zwr (w'.toInt + w.toInt) := by
  unfold zbadL
  refine or_congr Iff.rfl ?_
  rcases lix_lw (p := (x, y)) L 0 with h | ⟨k, w', h1, h2, h3⟩
  · rw [h.1, h.2]
    exact ⟨fun ⟨p, w', z, _⟩ => (by cases z), fun ⟨w', z, _⟩ => (by cases z)⟩
  · rw [h1, h3]
    refine ⟨fun ⟨p, w2, z1, z2, z3⟩ => ⟨w', rfl, ?_⟩, fun ⟨w2, z1, z2⟩ => ⟨0 + k, w', rfl, by rw [Nat.zero_add]; exact h2, ?_⟩⟩
    · have e := Option.some.inj z1
      rw [← e, Nat.zero_add, h2] at z2
      have e2 : w' = w2 := by simpa using z2
      rw [e2]; exact z3
    · have e2 : w' = w2 := by simpa using z1
      rw [e2]; exact z2
theorem lad_len {p : zPt} {w : Int32} : ∀ L : zPl, (lad p w L).length = L.length + (if lw L p = none then 1 else 0)
  | [] => rfl
  | e :: r => by
    unfold lad lw
    by_cases he : e.1 = p
    · rw [if_pos he, if_pos he]; simp
    · rw [if_neg he, if_neg he]
      simp only [List.length_cons]
      rw [lad_len r]
      omega
def lfr (L : zPl) : List zPt → Nat
  | [] => 0
  | p :: r => (if lw L p = none then 1 else 0) + lfr L r
theorem lfr_lad {p : zPt} {w : Int32} {L : zPl} : ∀ r : List zPt, p ∉ r → lfr (lad p w L) r = lfr L r
  | [], _ => rfl
  | p' :: r, h => by
    have h1 : p' ≠ p := fun e => h (by rw [e]; exact List.mem_cons_self)
    unfold lfr
    rw [lw_lad h1, lfr_lad r (fun z => h (List.mem_cons_of_mem _ z))]
theorem lgood_of (w : Int32) : ∀ (ps : List zPt) (L : zPl), ps.Nodup → (∀ p, p ∈ ps → ¬ zbadL L p.1 p.2 w) → L.length + lfr L ps ≤ 24 → lgood w L ps
  | [], _, _, _, _ => trivial
  | p :: r, L, hn, hb, hl => by
    obtain ⟨h1, h2⟩ := List.nodup_cons.mp hn
    unfold lfr at hl
    refine ⟨⟨hb p List.mem_cons_self, ?_⟩, ?_⟩
    · by_cases hw : lw L p = none
      · rw [if_pos hw] at hl
        exact Or.inl (by omega)
      · cases hx : lix L p 0 with
        | none => exact absurd (lix_none_lw.mp hx) hw
        | some k => exact Or.inr ⟨k, rfl⟩
    · rw [ladd_lad]
      refine lgood_of w r _ h2 (fun p' hp' => ?_) ?_
      · have hne : p' ≠ p := fun e => h1 (by rw [← e]; exact hp')
        have hb' := hb p' (List.mem_cons_of_mem _ hp')
        rw [zbadL_lw] at hb' ⊢
        rw [show lw (lad p w L) (p'.1, p'.2) = lw L (p'.1, p'.2) from lw_lad hne L]
        exact hb'
      · rw [lad_len, lfr_lad r h1]
        omega
theorem lfr_le (L : zPl) : ∀ ps : List zPt, lfr L ps ≤ ps.length
  | [] => Nat.le_refl _
  | p :: r => by
    have := lfr_le L r
    unfold lfr
    simp only [List.length_cons]
    split <;> omega
-- orbits are in order
theorem oins_mem {p x : zPt} : ∀ {l : List zPt}, x ∈ oins l p → x = p ∨ x ∈ l
  | [], h => by simp [oins] at h; exact Or.inl h
  | q :: r, h => by
    unfold oins at h
    split at h
    · rcases List.mem_cons.mp h with h1 | h1
      · exact Or.inr (by rw [h1]; exact List.mem_cons_self)
      · exact (oins_mem h1).imp id (fun z => List.mem_cons_of_mem _ z)
    · split at h
      · exact Or.inr h
      · rcases List.mem_cons.mp h with h1 | h1
        · exact Or.inl h1
        · exact Or.inr h1
theorem oins_srt {p : zPt} : ∀ {l : List zPt}, l.Pairwise zpl → (oins l p).Pairwise zpl
  | [], _ => by simp [oins]
  | q :: r, h => by
    obtain ⟨h1, h2⟩ := List.pairwise_cons.mp h
    rcases zpl_tri q p with z | z | z
    · rw [oins_lt z]
      refine List.pairwise_cons.mpr ⟨fun x hx => ?_, oins_srt h2⟩
      rcases oins_mem hx with y | y
      · rw [y]; exact z
      · exact h1 x y
    · rw [← z, oins_same]
      exact h
    · rw [oins_gt z]
      refine List.pairwise_cons.mpr ⟨fun x hx => ?_, h⟩
      rcases List.mem_cons.mp hx with y | y
      · rw [y]; exact z
      · exact zpl_tr z (h1 x y)
theorem ofold_srt : ∀ (ps l : List zPt), l.Pairwise zpl → (ofold l ps).Pairwise zpl
  | [], _, h => h
  | p :: r, l, h => ofold_srt r (oins l p) (oins_srt h)
theorem ofold_nd (ps : List zPt) : (ofold [] ps).Nodup := by
  unfold List.Nodup
  exact (ofold_srt ps [] List.Pairwise.nil).imp (fun h => zpl_ne h)
