/-! ===== more fuel, and arrays that are not looked at ===== -/
theorem zex_more {P : Nat → Nat → Option zE} {F : zF} : ∀ (n k pc : Nat) (lv : zL) (st : List Value) (h : zH) (x : Option Value × zH), zex P F n k pc lv st h = some x → zex P F (n + 1) k pc lv st h = some x
  | 0, _, _, _, _, _, _, hx => by cases hx
  | n + 1, k, pc, lv, st, h, (r, hE), hx => by
    obtain ⟨en, hP, hc⟩ := zex_inv hx
    unfold zex
    rw [hP]
    dsimp only
    rcases hc with ⟨hc, hb, r1, h1, e1, e2⟩ | ⟨hc, hr, rfl⟩ | ⟨hc, z, hz, e2⟩
    · rw [hc]
      rw [hb, zex_more n _ _ _ _ _ _ e1]
      exact zex_more n _ _ _ _ _ _ e2
    · rw [hc]
      rw [hr]
      rfl
    · rw [hc]
      rw [hz]
      exact zex_more n _ _ _ _ _ _ e2
theorem zex_most {P : Nat → Nat → Option zE} {F : zF} {n n' k pc : Nat} {lv : zL} {st : List Value} {h : zH} {x : Option Value × zH} (hx : zex P F n k pc lv st h = some x) (hn : n ≤ n') : zex P F n' k pc lv st h = some x := by
  obtain ⟨d, rfl⟩ : ∃ d, n' = n + d := ⟨n' - n, by omega⟩
  clear hn
  induction d with
  | zero => exact hx
  | succ d ih => exact zex_more _ _ _ _ _ _ _ ih
def zFle (F F' : zF) : Prop := ∀ j, j < 4 → (F j).1 = 0 ∨ F j = F' j
theorem zstep_F {F F' : zF} (hF : zFle F F') {en : zE} {pc : Nat} {lv : zL} {st : List Value} {h : zH} {z : zS} (hs : zstep F en pc lv st h = some z) : zstep F' en pc lv st h = some z := by
  have ha : ∀ tag kind, zald tag kind F pc lv st h = some z → zald tag kind F' pc lv st h = some z := by
    intro tag kind hs
    rcases zald_inv hs with ⟨j, a, r, lc, v, rfl, h1, h2, h3, h4, rfl⟩ | ⟨j, a, r, rfl, h1, h2, h3, rfl⟩
    · unfold zald
      dsimp only
      rw [h1]
      dsimp only
      rw [if_pos ⟨rfl, h2⟩, h3]
      dsimp only
      rw [if_pos h4]
    · rcases hF a h2 with q | q
      · rw [q] at h3
        have := zin_lt h3
        omega
      · unfold zald
        dsimp only
        rw [← q, if_pos ⟨h1, h2, h3⟩]
  have hl : zalen F pc lv st h = some z → zalen F' pc lv st h = some z := by
    intro hs
    rcases zalen_inv hs with ⟨a, r, t, lc, rfl, h1, h2, h3, rfl⟩ | ⟨a, r, rfl, h1, rfl⟩
    · unfold zalen
      dsimp only
      rw [h1]
      dsimp only
      rw [if_pos ⟨h2, h3⟩]
    · rcases hF a h1.1 with q | q
      · omega
      · unfold zalen
        dsimp only
        rw [← q, if_pos h1]
  unfold zstep at hs ⊢
  cases hi : en.1 <;> rw [hi] at hs <;> dsimp only at hs ⊢ <;> first | exact ha _ _ hs | exact hl hs | exact hs
theorem zex_F {P : Nat → Nat → Option zE} {F F' : zF} (hF : zFle F F') : ∀ (n k pc : Nat) (lv : zL) (st : List Value) (h : zH) (x : Option Value × zH), zex P F n k pc lv st h = some x → zex P F' n k pc lv st h = some x
  | 0, _, _, _, _, _, _, hx => by cases hx
  | n + 1, k, pc, lv, st, h, (r, hE), hx => by
    obtain ⟨en, hP, hc⟩ := zex_inv hx
    unfold zex
    rw [hP]
    dsimp only
    rcases hc with ⟨hc, hb, r1, h1, e1, e2⟩ | ⟨hc, hr, rfl⟩ | ⟨hc, z, hz, e2⟩
    · rw [hc]
      rw [hb, zex_F hF n _ _ _ _ _ _ e1]
      exact zex_F hF n _ _ _ _ _ _ e2
    · rw [hc]
      rw [hr]
      rfl
    · rw [hc]
      rw [zstep_F hF hz]
      exact zex_F hF n _ _ _ _ _ _ e2
