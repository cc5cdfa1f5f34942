/-! ===== locals that are not looked at: a run with fewer is a run with more ===== -/
def zSub (lv lv' : zL) : Prop := (∀ q ∈ lv, zget lv' q.1 = some q.2) ∧ ∀ q ∈ lv', q ∈ lv ∨ zwf 118 q.2 = true
theorem zSub.get {lv lv' : zL} (h : zSub lv lv') {i : Nat} {v : Value} (hg : zget lv i = some v) : zget lv' i = some v := h.1 (i, v) (zget_mem hg)
theorem zget_filter {p : Nat × Value → Bool} : ∀ {lv : zL} {i : Nat} {v : Value}, zget lv i = some v → p (i, v) = true → zget (lv.filter p) i = some v
  | [], _, _, h, _ => by cases h
  | q :: r, i, v, h, hp => by
    unfold zget at h
    split at h
    · next hq =>
      have e : q = (i, v) := by cases q; simp at hq h; simp [hq, h]
      subst e
      rw [List.filter_cons_of_pos hp]
      unfold zget
      rw [if_pos rfl]
    · next hq =>
      have h2 := zget_filter h hp
      by_cases hpq : p q = true
      · rw [List.filter_cons_of_pos hpq]
        unfold zget
        rw [if_neg hq]
        exact h2
      · rw [List.filter_cons_of_neg hpq]
        exact h2
theorem zSub.cons {lv lv' : zL} (h : zSub lv lv') (i : Nat) (v : Value) (p : Nat × Value → Bool) (hp : ∀ q, p q = true → q.1 ≠ i) : zSub ((i, v) :: lv.filter p) ((i, v) :: lv'.filter p) := by
  refine ⟨fun q hq => ?_, fun q hq => ?_⟩
  · rcases List.mem_cons.mp hq with rfl | hq
    · unfold zget
      rw [if_pos rfl]
    · obtain ⟨h1, h2⟩ := List.mem_filter.mp hq
      unfold zget
      rw [if_neg (fun e => hp q h2 e.symm)]
      exact zget_filter (h.1 q h1) h2
  · rcases List.mem_cons.mp hq with rfl | hq
    · exact Or.inl List.mem_cons_self
    · obtain ⟨h1, h2⟩ := List.mem_filter.mp hq
      rcases h.2 q h1 with h3 | h3
      · exact Or.inl (List.mem_cons_of_mem _ (List.mem_filter.mpr ⟨h3, h2⟩))
      · exact Or.inr h3
theorem zSub.st1 {lv lv' : zL} (h : zSub lv lv') (i : Nat) (v : Value) : zSub (zst1 lv i v) (zst1 lv' i v) := h.cons i v _ (fun q hq e => by simp [e] at hq)
theorem zSub.st2 {lv lv' : zL} (h : zSub lv lv') (i : Nat) (v : Value) : zSub (zst2 lv i v) (zst2 lv' i v) := h.cons i v _ (fun q hq e => by simp [e] at hq)
theorem zSub.wf {lv lv' : zL} (h : zSub lv lv') (hw : zwfl 118 lv = true) : zwfl 118 lv' = true := by
  unfold zwfl at *
  rw [List.all_eq_true] at *
  intro q hq
  rcases h.2 q hq with h1 | h1
  · exact hw q h1
  · exact h1
theorem cond_map {α β : Type} (b : Bool) (x : α) (f : α → β) : (bif b then some x else none).map f = bif b then some (f x) else none := by cases b <;> rfl
section YDR
variable {F : zF} {pc : Nat} {st : List Value} {M : zMm}
abbrev zre (lv : zL) (w : zT) : zT := (w.1, lv, w.2.2)
theorem yald_lv (tag : Nat) (lv : zL) : yald tag F pc lv st M = (yald tag F pc [] st M).map (zre lv) := by
  unfold yald
  split
  · split
    · rw [cond_map]
    · rfl
  · rw [cond_map]
  · rfl
theorem yaldq_lv (lv : zL) : yaldq pc lv st M = (yaldq pc [] st M).map (zre lv) := by
  unfold yaldq
  split
  · split
    · next c hc =>
      cases hb : (Nat.beq c.1 13 || (Nat.beq c.1 14 || Nat.beq c.1 15)) && zin _ c.2.1
      · rfl
      · simp only [cond_true]
        split <;> rfl
    · rfl
  · rfl
theorem yastI_lv (lv : zL) : yastI pc lv st M = (yastI pc [] st M).map (zre lv) := by
  unfold yastI
  split
  · split
    · rw [cond_map]
    · rfl
  · rfl
theorem yastZ_lv (lv : zL) : yastZ pc lv st M = (yastZ pc [] st M).map (zre lv) := by
  unfold yastZ
  split
  · split
    · rw [cond_map]
    · rfl
  · rfl
theorem yastL_lv (lv : zL) : yastL pc lv st M = (yastL pc [] st M).map (zre lv) := by
  unfold yastL
  split
  · split
    · rw [cond_map]
    · rfl
  · rfl
theorem yalen_lv (lv : zL) : yalen F pc lv st M = (yalen F pc [] st M).map (zre lv) := by
  unfold yalen
  split
  · split
    · rw [cond_map]
    · rfl
  · rw [cond_map]
  · rfl
theorem ygetf_lv (ci k : Nat) (lv : zL) : ygetf ci k pc lv st M = (ygetf ci k pc [] st M).map (zre lv) := by
  unfold ygetf
  split
  · split
    · rw [cond_map]
    · rfl
  · rfl
theorem yputf_lv (ci k kind : Nat) (lv : zL) : yputf ci k kind pc lv st M = (yputf ci k kind pc [] st M).map (zre lv) := by
  unfold yputf
  split
  · split
    · rw [cond_map]
    · rfl
  · split
    · rw [cond_map]
    · rfl
  · rfl
theorem ycopy_lv (lv : zL) : ycopy pc lv st M = (ycopy pc [] st M).map (zre lv) := by
  unfold ycopy
  split
  · split
    · split <;> rfl
    · rfl
  · rfl
end YDR
theorem zre_ok {f : zL → Option zT} (hf : ∀ lv, f lv = (f []).map (zre lv)) {lv lv' : zL} {z : zT} (hs : f lv = some z) (h : zSub lv lv') : ∃ lv2, zSub z.2.1 lv2 ∧ f lv' = some (z.1, lv2, z.2.2.1, z.2.2.2) := by
  rw [hf lv] at hs
  cases hz : f [] with
  | none => rw [hz] at hs; cases hs
  | some w =>
    rw [hz] at hs
    obtain rfl := Option.some.inj hs
    exact ⟨lv', h, by rw [hf lv', hz]; rfl⟩
theorem zsw_sub {o : Int32 → Option Int} {pc : Nat} {lv lv' : zL} {st : List Value} {h0 : zH} {z : zS} (hs : zsw o pc lv st h0 = some z) (h : zSub lv lv') : ∃ lv2, zSub z.2.1 lv2 ∧ zsw o pc lv' st h0 = some (z.1, lv2, z.2.2.1, z.2.2.2) := by
  unfold zsw at hs
  split at hs
  · next x r =>
    split at hs
    · next off ho =>
      split at hs
      · next t ht =>
        obtain rfl := (Option.some.inj hs).symm
        refine ⟨lv', h, ?_⟩
        unfold zsw
        dsimp only
        rw [ho]
        dsimp only
        rw [ht]
      · cases hs
    · cases hs
  · cases hs
set_option maxHeartbeats 4000000 in
theorem zstep_sub {F : zF} {e : zE} {pc : Nat} {lv lv' : zL} {st : List Value} {z : zS} (hd : zdry e.1 = true) (hs : zstep F e pc lv st [] = some z) (h : zSub lv lv') : ∃ lv2, zSub z.2.1 lv2 ∧ zstep F e pc lv' st [] = some (z.1, lv2, z.2.2.1, z.2.2.2) := by
  unfold zstep at hs ⊢
  cases hi : e.1 <;> rw [hi] at hs hd <;> dsimp only at hs ⊢ <;> first
    | (cases hd; done)
    | (cases hs; done)
    | (obtain rfl := (Option.some.inj hs).symm; exact ⟨lv', h, rfl⟩)
    | (obtain ⟨_, h1, rfl⟩ := zldI_inv hs; exact ⟨lv', h, by unfold zldI; rw [h.get h1]⟩)
    | (obtain ⟨_, h1, rfl⟩ := zldL_inv hs; exact ⟨lv', h, by unfold zldL; rw [h.get h1]⟩)
    | (rcases zldA_inv hs with ⟨_, h1, rfl⟩ | ⟨_, h1, rfl⟩ <;> exact ⟨lv', h, by unfold zldA; rw [h.get h1]⟩)
    | (obtain ⟨_, _, rfl, rfl⟩ := zsI_inv hs; exact ⟨_, h.st1 _ _, rfl⟩)
    | (obtain ⟨_, _, rfl, rfl⟩ := zsL_inv hs; exact ⟨_, h.st2 _ _, rfl⟩)
    | (obtain ⟨_, _, rfl, rfl⟩ := zsA_inv hs; exact ⟨_, h.st1 _ _, rfl⟩)
    | (obtain ⟨_, h1, rfl⟩ := ziinc_inv hs; exact ⟨_, h.st1 _ _, by unfold ziinc; rw [h.get h1]⟩)
    | (obtain ⟨_, _, _, rfl, rfl⟩ := zII_inv hs; exact ⟨lv', h, rfl⟩)
    | (obtain ⟨_, _, _, rfl, h1, rfl⟩ := zIIn_inv hs; exact ⟨lv', h, by unfold zIIn; dsimp only; rw [if_neg h1]⟩)
    | (obtain ⟨_, _, _, rfl, rfl⟩ := zLL_inv hs; exact ⟨lv', h, rfl⟩)
    | (obtain ⟨_, _, _, rfl, h1, rfl⟩ := zLLn_inv hs; exact ⟨lv', h, by unfold zLLn; dsimp only; rw [if_neg h1]⟩)
    | (obtain ⟨_, _, rfl, rfl⟩ := zI_inv hs; exact ⟨lv', h, rfl⟩)
    | (obtain ⟨_, _, rfl, rfl⟩ := zLo_inv hs; exact ⟨lv', h, rfl⟩)
    | (obtain ⟨_, _, _, rfl, rfl⟩ := zlcmp_inv hs; exact ⟨lv', h, rfl⟩)
    | (obtain ⟨_, _, _, rfl, rfl⟩ := zif2_inv hs; exact ⟨lv', h, rfl⟩)
    | (obtain ⟨_, _, rfl, rfl⟩ := zif1_inv hs; exact ⟨lv', h, rfl⟩)
    | exact zsw_sub hs h
    | (obtain ⟨_, _, rfl, h1, rfl⟩ := zdup_inv hs; exact ⟨lv', h, by unfold zdup; dsimp only; rw [if_pos h1]⟩)
    | (obtain ⟨_, _, _, rfl, h1, h2, rfl⟩ := zdup2_inv hs; exact ⟨lv', h, by unfold zdup2; dsimp only; rw [if_pos ⟨h1, h2⟩]⟩)
    | (obtain ⟨_, _, rfl, h1, rfl⟩ := zpop_inv hs; exact ⟨lv', h, by unfold zpop; dsimp only; rw [if_pos h1]⟩)
    | (obtain ⟨_, _, rfl, h1, rfl⟩ := zpop2_inv hs; exact ⟨lv', h, by unfold zpop2; dsimp only; rw [if_pos h1]⟩)
    | (obtain ⟨_, _, rfl, h1, rfl⟩ := zobji_inv hs; exact ⟨lv', h, by unfold zobji; dsimp only; rw [if_pos h1]⟩)
theorem ystep_sub {F : zF} {e : zE} {pc : Nat} {lv lv' : zL} {st : List Value} {M : zMm} {z : zT} (hs : ystep F e pc lv st M = some z) (h : zSub lv lv') : ∃ lv2, zSub z.2.1 lv2 ∧ ystep F e pc lv' st M = some (z.1, lv2, z.2.2.1, z.2.2.2) := by
  unfold ystep at hs
  split at hs
  · next hi => unfold ystep; rw [hi]; exact zre_ok (f := fun lv => yald 10 F pc lv st M) (yald_lv 10) hs h
  · next hi => unfold ystep; rw [hi]; exact zre_ok (f := fun lv => yald 11 F pc lv st M) (yald_lv 11) hs h
  · next hi => unfold ystep; rw [hi]; exact zre_ok (f := fun lv => yald 12 F pc lv st M) (yald_lv 12) hs h
  · next hi => unfold ystep; rw [hi]; exact zre_ok (f := fun lv => yaldq pc lv st M) yaldq_lv hs h
  · next hi => unfold ystep; rw [hi]; exact zre_ok (f := fun lv => yastI pc lv st M) yastI_lv hs h
  · next hi => unfold ystep; rw [hi]; exact zre_ok (f := fun lv => yastZ pc lv st M) yastZ_lv hs h
  · next hi => unfold ystep; rw [hi]; exact zre_ok (f := fun lv => yastL pc lv st M) yastL_lv hs h
  · cases hs
  · next hi => unfold ystep; rw [hi]; exact zre_ok (f := fun lv => yalen F pc lv st M) yalen_lv hs h
  · next hi => unfold ystep; rw [hi]; exact zre_ok (f := fun lv => ygetf e.2.2.1 e.2.2.2.1 pc lv st M) (ygetf_lv _ _) hs h
  · next hi => unfold ystep; rw [hi]; exact zre_ok (f := fun lv => yputf (e.2.2.1 % 16) e.2.2.2.1 (e.2.2.1 / 16) pc lv st M) (yputf_lv _ _ _) hs h
  · cases hs
  · cases hs
  · cases hs
  · cases hs
  · next hi =>
    unfold ystep; rw [hi]
    dsimp only
    split at hs
    · next h1 => exact zre_ok (f := fun lv => ycopy pc lv st M) ycopy_lv hs h
    · next h1 =>
      obtain ⟨y, h2, rfl⟩ := ylift_inv hs
      obtain ⟨x, r, rfl, h3, rfl⟩ := zabsI_inv h2
      refine ⟨lv', h, ?_⟩
      show ylift M (zabsI pc lv' (.int x :: r) []) = _
      unfold zabsI
      dsimp only
      rw [if_pos h3]
      rfl
    · next h1 h2 =>
      obtain ⟨y, h3, rfl⟩ := ylift_inv hs
      obtain ⟨x, r, rfl, h4, rfl⟩ := zabsL_inv h3
      refine ⟨lv', h, ?_⟩
      unfold zabsL
      dsimp only
      rw [if_pos h4]
      rfl
  · next n1 n2 n3 n4 n5 n6 n7 n8 n9 n10 n11 n12 n13 n14 n15 n16 =>
    obtain ⟨y, h2, rfl⟩ := ylift_inv hs
    have hd : zdry e.1 = true := by
      cases hi : e.1 <;> first | rfl | (exfalso; first | exact n1 hi | exact n2 hi | exact n3 hi | exact n4 hi | exact n5 hi | exact n6 hi | exact n7 hi | exact n8 hi | exact n9 hi | exact n10 _ hi | exact n11 _ hi | exact n12 _ hi | exact n13 _ hi | exact n14 _ hi | exact n15 _ _ hi | exact n16 _ hi)
    obtain ⟨lv2, g1, g2⟩ := zstep_sub hd h2 h
    refine ⟨lv2, g1, ?_⟩
    unfold ystep
    split
    all_goals first
      | (next hi => exact absurd hi n1)
      | (next hi => exact absurd hi n2)
      | (next hi => exact absurd hi n3)
      | (next hi => exact absurd hi n4)
      | (next hi => exact absurd hi n5)
      | (next hi => exact absurd hi n6)
      | (next hi => exact absurd hi n7)
      | (next hi => exact absurd hi n8)
      | (next hi => exact absurd hi n9)
      | (next hi => exact absurd hi (n10 _))
      | (next hi => exact absurd hi (n11 _))
      | (next hi => exact absurd hi (n12 _))
      | (next hi => exact absurd hi (n13 _))
      | (next hi => exact absurd hi (n14 _))
      | (next hi => exact absurd hi (n15 _ _))
      | (next hi => exact absurd hi (n16 _))
      | (rw [g2]; rfl)
theorem yex_sub : ∀ (n k pc : Nat) (lv lv' : zL) (st : List Value) (M : zMm) (x : Option Value × zMm), zSub lv lv' → yex zP zF0 n k pc lv st M = some x → yex zP zF0 n k pc lv' st M = some x
  | 0, _, _, _, _, _, _, _, _, hx => by cases hx
  | n + 1, k, pc, lv, lv', st, M, x, h, hx => by
    obtain ⟨en, hP, hc⟩ := yex_inv hx
    unfold yex
    rw [hP]
    dsimp only
    rcases hc with ⟨hc, hb, r1, h1, e1, e2⟩ | ⟨hc, r1, hr, rfl⟩ | ⟨hc, z, hz, e2⟩
    · rw [hc]
      have hb' : ycallB en lv' st = true := by
        unfold ycallB at hb ⊢
        simp only [Bool.and_eq_true] at hb ⊢
        exact ⟨hb.1, hb.2.1, hb.2.2.1, h.wf hb.2.2.2.1, hb.2.2.2.2.1, hb.2.2.2.2.2⟩
      rw [hb', e1]
      exact yex_sub n _ _ _ _ _ _ _ h e2
    · rw [hc]
      rw [hr]
      rfl
    · rw [hc]
      obtain ⟨lv2, g1, g2⟩ := ystep_sub hz h
      rw [g2]
      exact yex_sub n _ _ _ _ _ _ _ g1 e2
/-- fewer locals -/
theorem yOk.drop {k pc : Nat} {lv lv' : zL} {st : List Value} {M N : zMm} {r : Option Value} (h : zSub lv lv') (h2 : yOk k pc lv st M r N) : yOk k pc lv' st M r N := by
  obtain ⟨n, hn⟩ := h2
  exact ⟨n, yex_sub n k pc lv lv' st M _ h hn⟩
