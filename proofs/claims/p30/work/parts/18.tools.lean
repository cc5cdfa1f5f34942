/-! ===== rows for runs over numbers ===== -/
def zF0 : zF := fun j => match j with
  | 0 => (29, zpx)
  | 1 => (29, zpy)
  | 2 => (10, zfc)
  | _ => (0, fun _ => 0)
/-- method k, from a place on, comes to r and the numbers N -/
def yOk (k pc : Nat) (lv : zL) (st : List Value) (M : zMm) (r : Option Value) (N : zMm) : Prop := ∃ n, yex zP zF0 n k pc lv st M = some (r, N)
/-- steps without calls, returns -/
def yadv (k : Nat) : Nat → zT → Option zT
  | 0, z => some z
  | j + 1, z => match zP k z.1 with
    | none => none
    | some e => match zcls e with
      | 2 => (match ystep zF0 e z.1 z.2.1 z.2.2.1 z.2.2.2 with
        | some z' => yadv k j z'
        | none => none)
      | _ => none
theorem yex_inv {n k pc : Nat} {lv : zL} {st : List Value} {M : zMm} {x : Option Value × zMm} (hx : yex zP zF0 (n + 1) k pc lv st M = some x) :
    ∃ en, zP k pc = some en ∧ ((zcls en = 0 ∧ ycallB en lv st = true ∧ ∃ r1 M1, yex zP zF0 n en.2.2.1 0 (lv_args 0 (st.take (en.2.2.2.1 % 16)).reverse) [] M = some (r1, M1) ∧ yex zP zF0 n k (pc + 3) lv (r1.toList ++ st.drop (en.2.2.2.1 % 16)) M1 = some x) ∨
      (zcls en = 1 ∧ ∃ r, zret en.1 en.2.2.1 st = some r ∧ x = (r, M)) ∨ (zcls en = 2 ∧ ∃ z, ystep zF0 en pc lv st M = some z ∧ yex zP zF0 n k z.1 z.2.1 z.2.2.1 z.2.2.2 = some x)) := by
  unfold yex at hx
  split at hx
  · cases hx
  · next en hP =>
    refine ⟨en, hP, ?_⟩
    split at hx
    · next hc =>
      cases hb : ycallB en lv st
      · rw [hb] at hx; cases hx
      · rw [hb] at hx
        simp only [cond_true] at hx
        split at hx
        · next r1 h1 he => exact Or.inl ⟨hc, rfl, r1, h1, he, hx⟩
        · cases hx
    · next hc =>
      split at hx
      · next r1 he =>
        cases hx
        exact Or.inr (Or.inl ⟨hc, r1, he, rfl⟩)
      · cases hx
    · next h0 h1 =>
      have hc : zcls en = 2 := by
        have : zcls en = 0 ∨ zcls en = 1 ∨ zcls en = 2 := by
          unfold zcls
          split <;> first | (split <;> simp) | simp
        rcases this with q | q | q
        · exact absurd q h0
        · exact absurd q h1
        · exact q
      split at hx
      · next z he => exact Or.inr (Or.inr ⟨hc, z, he, hx⟩)
      · cases hx
theorem yex_more : ∀ (n k pc : Nat) (lv : zL) (st : List Value) (M : zMm) (x : Option Value × zMm), yex zP zF0 n k pc lv st M = some x → yex zP zF0 (n + 1) k pc lv st M = some x
  | 0, _, _, _, _, _, _, hx => by cases hx
  | n + 1, k, pc, lv, st, M, x, hx => by
    obtain ⟨en, hP, hc⟩ := yex_inv hx
    unfold yex
    rw [hP]
    dsimp only
    rcases hc with ⟨hc, hb, r1, h1, e1, e2⟩ | ⟨hc, r1, hr, rfl⟩ | ⟨hc, z, hz, e2⟩
    · rw [hc]
      rw [hb, yex_more n _ _ _ _ _ _ e1]
      exact yex_more n _ _ _ _ _ _ e2
    · rw [hc]
      rw [hr]
      rfl
    · rw [hc]
      rw [hz]
      exact yex_more n _ _ _ _ _ _ e2
theorem yex_most {n n' k pc : Nat} {lv : zL} {st : List Value} {M : zMm} {x : Option Value × zMm} (hx : yex zP zF0 n k pc lv st M = some x) (hn : n ≤ n') : yex zP zF0 n' k pc lv st M = some x := by
  obtain ⟨d, rfl⟩ : ∃ d, n' = n + d := ⟨n' - n, by omega⟩
  clear hn
  induction d with
  | zero => exact hx
  | succ d ih => exact yex_more _ _ _ _ _ _ _ ih
theorem yex_adv : ∀ (j n k : Nat) (z z' : zT), yadv k j z = some z' → yex zP zF0 (n + j) k z.1 z.2.1 z.2.2.1 z.2.2.2 = yex zP zF0 n k z'.1 z'.2.1 z'.2.2.1 z'.2.2.2
  | 0, n, k, z, z', h => by cases h; rfl
  | j + 1, n, k, z, z', h => by
    unfold yadv at h
    split at h
    · cases h
    · next e he =>
      split at h
      · next hc =>
        split at h
        · next z1 hz =>
          rw [← yex_adv j n k z1 z' h, show n + (j + 1) = (n + j) + 1 by omega]
          conv => lhs; unfold yex
          rw [he]
          dsimp only
          rw [hc]
          rw [hz]
          rfl
        · cases h
      · cases h
/-- straight on -/
theorem yOk.adv {k pc pc' : Nat} {lv lv' : zL} {st st' : List Value} {M M' N : zMm} {r : Option Value} (j : Nat) (h : yadv k j (pc, lv, st, M) = some (pc', lv', st', M')) (h2 : yOk k pc' lv' st' M' r N) : yOk k pc lv st M r N := by
  obtain ⟨n, hn⟩ := h2
  exact ⟨n + j, (yex_adv j n k _ _ h).trans hn⟩
/-- a call -/
theorem yOk.call {k pc : Nat} {lv vl : zL} {st rest : List Value} {M M1 N : zMm} {r r1 : Option Value} (e : zE) (he : zP k pc = some e) (hc : zcls e = 0) (hb : ycallB e lv st = true) (hv : lv_args 0 (st.take (e.2.2.2.1 % 16)).reverse = vl) (hr : st.drop (e.2.2.2.1 % 16) = rest)
    (h1 : yOk e.2.2.1 0 vl [] M r1 M1) (h2 : yOk k (pc + 3) lv (r1.toList ++ rest) M1 r N) : yOk k pc lv st M r N := by
  obtain ⟨n1, e1⟩ := h1
  obtain ⟨n2, e2⟩ := h2
  refine ⟨max n1 n2 + 1, ?_⟩
  unfold yex
  rw [he]
  dsimp only
  rw [hc]
  rw [hb, hv, hr]
  simp only [cond_true]
  rw [yex_most e1 (Nat.le_max_left _ _)]
  exact yex_most e2 (Nat.le_max_right _ _)
theorem yOk.ret {k pc : Nat} {lv : zL} {st : List Value} {M : zMm} {r : Option Value} (e : zE) (he : zP k pc = some e) (hc : zcls e = 1) (hr : zret e.1 e.2.2.1 st = some r) : yOk k pc lv st M r M := by
  refine ⟨1, ?_⟩
  unfold yex
  rw [he]
  dsimp only
  rw [hc]
  rw [hr]
  rfl
theorem yOk.step {k pc : Nat} {lv : zL} {st : List Value} {M N : zMm} {r : Option Value} (e : zE) (he : zP k pc = some e) (hc : zcls e = 2) (z : zT) (hz : ystep zF0 e pc lv st M = some z) (h2 : yOk k z.1 z.2.1 z.2.2.1 z.2.2.2 r N) : yOk k pc lv st M r N := by
  refine yOk.adv 1 (pc' := z.1) (lv' := z.2.1) (st' := z.2.2.1) (M' := z.2.2.2) ?_ h2
  unfold yadv
  dsimp only
  rw [he]
  dsimp only
  rw [hc]
  rw [hz]
  rfl
/-- a branch on two ints -/
theorem yOk.if2 {k pc : Nat} {lv : zL} {st : List Value} {M N : zMm} {r : Option Value} {x y : Int32} (c : Jvm.ClassFile.Cond) (off : Int) (t b d : Nat) (he : zP k pc = some (.if_icmp c off, 3, t, b, d)) (h1 : zcB c x y = true → yOk k t lv st M r N) (h2 : zcB c x y = false → yOk k (pc + 3) lv st M r N) : yOk k pc lv (.int y :: .int x :: st) M r N := by
  refine yOk.step _ he rfl (bif zcB c x y then t else pc + 3, lv, st, M) rfl ?_
  cases hb : zcB c x y
  · exact h2 hb
  · exact h1 hb
theorem yOk.if1 {k pc : Nat} {lv : zL} {st : List Value} {M N : zMm} {r : Option Value} {x : Int32} (c : Jvm.ClassFile.Cond) (off : Int) (t b d : Nat) (he : zP k pc = some (.ifCond c off, 3, t, b, d)) (h1 : zcB c x 0 = true → yOk k t lv st M r N) (h2 : zcB c x 0 = false → yOk k (pc + 3) lv st M r N) : yOk k pc lv (.int x :: st) M r N := by
  refine yOk.step _ he rfl (bif zcB c x 0 then t else pc + 3, lv, st, M) rfl ?_
  cases hb : zcB c x 0
  · exact h2 hb
  · exact h1 hb
theorem zlt_t {x y : Int32} (h : zcB .lt x y = true) : x < y := of_decide_eq_true h
theorem zlt_f {x y : Int32} (h : zcB .lt x y = false) : ¬ x < y := of_decide_eq_false h
theorem zge_t {x y : Int32} (h : zcB .ge x y = true) : ¬ x < y := of_decide_eq_false (by simpa [zcB] using h)
theorem zge_f {x y : Int32} (h : zcB .ge x y = false) : x < y := of_decide_eq_true (by simpa [zcB] using h)
theorem zgt_t {x y : Int32} (h : zcB .gt x y = true) : y < x := of_decide_eq_true h
theorem zgt_f {x y : Int32} (h : zcB .gt x y = false) : ¬ y < x := of_decide_eq_false h
theorem zle_t {x y : Int32} (h : zcB .le x y = true) : ¬ y < x := of_decide_eq_false (by simpa [zcB] using h)
theorem zle_f {x y : Int32} (h : zcB .le x y = false) : y < x := of_decide_eq_true (by simpa [zcB] using h)
theorem zeq_t {x y : Int32} (h : zcB .eq x y = true) : x = y := of_decide_eq_true h
theorem zeq_f {x y : Int32} (h : zcB .eq x y = false) : ¬ x = y := of_decide_eq_false h
theorem zne_t {x y : Int32} (h : zcB .ne x y = true) : ¬ x = y := of_decide_eq_false (by simpa [zcB] using h)
theorem zne_f {x y : Int32} (h : zcB .ne x y = false) : x = y := of_decide_eq_true (by simpa [zcB] using h)
-- a first one
theorem m_isFrom (x lo hi : Int32) (M : zMm) : yOk 67 0 [(0, .int x), (1, .int lo), (2, .int hi)] [] M (some (.int (if lo ≤ x ∧ x ≤ hi then 1 else 0))) M := by
  refine yOk.adv 2 (pc' := 2) (st' := [.int lo, .int x]) rfl ?_
  refine yOk.if2 .lt _ _ _ _ rfl (fun h => ?_) (fun h => ?_)
  · rw [if_neg (fun q => absurd (zlt_t h) (Int32.not_lt.mpr q.1))]
    refine yOk.adv 1 rfl ?_
    exact yOk.ret _ rfl rfl rfl
  · refine yOk.adv 2 (pc' := 7) (st' := [.int hi, .int x]) rfl ?_
    refine yOk.if2 .gt _ _ _ _ rfl (fun h' => ?_) (fun h' => ?_)
    · rw [if_neg (fun q => absurd (zgt_t h') (Int32.not_lt.mpr q.2))]
      refine yOk.adv 1 rfl ?_
      exact yOk.ret _ rfl rfl rfl
    · rw [if_pos ⟨Int32.not_lt.mp (zlt_f h), Int32.not_lt.mp (zgt_f h')⟩]
      refine yOk.adv 2 rfl ?_
      exact yOk.ret _ rfl rfl rfl
