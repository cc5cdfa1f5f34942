/-! ===== runs with the script ===== -/
theorem yald_F {F F' : zF} (hF : zFle F F') {tag pc : Nat} {lv : zL} {st : List Value} {M : zMm} {z : zT} (hs : yald tag F pc lv st M = some z) : yald tag F' pc lv st M = some z := by
  unfold yald at hs ⊢
  split at hs
  · exact hs
  · next i a r =>
    cases hb : (Nat.beq tag 10 && (Nat.blt a 4 && zin i ((F a).1 - 1)))
    · rw [hb] at hs; cases hs
    · simp only [Bool.and_eq_true] at hb
      have ha : a < 4 := by have := Nat.le_of_ble_eq_true hb.2.1; omega
      rcases hF a ha with q | q
      · have h1 := zin_lt hb.2.2
        rw [q] at h1
        omega
      · rw [← q]; exact hs
  · cases hs
theorem yalen_F {F F' : zF} (hF : zFle F F') {pc : Nat} {lv : zL} {st : List Value} {M : zMm} {z : zT} (hs : yalen F pc lv st M = some z) : yalen F' pc lv st M = some z := by
  unfold yalen at hs ⊢
  split at hs
  · exact hs
  · next a r =>
    cases hb : (Nat.blt a 4 && Nat.blt 0 (F a).1)
    · rw [hb] at hs; cases hs
    · simp only [Bool.and_eq_true] at hb
      have ha : a < 4 := by have := Nat.le_of_ble_eq_true hb.1; omega
      have h0 : 0 < (F a).1 := by have := Nat.le_of_ble_eq_true hb.2; omega
      rcases hF a ha with q | q
      · omega
      · rw [← q]; exact hs
  · cases hs
theorem ystep_F {F F' : zF} (hF : zFle F F') {e : zE} {pc : Nat} {lv : zL} {st : List Value} {M : zMm} {z : zT} (hs : ystep F e pc lv st M = some z) : ystep F' e pc lv st M = some z := by
  unfold ystep at hs ⊢
  have hl : ylift M (zstep F e pc lv st []) = some z → ylift M (zstep F' e pc lv st []) = some z := fun h => by
    obtain ⟨y, h2, rfl⟩ := ylift_inv h
    rw [zstep_F hF h2]
    rfl
  cases hi : e.1 <;> rw [hi] at hs <;> dsimp only at hs ⊢ <;> first | exact yald_F hF hs | exact yalen_F hF hs | exact hl hs | exact hs
theorem yex_F {F F' : zF} (hF : zFle F F') : ∀ (n k pc : Nat) (lv : zL) (st : List Value) (M : zMm) (x : Option Value × zMm), yex zP F n k pc lv st M = some x → yex zP F' n k pc lv st M = some x
  | 0, _, _, _, _, _, _, hx => by cases hx
  | n + 1, k, pc, lv, st, M, x, hx => by
    unfold yex at hx ⊢
    cases hP : zP k pc with
    | none => rw [hP] at hx; cases hx
    | some e =>
      rw [hP] at hx
      dsimp only at hx ⊢
      split at hx
      · next hc =>
        cases hb : ycallB e lv st
        · rw [hb] at hx; cases hx
        · rw [hb] at hx
          simp only [cond_true] at hx ⊢
          split at hx
          · next r1 M1 he =>
            rw [yex_F hF n _ _ _ _ _ _ he]
            exact yex_F hF n _ _ _ _ _ _ hx
          · cases hx
      · exact hx
      · split at hx
        · next z he =>
          rw [ystep_F hF he]
          exact yex_F hF n _ _ _ _ _ _ hx
        · cases hx
section YRF
variable {F : zF}
def yRF (F : zF) (k pc : Nat) (lv : zL) (st : List Value) (M : zMm) (Q : Option Value → zMm → Prop) : Prop := ∃ n r N, yex zP F n k pc lv st M = some (r, N) ∧ Q r N
theorem yexF_more : ∀ (n k pc : Nat) (lv : zL) (st : List Value) (M : zMm) (x : Option Value × zMm), yex zP F n k pc lv st M = some x → yex zP F (n + 1) k pc lv st M = some x
  | 0, _, _, _, _, _, _, hx => by cases hx
  | n + 1, k, pc, lv, st, M, x, hx => by
    unfold yex at hx
    unfold yex
    cases hP : zP k pc with
    | none => rw [hP] at hx; cases hx
    | some e =>
      rw [hP] at hx
      dsimp only at hx ⊢
      split at hx
      · next hc =>
        cases hb : ycallB e lv st
        · rw [hb] at hx; cases hx
        · rw [hb] at hx
          simp only [cond_true] at hx ⊢
          split at hx
          · next r1 M1 he =>
            rw [yexF_more n _ _ _ _ _ _ he]
            exact yexF_more n _ _ _ _ _ _ hx
          · cases hx
      · exact hx
      · split at hx
        · next z he =>
          exact yexF_more n _ _ _ _ _ _ hx
        · cases hx
theorem yexF_most {n n' k pc : Nat} {lv : zL} {st : List Value} {M : zMm} {x : Option Value × zMm} (hx : yex zP F n k pc lv st M = some x) (hn : n ≤ n') : yex zP F n' k pc lv st M = some x := by
  obtain ⟨d, rfl⟩ : ∃ d, n' = n + d := ⟨n' - n, by omega⟩
  clear hn
  induction d with
  | zero => exact hx
  | succ d ih => exact yexF_more _ _ _ _ _ _ _ ih
variable {k pc : Nat} {lv : zL} {st : List Value} {M : zMm} {Q : Option Value → zMm → Prop}
theorem yRF.step (e : zE) (he : zP k pc = some e) (hc : zcls e = 2) (z : zT) (hz : ystep F e pc lv st M = some z) (h2 : yRF F k z.1 z.2.1 z.2.2.1 z.2.2.2 Q) : yRF F k pc lv st M Q := by
  obtain ⟨n, r, N, h3, h4⟩ := h2
  refine ⟨n + 1, r, N, ?_, h4⟩
  unfold yex
  rw [he]
  dsimp only
  rw [hc]
  rw [hz]
  exact h3
def yadvF (F : zF) (k : Nat) : Nat → zT → Option zT
  | 0, z => some z
  | j + 1, z => match zP k z.1 with
    | none => none
    | some e => match zcls e with
      | 2 => (match ystep F e z.1 z.2.1 z.2.2.1 z.2.2.2 with
        | some z' => yadvF F k j z'
        | none => none)
      | _ => none
theorem yRF.advs : ∀ (j : Nat) (z z' : zT), yadvF F k j z = some z' → yRF F k z'.1 z'.2.1 z'.2.2.1 z'.2.2.2 Q → yRF F k z.1 z.2.1 z.2.2.1 z.2.2.2 Q
  | 0, z, z', h, h2 => by cases h; exact h2
  | j + 1, z, z', h, h2 => by
    unfold yadvF at h
    split at h
    · cases h
    · next e he =>
      split at h
      · next hc =>
        split at h
        · next z1 hz => exact yRF.step e he hc z1 hz (yRF.advs j z1 z' h h2)
        · cases h
      · cases h
theorem yRF.adv {pc' : Nat} {lv' : zL} {st' : List Value} {M' : zMm} (j : Nat) (h : yadvF F k j (pc, lv, st, M) = some (pc', lv', st', M')) (h2 : yRF F k pc' lv' st' M' Q) : yRF F k pc lv st M Q := yRF.advs j _ _ h h2
theorem yRF.call {vl : zL} {rest : List Value} {M1 : zMm} {r1 : Option Value} (hF : zFle zF0 F) (e : zE) (he : zP k pc = some e) (hc : zcls e = 0) (hb : ycallB e lv st = true) (hv : lv_args 0 (st.take (e.2.2.2.1 % 16)).reverse = vl) (hr : st.drop (e.2.2.2.1 % 16) = rest)
    (h1 : yOk e.2.2.1 0 vl [] M r1 M1) (h2 : yRF F k (pc + 3) lv (r1.toList ++ rest) M1 Q) : yRF F k pc lv st M Q := by
  obtain ⟨n1, e1⟩ := h1
  obtain ⟨n2, r, N, e2, h4⟩ := h2
  refine ⟨max n1 n2 + 1, r, N, ?_, h4⟩
  unfold yex
  rw [he]
  dsimp only
  rw [hc]
  rw [hb, hv, hr]
  simp only [cond_true]
  rw [yexF_most (yex_F hF _ _ _ _ _ _ _ e1) (Nat.le_max_left _ _)]
  exact yexF_most e2 (Nat.le_max_right _ _)
theorem yRF.ret {r : Option Value} (e : zE) (he : zP k pc = some e) (hc : zcls e = 1) (hr : zret e.1 e.2.2.1 st = some r) (hQ : Q r M) : yRF F k pc lv st M Q := by
  refine ⟨1, r, M, ?_, hQ⟩
  unfold yex
  rw [he]
  dsimp only
  rw [hc]
  rw [hr]
  rfl
theorem yRF.if2 {x y : Int32} (c : Jvm.ClassFile.Cond) (off : Int) (t b d : Nat) (he : zP k pc = some (.if_icmp c off, 3, t, b, d)) (h1 : zcB c x y = true → yRF F k t lv st M Q) (h2 : zcB c x y = false → yRF F k (pc + 3) lv st M Q) : yRF F k pc lv (.int y :: .int x :: st) M Q := by
  refine yRF.step _ he rfl (bif zcB c x y then t else pc + 3, lv, st, M) rfl ?_
  cases hb : zcB c x y
  · exact h2 hb
  · exact h1 hb
theorem yRF.if1 {x : Int32} (c : Jvm.ClassFile.Cond) (off : Int) (t b d : Nat) (he : zP k pc = some (.ifCond c off, 3, t, b, d)) (h1 : zcB c x 0 = true → yRF F k t lv st M Q) (h2 : zcB c x 0 = false → yRF F k (pc + 3) lv st M Q) : yRF F k pc lv (.int x :: st) M Q := by
  refine yRF.step _ he rfl (bif zcB c x 0 then t else pc + 3, lv, st, M) rfl ?_
  cases hb : zcB c x 0
  · exact h2 hb
  · exact h1 hb
theorem yRF.tab {x : Int32} (dflt lo hi : Int) (offs : Array Int) (len a b d : Nat) (he : zP k pc = some (.tableswitch dflt lo hi offs, len, a, b, d)) (off : Int) (t : Nat) (ho : ztab dflt lo hi offs x = some off) (ht : ztgt pc off = some t) (h2 : yRF F k t lv st M Q) : yRF F k pc lv (.int x :: st) M Q := by
  refine yRF.step _ he rfl (t, lv, st, M) ?_ h2
  show ylift M (zsw (ztab dflt lo hi offs) pc lv (.int x :: st) []) = _
  unfold zsw
  dsimp only
  rw [ho]
  dsimp only
  rw [ht]
  rfl
theorem yRF.drop {lv' : zL} (h : zSub lv lv') (h2 : yRF F k pc lv st M Q) : yRF F k pc lv' st M Q := by
  obtain ⟨n, r, N, h3, h4⟩ := h2
  refine ⟨n, r, N, ?_, h4⟩
  have key : ∀ (n k pc : Nat) (lv lv' : zL) (st : List Value) (M : zMm) (x : Option Value × zMm), zSub lv lv' → yex zP F n k pc lv st M = some x → yex zP F n k pc lv' st M = some x := by
    intro n
    induction n with
    | zero => intro k pc lv lv' st M x _ hx; cases hx
    | succ n ih =>
      intro k pc lv lv' st M x h hx
      unfold yex at hx
      unfold yex
      cases hP : zP k pc with
      | none => rw [hP] at hx; cases hx
      | some e =>
        rw [hP] at hx
        dsimp only at hx ⊢
        split at hx
        · next hc =>
          cases hb : ycallB e lv st
          · rw [hb] at hx; cases hx
          · rw [hb] at hx
            have hb' : ycallB e lv' st = true := by
              unfold ycallB at hb ⊢
              simp only [Bool.and_eq_true] at hb ⊢
              exact ⟨hb.1, hb.2.1, hb.2.2.1, h.wf hb.2.2.2.1, hb.2.2.2.2.1, hb.2.2.2.2.2⟩
            rw [hb']
            simp only [cond_true] at hx ⊢
            split at hx
            · next r1 M1 he => exact ih _ _ _ _ _ _ _ h hx
            · cases hx
        · exact hx
        · split at hx
          · next z he =>
            obtain ⟨lv2, g1, g2⟩ := ystep_sub he h
            rw [g2]
            exact ih _ _ _ _ _ _ _ g1 hx
          · cases hx
  exact key n k pc lv lv' st M _ h h3
end YRF
theorem zFF_le (L : Nat) (xs : Nat → Int32) : zFle zF0 (zFF L xs) := fun j hj => by
  have h : j = 0 ∨ j = 1 ∨ j = 2 ∨ j = 3 := by omega
  rcases h with rfl | rfl | rfl | rfl
  · exact Or.inr rfl
  · exact Or.inr rfl
  · exact Or.inr rfl
  · exact Or.inl rfl
/-- a word of the script -/
theorem yRF.sld {k pc : Nat} {lv : zL} {st : List Value} {M : zMm} {Q : Option Value → zMm → Prop} {L : Nat} {xs : Nat → Int32} {x : Int32} (i : Nat) (u v w : Nat) (he : zP k pc = some (.iaload, 1, u, v, w)) (hL : L < 2 ^ 31) (hx : x = nI i) (hi : i < L) (h2 : yRF (zFF L xs) k (pc + 1) lv (.int (xs i) :: st) M Q) : yRF (zFF L xs) k pc lv (.int x :: .retAddr 3 :: st) M Q := by
  subst hx
  refine yRF.step _ he rfl (pc + 1, lv, .int (xs i) :: st, M) ?_ h2
  show yald 10 (zFF L xs) pc lv (.int (nI i) :: .retAddr 3 :: st) M = _
  unfold yald
  dsimp only
  have h1 : zin (nI i) ((zFF L xs 3).1 - 1) = true := by show zin (nI i) (L + 1 - 1) = true; rw [Nat.add_sub_cancel]; exact zin_nI hi hL
  rw [h1, nI_clamp (by omega)]
  rfl
theorem yRF.slen {k pc : Nat} {lv : zL} {st : List Value} {M : zMm} {Q : Option Value → zMm → Prop} {L : Nat} {xs : Nat → Int32} (u v w : Nat) (he : zP k pc = some (.arraylength, 1, u, v, w)) (h2 : yRF (zFF L xs) k (pc + 1) lv (.int (nI L) :: st) M Q) : yRF (zFF L xs) k pc lv (.retAddr 3 :: st) M Q := by
  refine yRF.step _ he rfl (pc + 1, lv, .int (nI L) :: st, M) ?_ h2
  show yalen (zFF L xs) pc lv (.retAddr 3 :: st) M = _
  unfold yalen
  dsimp only
  have h1 : (Nat.blt 3 4 && Nat.blt 0 (zFF L xs 3).1) = true := by
    show (Nat.blt 3 4 && Nat.blt 0 (L + 1)) = true
    rw [Bool.and_eq_true]
    exact ⟨rfl, Nat.ble_eq.mpr (by omega)⟩
  rw [h1]
  rfl
-- the prefix: both constructors
theorem zex_step {F : zF} {n k pc : Nat} {lv : zL} {st : List Value} {h : zH} {x : Option Value × zH} (e : zE) (he : zP k pc = some e) (hc : zcls e = 2) (z : zS) (hz : zstep F e pc lv st h = some z) (h2 : zex zP F n k z.1 z.2.1 z.2.2.1 z.2.2.2 = some x) : zex zP F (n + 1) k pc lv st h = some x := by
  unfold zex
  rw [he]
  dsimp only
  rw [hc]
  rw [hz]
  exact h2
theorem zex_call {F : zF} {n n1 k pc : Nat} {lv vl : zL} {st rest : List Value} {h h1 : zH} {x : Option Value × zH} {r1 : Option Value} (e : zE) (he : zP k pc = some e) (hc : zcls e = 0) (hb : zcallB e lv st h = true) (hv : lv_args 0 (st.take (e.2.2.2.1 % 16)).reverse = vl) (hr : st.drop (e.2.2.2.1 % 16) = rest) (e1 : zex zP F n1 e.2.2.1 0 vl [] h = some (r1, h1)) (e2 : zex zP F n k (pc + 3) lv (r1.toList ++ rest) h1 = some x) : zex zP F (max n1 n + 1) k pc lv st h = some x := by
  unfold zex
  rw [he]
  dsimp only
  rw [hc]
  rw [hb, hv, hr]
  simp only [cond_true]
  rw [zex_most e1 (Nat.le_max_left _ _)]
  exact zex_most e2 (Nat.le_max_right _ _)
/-- the numbers behind both constructors -/
def zM0 : zMm := (fun a i => match a with
  | 1 => if i = 1 ∨ i = 2 then 1 else 0
  | 5 => if i = 1 ∨ i = 2 then 1 else 0
  | 61 => if i = 1 ∨ i = 2 then 1 else 0
  | 65 => if i = 1 ∨ i = 2 then 1 else 0
  | 69 => if i = 1 ∨ i = 2 then 1 else 0
  | 73 => if i = 1 ∨ i = 2 then 1 else 0
  | 77 => if i = 1 ∨ i = 2 then 1 else 0
  | 81 => if i = 1 ∨ i = 2 then 1 else 0
  | 12 => if i = 1 then 1 else if i = 17 ∨ i = 18 then -9 else 0
  | 85 => if i = 0 then -1 else 0
  | 87 => if i = 0 then -1 else 0
  | 89 => if i = 0 then -1 else 0
  | 91 => if i = 0 then -1 else 0
  | 93 => if i = 5 ∨ i = 6 then 1 else 0
  | 99 => -9
  | 103 => -9
  | _ => 0, fun a i => match a with
  | 12 => if i = 16 then 1 else 0
  | 50 => if i = 1 then 1 else 0
  | 51 => if i = 1 then 1 else 0
  | 52 => if i = 1 then 1 else 0
  | 53 => if i = 1 then 1 else 0
  | _ => 0)
