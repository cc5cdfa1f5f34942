/-! ===== runs with what holds behind them ===== -/
def yR (k pc : Nat) (lv : zL) (st : List Value) (M : zMm) (Q : Option Value → zMm → Prop) : Prop := ∃ r N, yOk k pc lv st M r N ∧ Q r N
section YRR
variable {k pc : Nat} {lv : zL} {st : List Value} {M : zMm} {Q : Option Value → zMm → Prop}
theorem yR.mono {Q' : Option Value → zMm → Prop} (h : yR k pc lv st M Q') (hQ : ∀ r N, Q' r N → Q r N) : yR k pc lv st M Q := by
  obtain ⟨r, N, h1, h2⟩ := h
  exact ⟨r, N, h1, hQ r N h2⟩
theorem yR.of {r : Option Value} {N : zMm} (h : yOk k pc lv st M r N) (hQ : Q r N) : yR k pc lv st M Q := ⟨r, N, h, hQ⟩
theorem yR.adv {pc' : Nat} {lv' : zL} {st' : List Value} {M' : zMm} (j : Nat) (h : yadv k j (pc, lv, st, M) = some (pc', lv', st', M')) (h2 : yR k pc' lv' st' M' Q) : yR k pc lv st M Q := by
  obtain ⟨r, N, h3, h4⟩ := h2
  exact ⟨r, N, yOk.adv j h h3, h4⟩
theorem yR.call {vl : zL} {rest : List Value} {Q1 : Option Value → zMm → Prop} (e : zE) (he : zP k pc = some e) (hc : zcls e = 0) (hb : ycallB e lv st = true) (hv : lv_args 0 (st.take (e.2.2.2.1 % 16)).reverse = vl) (hr : st.drop (e.2.2.2.1 % 16) = rest)
    (h1 : yR e.2.2.1 0 vl [] M Q1) (h2 : ∀ r1 M1, Q1 r1 M1 → yR k (pc + 3) lv (r1.toList ++ rest) M1 Q) : yR k pc lv st M Q := by
  obtain ⟨r1, M1, h3, h4⟩ := h1
  obtain ⟨r, N, h5, h6⟩ := h2 r1 M1 h4
  exact ⟨r, N, yOk.call e he hc hb hv hr h3 h5, h6⟩
theorem yR.callK {vl : zL} {rest : List Value} {M1 : zMm} {r1 : Option Value} (e : zE) (he : zP k pc = some e) (hc : zcls e = 0) (hb : ycallB e lv st = true) (hv : lv_args 0 (st.take (e.2.2.2.1 % 16)).reverse = vl) (hr : st.drop (e.2.2.2.1 % 16) = rest)
    (h1 : yOk e.2.2.1 0 vl [] M r1 M1) (h2 : yR k (pc + 3) lv (r1.toList ++ rest) M1 Q) : yR k pc lv st M Q := by
  obtain ⟨r, N, h5, h6⟩ := h2
  exact ⟨r, N, yOk.call e he hc hb hv hr h1 h5, h6⟩
theorem yR.ret {r : Option Value} (e : zE) (he : zP k pc = some e) (hc : zcls e = 1) (hr : zret e.1 e.2.2.1 st = some r) (hQ : Q r M) : yR k pc lv st M Q := ⟨r, M, yOk.ret e he hc hr, hQ⟩
theorem yR.if2 {x y : Int32} (c : Jvm.ClassFile.Cond) (off : Int) (t b d : Nat) (he : zP k pc = some (.if_icmp c off, 3, t, b, d)) (h1 : zcB c x y = true → yR k t lv st M Q) (h2 : zcB c x y = false → yR k (pc + 3) lv st M Q) : yR k pc lv (.int y :: .int x :: st) M Q := by
  cases hb : zcB c x y
  · obtain ⟨r, N, h3, h4⟩ := h2 hb
    exact ⟨r, N, yOk.if2 c off t b d he (fun q => by rw [hb] at q; cases q) (fun _ => h3), h4⟩
  · obtain ⟨r, N, h3, h4⟩ := h1 hb
    exact ⟨r, N, yOk.if2 c off t b d he (fun _ => h3) (fun q => by rw [hb] at q; cases q), h4⟩
theorem yR.if1 {x : Int32} (c : Jvm.ClassFile.Cond) (off : Int) (t b d : Nat) (he : zP k pc = some (.ifCond c off, 3, t, b, d)) (h1 : zcB c x 0 = true → yR k t lv st M Q) (h2 : zcB c x 0 = false → yR k (pc + 3) lv st M Q) : yR k pc lv (.int x :: st) M Q := by
  cases hb : zcB c x 0
  · obtain ⟨r, N, h3, h4⟩ := h2 hb
    exact ⟨r, N, yOk.if1 c off t b d he (fun q => by rw [hb] at q; cases q) (fun _ => h3), h4⟩
  · obtain ⟨r, N, h3, h4⟩ := h1 hb
    exact ⟨r, N, yOk.if1 c off t b d he (fun _ => h3) (fun q => by rw [hb] at q; cases q), h4⟩
theorem yR.drop {lv' : zL} (h : zSub lv lv') (h2 : yR k pc lv st M Q) : yR k pc lv' st M Q := by
  obtain ⟨r, N, h3, h4⟩ := h2
  exact ⟨r, N, yOk.drop h h3, h4⟩
theorem yR.lrem {x y : Int64} (a b d : Nat) (he : zP k pc = some (.lrem, 1, a, b, d)) (hy : ¬ y = 0) (h2 : yR k (pc + 1) lv (.long (x - x / y * y) :: st) M Q) : yR k pc lv (.long y :: .long x :: st) M Q := by
  obtain ⟨r, N, h3, h4⟩ := h2
  exact ⟨r, N, yOk.lrem a b d he hy h3, h4⟩
theorem yR.ldiv {x y : Int64} (a b d : Nat) (he : zP k pc = some (.ldiv, 1, a, b, d)) (hy : ¬ y = 0) (h2 : yR k (pc + 1) lv (.long (x / y) :: st) M Q) : yR k pc lv (.long y :: .long x :: st) M Q := by
  obtain ⟨r, N, h3, h4⟩ := h2
  exact ⟨r, N, yOk.ldiv a b d he hy h3, h4⟩
theorem yR.idiv {x y : Int32} (a b d : Nat) (he : zP k pc = some (.idiv, 1, a, b, d)) (hy : ¬ y = 0) (h2 : yR k (pc + 1) lv (.int (x / y) :: st) M Q) : yR k pc lv (.int y :: .int x :: st) M Q := by
  obtain ⟨r, N, h3, h4⟩ := h2
  exact ⟨r, N, yOk.idiv a b d he hy h3, h4⟩
theorem yR.irem {x y : Int32} (a b d : Nat) (he : zP k pc = some (.irem, 1, a, b, d)) (hy : ¬ y = 0) (h2 : yR k (pc + 1) lv (.int (x - x / y * y) :: st) M Q) : yR k pc lv (.int y :: .int x :: st) M Q := by
  obtain ⟨r, N, h3, h4⟩ := h2
  exact ⟨r, N, yOk.irem a b d he hy h3, h4⟩
theorem yR.iald {x : Int32} {a n : Nat} (i : Nat) (u v w : Nat) (he : zP k pc = some (.iaload, 1, u, v, w)) (hc : zlay[a]? = some (10, n, [])) (hn : n < 2 ^ 31) (hx : x = nI i) (hi : i < n) (h2 : yR k (pc + 1) lv (.int (M.1 a i) :: st) M Q) : yR k pc lv (.int x :: .ref a :: st) M Q := by
  subst hx
  obtain ⟨r, N, h3, h4⟩ := h2
  exact ⟨r, N, yOk.iald u v w he hc (zin_nI hi hn) (by rw [nI_clamp (by omega)]; exact h3), h4⟩
theorem yR.bald {x : Int32} {a n : Nat} (i : Nat) (u v w : Nat) (he : zP k pc = some (.baload, 1, u, v, w)) (hc : zlay[a]? = some (12, n, [])) (hn : n < 2 ^ 31) (hx : x = nI i) (hi : i < n) (h2 : yR k (pc + 1) lv (.int (M.1 a i) :: st) M Q) : yR k pc lv (.int x :: .ref a :: st) M Q := by
  subst hx
  obtain ⟨r, N, h3, h4⟩ := h2
  exact ⟨r, N, yOk.bald u v w he hc (zin_nI hi hn) (by rw [nI_clamp (by omega)]; exact h3), h4⟩
theorem yR.lald {x : Int32} {a n : Nat} (i : Nat) (u v w : Nat) (he : zP k pc = some (.laload, 1, u, v, w)) (hc : zlay[a]? = some (11, n, [])) (hn : n < 2 ^ 31) (hx : x = nI i) (hi : i < n) (h2 : yR k (pc + 1) lv (.long (M.2 a i) :: st) M Q) : yR k pc lv (.int x :: .ref a :: st) M Q := by
  subst hx
  obtain ⟨r, N, h3, h4⟩ := h2
  exact ⟨r, N, yOk.lald u v w he hc (zin_nI hi hn) (by rw [nI_clamp (by omega)]; exact h3), h4⟩
theorem yR.fald {x : Int32} {a : Nat} (i : Nat) (u v w : Nat) (he : zP k pc = some (.iaload, 1, u, v, w)) (ha : Nat.blt a 4 = true) (hn : (zF0 a).1 - 1 < 2 ^ 31) (hx : x = nI i) (hi : i < (zF0 a).1 - 1) (h2 : yR k (pc + 1) lv (.int ((zF0 a).2 i) :: st) M Q) : yR k pc lv (.int x :: .retAddr a :: st) M Q := by
  subst hx
  obtain ⟨r, N, h3, h4⟩ := h2
  exact ⟨r, N, yOk.fald u v w he ha (zin_nI hi hn) (by rw [nI_clamp (by omega)]; exact h3), h4⟩
theorem yR.iast {x z : Int32} {a n : Nat} (i : Nat) (u v w : Nat) (he : zP k pc = some (.iastore, 1, u, v, w)) (hc : zlay[a]? = some (10, n, [])) (hn : n < 2 ^ 31) (hx : x = nI i) (hi : i < n) (h2 : yR k (pc + 1) lv st (zup M a i z) Q) : yR k pc lv (.int z :: .int x :: .ref a :: st) M Q := by
  subst hx
  obtain ⟨r, N, h3, h4⟩ := h2
  exact ⟨r, N, yOk.iast u v w he hc (zin_nI hi hn) (by rw [nI_clamp (by omega)]; exact h3), h4⟩
theorem yR.last {x : Int32} {z : Int64} {a n : Nat} (i : Nat) (u v w : Nat) (he : zP k pc = some (.lastore, 1, u, v, w)) (hc : zlay[a]? = some (11, n, [])) (hn : n < 2 ^ 31) (hx : x = nI i) (hi : i < n) (h2 : yR k (pc + 1) lv st (zupL M a i z) Q) : yR k pc lv (.long z :: .int x :: .ref a :: st) M Q := by
  subst hx
  obtain ⟨r, N, h3, h4⟩ := h2
  exact ⟨r, N, yOk.last u v w he hc (zin_nI hi hn) (by rw [nI_clamp (by omega)]; exact h3), h4⟩
theorem yR.tab {x : Int32} (dflt lo hi : Int) (offs : Array Int) (len a b d : Nat) (he : zP k pc = some (.tableswitch dflt lo hi offs, len, a, b, d)) (off : Int) (t : Nat) (ho : ztab dflt lo hi offs x = some off) (ht : ztgt pc off = some t) (h2 : yR k t lv st M Q) : yR k pc lv (.int x :: st) M Q := by
  obtain ⟨r, N, h3, h4⟩ := h2
  exact ⟨r, N, yOk.tab dflt lo hi offs len a b d he off t ho ht h3, h4⟩
theorem yR.row {x : Int32} (s : Nat) (u v w : Nat) (he : zP k pc = some (.aaload, 1, u, v, w)) (hx : x = nI s) (hs : s < 28) (h2 : yR k (pc + 1) lv (.ref (18 + s) :: st) M Q) : yR k pc lv (.int x :: .ref 17 :: st) M Q := by
  subst hx
  obtain ⟨r, N, h3, h4⟩ := h2
  refine ⟨r, N, yOk.step _ he rfl (pc + 1, lv, .ref (18 + s) :: st, M) ?_ h3, h4⟩
  show yaldq pc lv (.int (nI s) :: .ref 17 :: st) M = _
  unfold yaldq
  have hl : zlay[17]? = some (15, 28, [20, 21, 22, 23, 24, 25, 26, 27, 28, 29, 30, 31, 32, 33, 34, 35, 36, 37, 38, 39, 40, 41, 42, 43, 44, 45, 46, 47]) := rfl
  have hg : ∀ s, s < 28 → [20, 21, 22, 23, 24, 25, 26, 27, 28, 29, 30, 31, 32, 33, 34, 35, 36, 37, 38, 39, 40, 41, 42, 43, 44, 45, 46, 47].getD s 0 = (18 + s) + 2 := by decide
  dsimp only
  rw [hl]
  dsimp only
  rw [zin_nI hs (by decide), nI_clamp (by omega), hg s hs]
  rfl
end YRR
theorem zrow_lay : ∀ s, s < 28 → zlay[18 + s]? = some (11, 21, []) := by decide
-- what is the same
def zKp (A : List Nat) (B : List (Nat × Nat)) (M N : zMm) : Prop := ∀ a i, a ∉ A → (a, i) ∉ B → N.1 a i = M.1 a i ∧ N.2 a i = M.2 a i
theorem zKp.refl (A : List Nat) (B : List (Nat × Nat)) (M : zMm) : zKp A B M M := fun _ _ _ _ => ⟨rfl, rfl⟩
theorem zKp.trans {A : List Nat} {B : List (Nat × Nat)} {M N O : zMm} (h1 : zKp A B M N) (h2 : zKp A B N O) : zKp A B M O := fun a i x y => ⟨(h2 a i x y).1.trans (h1 a i x y).1, (h2 a i x y).2.trans (h1 a i x y).2⟩
theorem zKp.mono {A A' : List Nat} {B B' : List (Nat × Nat)} {M N : zMm} (h : zKp A B M N) (hA : ∀ a, a ∈ A → a ∈ A') (hB : ∀ a i, (a, i) ∈ B → a ∈ A' ∨ (a, i) ∈ B') : zKp A' B' M N := fun a i x y => h a i (fun q => x (hA a q)) (fun q => (hB a i q).elim x y)
theorem zKp.up {A : List Nat} {B : List (Nat × Nat)} {M N : zMm} (h : zKp A B M N) {a i : Nat} {x : Int32} (hm : a ∈ A ∨ (a, i) ∈ B) : zKp A B M (zup N a i x) := fun a' i' p q => by
  have h1 := h a' i' p q
  refine ⟨?_, h1.2⟩
  show (if a' = a ∧ i' = i then x else N.1 a' i') = _
  rw [if_neg (fun e => by
    rw [e.1, e.2] at q
    rw [e.1] at p
    exact hm.elim p q)]
  exact h1.1
theorem zKp.upL {A : List Nat} {B : List (Nat × Nat)} {M N : zMm} (h : zKp A B M N) {a i : Nat} {x : Int64} (hm : a ∈ A ∨ (a, i) ∈ B) : zKp A B M (zupL N a i x) := fun a' i' p q => by
  have h1 := h a' i' p q
  refine ⟨h1.1, ?_⟩
  show (if a' = a ∧ i' = i then x else N.2 a' i') = _
  rw [if_neg (fun e => by
    rw [e.1, e.2] at q
    rw [e.1] at p
    exact hm.elim p q)]
  exact h1.2
theorem zup_i (M : zMm) (a i : Nat) (x : Int32) (a' i' : Nat) : (zup M a i x).1 a' i' = if a' = a ∧ i' = i then x else M.1 a' i' := rfl
theorem zup_l (M : zMm) (a i : Nat) (x : Int32) : (zup M a i x).2 = M.2 := rfl
theorem zupL_i (M : zMm) (a i : Nat) (x : Int64) : (zupL M a i x).1 = M.1 := rfl
theorem zupL_l (M : zMm) (a i : Nat) (x : Int64) (a' i' : Nat) : (zupL M a i x).2 a' i' = if a' = a ∧ i' = i then x else M.2 a' i' := rfl
theorem zFr.E {c f ax ay : Nat} {M N : zMm} (h : zFr c f ax ay M N) : zKp [ax, ay] [(c, f)] M N := fun a i p q => by
  simp only [List.mem_cons, List.not_mem_nil, or_false, not_or, Prod.mk.injEq, not_and] at p q
  refine ⟨h.1 a i p.1 p.2 ?_, by rw [h.2]⟩
  by_cases e : a = c
  · exact Or.inr (q e)
  · exact Or.inl e
-- ints and longs by whole numbers
def iI (z : Int) : Int32 := Int32.ofInt z
def lI (z : Int) : Int64 := Int64.ofInt z
abbrev zb32 (z : Int) : Prop := -2147483648 ≤ z ∧ z ≤ 2147483647
abbrev zb64 (z : Int) : Prop := -9223372036854775808 ≤ z ∧ z ≤ 9223372036854775807
theorem iI_toInt {z : Int} (h : zb32 z) : (iI z).toInt = z := Int32.toInt_ofInt_of_le (by have := h.1; simpa using this) (by have := h.2; omega)
theorem lI_toInt {z : Int} (h : zb64 z) : (lI z).toInt = z := Int64.toInt_ofInt_of_le (by have := h.1; simpa using this) (by have := h.2; omega)
theorem iI_add (a b : Int) : iI a + iI b = iI (a + b) := (Int32.ofInt_add a b).symm
theorem iI_sub (a b : Int) : iI a - iI b = iI (a - b) := (Int32.ofInt_sub a b).symm
theorem iI_mul (a b : Int) : iI a * iI b = iI (a * b) := (Int32.ofInt_mul a b).symm
theorem iI_neg (a : Int) : - iI a = iI (-a) := (Int32.ofInt_neg a).symm
theorem lI_add (a b : Int) : lI a + lI b = lI (a + b) := (Int64.ofInt_add a b).symm
theorem lI_sub (a b : Int) : lI a - lI b = lI (a - b) := (Int64.ofInt_sub a b).symm
theorem lI_mul (a b : Int) : lI a * lI b = lI (a * b) := (Int64.ofInt_mul a b).symm
theorem lI_neg (a : Int) : - lI a = lI (-a) := (Int64.ofInt_neg a).symm
theorem iI_of (x : Int32) : iI x.toInt = x := Int32.ofInt_toInt x
theorem lI_of (x : Int64) : lI x.toInt = x := Int64.ofInt_toInt x
theorem nI_iI (n : Nat) : nI n = iI n := by unfold nI iI; exact Int32.ofInt_eq_ofNat.symm
theorem iI_l {z : Int} (h : zb32 z) : (iI z).toInt64 = lI z := by rw [← lI_of (iI z).toInt64, Int32.toInt_toInt64, iI_toInt h]
theorem lI_i {z : Int} (h : zb64 z) (h' : zb32 z) : (lI z).toInt32 = iI z := by
  unfold lI iI
  exact Int64.toInt32_ofInt
def zrel (c : Jvm.ClassFile.Cond) (x y : Int) : Prop := match c with
  | .eq => x = y
  | .ne => ¬ x = y
  | .lt => x < y
  | .ge => y ≤ x
  | .gt => y < x
  | .le => x ≤ y
theorem zcT {c : Jvm.ClassFile.Cond} {x y : Int32} (h : zcB c x y = true) {a b : Int} (hx : x.toInt = a) (hy : y.toInt = b) : zrel c a b := by
  subst hx hy
  cases c
  · exact Int32.toInt_inj.mpr (zeq_t h)
  · exact fun e => zne_t h (Int32.toInt_inj.mp e)
  · exact Int32.lt_iff_toInt_lt.mp (zlt_t h)
  · exact Int32.le_iff_toInt_le.mp (Int32.not_lt.mp (zge_t h))
  · exact Int32.lt_iff_toInt_lt.mp (zgt_t h)
  · exact Int32.le_iff_toInt_le.mp (Int32.not_lt.mp (zle_t h))
theorem zcF {c : Jvm.ClassFile.Cond} {x y : Int32} (h : zcB c x y = false) {a b : Int} (hx : x.toInt = a) (hy : y.toInt = b) : ¬ zrel c a b := by
  subst hx hy
  cases c
  · exact fun e => zeq_f h (Int32.toInt_inj.mp e)
  · exact fun e => e (Int32.toInt_inj.mpr (zne_f h))
  · exact fun e => zlt_f h (Int32.lt_iff_toInt_lt.mpr e)
  · exact fun e => absurd (zge_f h) (Int32.not_lt.mpr (Int32.le_iff_toInt_le.mpr e))
  · exact fun e => zgt_f h (Int32.lt_iff_toInt_lt.mpr e)
  · exact fun e => absurd (zle_f h) (Int32.not_lt.mpr (Int32.le_iff_toInt_le.mpr e))
theorem lg_toInt (x y : Int64) : (lg_cmp x y).toInt = if x.toInt < y.toInt then -1 else if y.toInt < x.toInt then 1 else 0 := by
  have h1 := zlc_lt x y
  have h2 := zlc_gt x y
  by_cases p : x < y
  · have p' := Int64.lt_iff_toInt_lt.mp p
    rw [decide_eq_true p] at h1
    have := zcT h1 rfl rfl
    rw [if_pos p']
    unfold lg_cmp
    have n1 : ¬ y < x := fun z => by have := Int64.lt_iff_toInt_lt.mp z; omega
    have n2 : ¬ x = y := fun z => by rw [z] at p'; omega
    simp [n1, n2]
  · have p' : ¬ x.toInt < y.toInt := fun q => p (Int64.lt_iff_toInt_lt.mpr q)
    rw [if_neg p']
    by_cases q : y < x
    · have q' := Int64.lt_iff_toInt_lt.mp q
      rw [if_pos q']
      have e : ¬ x = y := fun e => by rw [e] at q'; omega
      unfold lg_cmp
      simp [p, q, e]
    · have q' : ¬ y.toInt < x.toInt := fun z => q (Int64.lt_iff_toInt_lt.mpr z)
      rw [if_neg q']
      have e : x = y := Int64.toInt_inj.mp (by omega)
      unfold lg_cmp
      simp [p, e]
/-- a branch behind lcmp -/
theorem zlT {c : Jvm.ClassFile.Cond} {x y : Int64} (h : zcB c (lg_cmp x y) 0 = true) {a b : Int} (hx : x.toInt = a) (hy : y.toInt = b) : zrel c a b := by
  subst hx hy
  have h1 := zcT h (lg_toInt x y) (show (0 : Int32).toInt = 0 from rfl)
  cases c <;> (simp only [zrel] at h1 ⊢; split at h1 <;> first | omega | (split at h1 <;> omega))
theorem zlF {c : Jvm.ClassFile.Cond} {x y : Int64} (h : zcB c (lg_cmp x y) 0 = false) {a b : Int} (hx : x.toInt = a) (hy : y.toInt = b) : ¬ zrel c a b := by
  subst hx hy
  have h1 := zcF h (lg_toInt x y) (show (0 : Int32).toInt = 0 from rfl)
  cases c <;> (simp only [zrel] at h1 ⊢; split at h1 <;> first | omega | (split at h1 <;> omega))
theorem yR.alen {k pc : Nat} {lv : zL} {st : List Value} {M : zMm} {Q : Option Value → zMm → Prop} {a n : Nat} (u v w : Nat) (he : zP k pc = some (.arraylength, 1, u, v, w)) (hc : zlay[a]? = some (11, n, [])) (h2 : yR k (pc + 1) lv (.int (nI n) :: st) M Q) : yR k pc lv (.ref a :: st) M Q := by
  obtain ⟨r, N, h3, h4⟩ := h2
  refine ⟨r, N, yOk.step _ he rfl (pc + 1, lv, .int (nI n) :: st, M) ?_ h3, h4⟩
  show yalen zF0 pc lv (.ref a :: st) M = _
  unfold yalen
  dsimp only
  rw [hc]
  rfl
