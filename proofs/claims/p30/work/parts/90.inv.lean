/-! ===== what every call keeps ===== -/
theorem zlow {A : List Nat} {B : List (Nat × Nat)} {M N : zMm} (e : zKp A B M N) (h : (A.all (fun a => decide (a < 93)) && B.all (fun p => decide (p.1 < 93))) = true) : ∀ a i, 93 ≤ a → N.1 a i = M.1 a i := fun a i ha => by
  obtain ⟨h1, h2⟩ := Bool.and_eq_true_iff.mp h
  refine (e a i (fun z => ?_) (fun z => ?_)).1
  · have := of_decide_eq_true (List.all_eq_true.mp h1 a z)
    omega
  · have := of_decide_eq_true (List.all_eq_true.mp h2 (a, i) z)
    simp only at this
    omega
theorem zm0 : zRm 0 1 1 zM0 [] := ⟨⟨rfl, by decide, fun p e h => by simp at h⟩, fun e he => (by simp at he), rfl, rfl, rfl, by decide, by decide, by decide⟩
theorem zr0 {N : zMm} (h : ∀ a i, 93 ≤ a → N.1 a i = zM0.1 a i) : zRr 0 1 1 N [] := ⟨⟨by rw [h 93 7 (by omega)]; rfl, by decide, fun p e h => by simp at h⟩, fun e he => (by simp at he), by rw [h 93 4 (by omega)]; rfl, by rw [h 93 5 (by omega)]; rfl, by rw [h 93 6 (by omega)]; rfl, by decide, by decide, by decide⟩
theorem zcases4 (s : Int32) (h : 0 ≤ s.toInt ∧ s.toInt ≤ 3) : s = 0 ∨ s = 1 ∨ s = 2 ∨ s = 3 := by
  have e : ∀ n : Int, s.toInt = n → s = iI n := fun n hn => by rw [← hn, iI_of]
  have hc : s.toInt = 0 ∨ s.toInt = 1 ∨ s.toInt = 2 ∨ s.toInt = 3 := by omega
  rcases hc with z | z | z | z
  · exact Or.inl (e 0 z)
  · exact Or.inr (Or.inl (e 1 z))
  · exact Or.inr (Or.inr (Or.inl (e 2 z)))
  · exact Or.inr (Or.inr (Or.inr (e 3 z)))
theorem zcases6 (s : Int32) (h : 0 ≤ s.toInt ∧ s.toInt ≤ 5) : s = 0 ∨ s = 1 ∨ s = 2 ∨ s = 3 ∨ s = 4 ∨ s = 5 := by
  have e : ∀ n : Int, s.toInt = n → s = iI n := fun n hn => by rw [← hn, iI_of]
  have hc : s.toInt = 0 ∨ s.toInt = 1 ∨ s.toInt = 2 ∨ s.toInt = 3 ∨ s.toInt = 4 ∨ s.toInt = 5 := by omega
  rcases hc with z | z | z | z | z | z
  · exact Or.inl (e 0 z)
  · exact Or.inr (Or.inl (e 1 z))
  · exact Or.inr (Or.inr (Or.inl (e 2 z)))
  · exact Or.inr (Or.inr (Or.inr (Or.inl (e 3 z))))
  · exact Or.inr (Or.inr (Or.inr (Or.inr (Or.inl (e 4 z)))))
  · exact Or.inr (Or.inr (Or.inr (Or.inr (Or.inr (e 5 z)))))
def zKpt (M : zMm) (k : Nat) : Prop := (M.1 55 k = 0 ∧ M.1 103 k = -9) ∨ (¬ M.1 55 k = 0 ∧ ∃ (dom : Nat) (q W : Int) (L : zPl), zRu (61 + 4 * k) 3 (62 + 4 * k) (63 + 4 * k) (64 + 4 * k) M L ∧ zLok L ∧ M.1 (61 + 4 * k) 0 = nI dom ∧ M.1 (61 + 4 * k) 1 = iI q ∧ M.1 (61 + 4 * k) 2 = iI W ∧ (dom < 3 ∧ (1 ≤ q ∧ q ≤ 12) ∧ (1 ≤ W ∧ W ≤ 10000)) ∧ M.1 103 k = nI L.length ∧ M.1 104 k = nI dom ∧ M.1 105 k = iI q ∧ M.1 106 k = iI W ∧ ∀ p e, L[p]? = some e → M.1 107 (24 * k + p) = e.1.1 ∧ M.1 108 (24 * k + p) = e.1.2 ∧ M.1 109 (24 * k + p) = e.2)
def zSht (M : zMm) (k : Nat) : Prop := (M.1 (85 + 2 * k) 0 = -1 ∧ M.1 99 k = -9) ∨ (∃ lane len : Nat, lane < 3 ∧ len ≤ 72 ∧ M.1 (85 + 2 * k) 0 = nI lane ∧ M.1 99 k = nI lane ∧ M.1 (85 + 2 * k) 1 = nI len ∧ M.1 100 k = nI len ∧ ∀ i, i < 72 → M.1 (86 + 2 * k) i = M.1 101 (72 * k + i))
def zTrm (M : zMm) : Prop := ∃ cf : Nat → Int, ∀ t, t < 15 → (cf t).natAbs ≤ 1000 ∧ M.1 56 t = iI (cf t) ∧ M.1 117 t = iI (cf t)
def zRest (M : zMm) : Prop := (∀ k, k < 6 → zKpt M k) ∧ (∀ k, k < 4 → zSht M k) ∧ zTrm M ∧ M.1 0 13 = M.1 93 1
def zInv (M : zMm) : Prop := (∃ (dom : Nat) (q W : Int) (L : zPl), zRm dom q W M L ∧ zRr dom q W M L) ∧ zRest M
theorem zKpt.keep {M N : zMm} {k : Nat} (h : zKpt M k) (e1 : N.1 55 k = M.1 55 k) (e2 : ∀ a i, 61 + 4 * k ≤ a → a ≤ 64 + 4 * k → N.1 a i = M.1 a i) (e3 : ∀ a, 103 ≤ a → a ≤ 106 → N.1 a k = M.1 a k) (e4 : ∀ a p, 107 ≤ a → a ≤ 109 → p < 24 → N.1 a (24 * k + p) = M.1 a (24 * k + p)) : zKpt N k := by
  rcases h with ⟨h1, h2⟩ | ⟨h1, dom, q, W, L, h2, h3, h4, h5, h6, h7, h8, h9, h10, h11, h12⟩
  · exact Or.inl ⟨by rw [e1]; exact h1, by rw [e3 103 (by omega) (by omega)]; exact h2⟩
  · refine Or.inr ⟨by rw [e1]; exact h1, dom, q, W, L, h2.keep (e2 _ 3 (by omega) (by omega)) (fun i => e2 _ i (by omega) (by omega)) (fun i => e2 _ i (by omega) (by omega)) (fun i => e2 _ i (by omega) (by omega)), h3, by rw [e2 _ 0 (by omega) (by omega)]; exact h4, by rw [e2 _ 1 (by omega) (by omega)]; exact h5, by rw [e2 _ 2 (by omega) (by omega)]; exact h6, h7, by rw [e3 103 (by omega) (by omega)]; exact h8, by rw [e3 104 (by omega) (by omega)]; exact h9, by rw [e3 105 (by omega) (by omega)]; exact h10, by rw [e3 106 (by omega) (by omega)]; exact h11, fun p e hp => ?_⟩
    have hpl := (List.getElem?_eq_some_iff.mp hp).1
    have h24 := h2.2.1
    rw [e4 107 p (by omega) (by omega) (by omega), e4 108 p (by omega) (by omega) (by omega), e4 109 p (by omega) (by omega) (by omega)]
    exact h12 p e hp
theorem zSht.keep {M N : zMm} {k : Nat} (h : zSht M k) (e1 : ∀ a i, 85 + 2 * k ≤ a → a ≤ 86 + 2 * k → N.1 a i = M.1 a i) (e2 : ∀ a, 99 ≤ a → a ≤ 100 → N.1 a k = M.1 a k) (e3 : ∀ i, i < 72 → N.1 101 (72 * k + i) = M.1 101 (72 * k + i)) : zSht N k := by
  rcases h with ⟨h1, h2⟩ | ⟨lane, len, h1, h2, h3, h4, h5, h6, h7⟩
  · exact Or.inl ⟨by rw [e1 _ 0 (by omega) (by omega)]; exact h1, by rw [e2 99 (by omega) (by omega)]; exact h2⟩
  · exact Or.inr ⟨lane, len, h1, h2, by rw [e1 _ 0 (by omega) (by omega)]; exact h3, by rw [e2 99 (by omega) (by omega)]; exact h4, by rw [e1 _ 1 (by omega) (by omega)]; exact h5, by rw [e2 100 (by omega) (by omega)]; exact h6, fun i hi => by rw [e1 _ i (by omega) (by omega), e3 i hi]; exact h7 i hi⟩
theorem zTrm.keep {M N : zMm} (h : zTrm M) (e1 : ∀ t, N.1 56 t = M.1 56 t) (e2 : ∀ t, N.1 117 t = M.1 117 t) : zTrm N := by
  obtain ⟨cf, h⟩ := h
  exact ⟨cf, fun t ht => by rw [e1, e2]; exact h t ht⟩
def zrs (a i : Nat) : Bool := decide (a = 55) || (decide (a = 56) || ((decide (61 ≤ a) && decide (a ≤ 92)) || ((decide (99 ≤ a) && decide (a ≤ 101)) || ((decide (103 ≤ a) && decide (a ≤ 109)) || (decide (a = 117) || ((decide (a = 0) && decide (i = 13)) || (decide (a = 93) && decide (i = 1))))))))
theorem zRest.keep {M N : zMm} (h : zRest M) (e : ∀ a i, zrs a i = true → N.1 a i = M.1 a i) : zRest N := by
  have ok : ∀ a i, (a = 55 ∨ a = 56 ∨ (61 ≤ a ∧ a ≤ 92) ∨ (99 ≤ a ∧ a ≤ 101) ∨ (103 ≤ a ∧ a ≤ 109) ∨ a = 117 ∨ (a = 0 ∧ i = 13) ∨ (a = 93 ∧ i = 1)) → N.1 a i = M.1 a i := fun a i z => e a i (by unfold zrs; simp only [Bool.or_eq_true, Bool.and_eq_true, decide_eq_true_eq]; exact z)
  refine ⟨fun k hk => (h.1 k hk).keep (ok 55 k (by omega)) (fun a i z1 z2 => ok a i (by omega)) (fun a z1 z2 => ok a k (by omega)) (fun a p z1 z2 z3 => ok a _ (by omega)), fun k hk => (h.2.1 k hk).keep (fun a i z1 z2 => ok a i (by omega)) (fun a z1 z2 => ok a k (by omega)) (fun i hi => ok 101 _ (by omega)), h.2.2.1.keep (fun t => ok 56 t (by omega)) (fun t => ok 117 t (by omega)), ?_⟩
  rw [ok 0 13 (by omega), ok 93 1 (by omega)]
  exact h.2.2.2
def zokA (a : Nat) : Bool := !(decide (a = 0) || (decide (a = 93) || zrs a 0))
theorem zRest.fr {M N : zMm} {A : List Nat} {B : List (Nat × Nat)} (h : zRest M) (e : zKp A B M N) (hc : (A.all zokA && B.all (fun p => !zrs p.1 p.2)) = true) : zRest N := by
  obtain ⟨h1, h2⟩ := Bool.and_eq_true_iff.mp hc
  refine h.keep (fun a i hz => (e a i (fun ha => ?_) (fun hb => ?_)).1)
  · have := List.all_eq_true.mp h1 a ha
    unfold zokA at this
    simp only [Bool.not_eq_true', Bool.or_eq_false_iff, decide_eq_false_iff_not] at this
    obtain ⟨n1, n2, n3⟩ := this
    unfold zrs at hz n3
    simp [n1, n2] at hz n3
    omega
  · have := List.all_eq_true.mp h2 (a, i) hb
    simp only [Bool.not_eq_true'] at this
    rw [hz] at this
    cases this
theorem zRr.low {dom : Nat} {q W : Int} {M N : zMm} {L : zPl} (h : zRr dom q W M L) {A : List Nat} {B : List (Nat × Nat)} (e : zKp A B M N) (hc : (A.all (fun a => decide (a < 93)) && B.all (fun p => decide (p.1 < 93))) = true) : zRr dom q W N L := h.keep (fun i _ _ => zlow e hc 93 i (by omega)) (fun a i z _ => zlow e hc a i (by omega))
theorem zhigh {A : List Nat} {B : List (Nat × Nat)} {M N : zMm} (e : zKp A B M N) (h : (A.all (fun a => decide (93 ≤ a)) && B.all (fun p => decide (93 ≤ p.1))) = true) : ∀ a i, a < 93 → N.1 a i = M.1 a i := fun a i ha => by
  obtain ⟨h1, h2⟩ := Bool.and_eq_true_iff.mp h
  refine (e a i (fun z => ?_) (fun z => ?_)).1
  · have := of_decide_eq_true (List.all_eq_true.mp h1 a z)
    omega
  · have := of_decide_eq_true (List.all_eq_true.mp h2 (a, i) z)
    simp only at this
    omega
theorem zRm.high {dom : Nat} {q W : Int} {M N : zMm} {L : zPl} (h : zRm dom q W M L) {A : List Nat} {B : List (Nat × Nat)} (e : zKp A B M N) (hc : (A.all (fun a => decide (93 ≤ a)) && B.all (fun p => decide (93 ≤ p.1))) = true) : zRm dom q W N L := h.keep (fun a i _ _ => zhigh e hc a i (by omega))
/-- the fresh numbers keep it -/
theorem zInv_0 : zInv zM0 := by
  refine ⟨⟨0, 1, 1, [], zm0, zr0 (fun _ _ _ => rfl)⟩, fun k hk => Or.inl ⟨rfl, rfl⟩, fun k hk => Or.inl ?_, ⟨fun _ => 0, fun t _ => ⟨by simp, rfl, rfl⟩⟩, rfl⟩
  have h : k = 0 ∨ k = 1 ∨ k = 2 ∨ k = 3 := by omega
  rcases h with rfl | rfl | rfl | rfl <;> exact ⟨rfl, rfl⟩
theorem znat {p : Int32} (h : 0 ≤ p.toInt) : p = nI p.toInt.toNat := by rw [nI_iI, Int.toNat_of_nonneg h, iI_of]
def zopI2 (kc kr : Nat) (args : List Value) (M : zMm) : Prop := ∃ (v : Int32) (M1 M2 : zMm), yOk kc 0 (lv_args 0 (.ref 0 :: args)) [] M (some (.int v)) M1 ∧ yOk kr 0 (lv_args 0 (.ref 93 :: args)) [] M1 (some (.int v)) M2 ∧ zInv M2
def zopL2 (kc kr : Nat) (args : List Value) (M : zMm) : Prop := ∃ (v : Int64) (M1 M2 : zMm), yOk kc 0 (lv_args 0 (.ref 0 :: args)) [] M (some (.long v)) M1 ∧ yOk kr 0 (lv_args 0 (.ref 93 :: args)) [] M1 (some (.long v)) M2 ∧ zInv M2
def zopJ2 (kc kr : Nat) (args : List Value) (M : zMm) : Prop := ∃ (v1 v2 : Int32) (M1 M2 : zMm), yOk kc 0 (lv_args 0 (.ref 0 :: args)) [] M (some (.int v1)) M1 ∧ yOk kr 0 (lv_args 0 (.ref 93 :: args)) [] M1 (some (.int v2)) M2 ∧ zInv M2
/-- nothing of what is kept has changed -/
theorem zInv.fr {M M1 M2 : zMm} (h : zInv M) {A1 A2 : List Nat} {B1 B2 : List (Nat × Nat)} (e1 : zKp A1 B1 M M1) (e2 : zKp A2 B2 M1 M2) (h1 : (A1.all (fun a => decide (a < 93) && (zokA a && decide (4 < a))) && B1.all (fun p => decide (p.1 < 93) && (!zrs p.1 p.2 && (decide (p.1 = 0) || decide (4 < p.1))))) = true) (h2 : (A2.all (fun a => decide (96 < a) && zokA a) && B2.all (fun p => (decide (p.1 = 93) && (decide (p.2 < 4) || decide (7 < p.2)) || decide (96 < p.1)) && !zrs p.1 p.2)) = true) : zInv M2 := by
  obtain ⟨⟨dom, q, W, L, hm, hr⟩, hrest⟩ := h
  obtain ⟨a1, b1⟩ := Bool.and_eq_true_iff.mp h1
  obtain ⟨a2, b2⟩ := Bool.and_eq_true_iff.mp h2
  have A1' : ∀ a, a ∈ A1 → 4 < a ∧ a < 93 ∧ zokA a = true := fun a ha => by
    have := List.all_eq_true.mp a1 a ha
    simp only [Bool.and_eq_true, decide_eq_true_eq] at this
    exact ⟨this.2.2, this.1, this.2.1⟩
  have B1' : ∀ a i, (a, i) ∈ B1 → (a = 0 ∨ 4 < a) ∧ a < 93 ∧ zrs a i = false := fun a i ha => by
    have := List.all_eq_true.mp b1 (a, i) ha
    simp only [Bool.and_eq_true, Bool.or_eq_true, decide_eq_true_eq, Bool.not_eq_true'] at this
    exact ⟨this.2.2, this.1, this.2.1⟩
  have A2' : ∀ a, a ∈ A2 → 96 < a ∧ zokA a = true := fun a ha => by
    have := List.all_eq_true.mp a2 a ha
    simp only [Bool.and_eq_true, decide_eq_true_eq] at this
    exact this
  have B2' : ∀ a i, (a, i) ∈ B2 → ((a = 93 ∧ (i < 4 ∨ 7 < i)) ∨ 96 < a) ∧ zrs a i = false := fun a i ha => by
    have := List.all_eq_true.mp b2 (a, i) ha
    simp only [Bool.and_eq_true, Bool.or_eq_true, decide_eq_true_eq, Bool.not_eq_true'] at this
    exact this
  have k1 : ∀ a i, (1 ≤ a ∧ a ≤ 4) ∨ 93 ≤ a → M1.1 a i = M.1 a i := fun a i ha => (e1 a i (fun z => by have := A1' a z; omega) (fun z => by have := B1' a i z; omega)).1
  have k2 : ∀ a i, a < 93 ∨ (a = 93 ∧ 4 ≤ i ∧ i ≤ 7) ∨ (94 ≤ a ∧ a ≤ 96) → M2.1 a i = M1.1 a i := fun a i ha => (e2 a i (fun z => by have := A2' a z; omega) (fun z => by have := B2' a i z; omega)).1
  refine ⟨⟨dom, q, W, L, hm.keep (fun a i z1 z2 => by rw [k2 a i (by omega), k1 a i (by omega)]), hr.keep (fun i z1 z2 => by rw [k2 93 i (by omega), k1 93 i (by omega)]) (fun a i z1 z2 => by rw [k2 a i (by omega), k1 a i (by omega)])⟩, (hrest.fr e1 ?_).fr e2 ?_⟩
  · rw [Bool.and_eq_true]
    exact ⟨List.all_eq_true.mpr (fun a ha => (A1' a ha).2.2), List.all_eq_true.mpr (fun p hp => by rw [(B1' p.1 p.2 hp).2.2]; rfl)⟩
  · rw [Bool.and_eq_true]
    exact ⟨List.all_eq_true.mpr (fun a ha => (A2' a ha).2), List.all_eq_true.mpr (fun p hp => by rw [(B2' p.1 p.2 hp).2]; rfl)⟩
/-- the rule is another, the rest as it was -/
theorem zInv.rule {M M1 M2 : zMm} (h : zInv M) {A1 A2 : List Nat} {B1 B2 : List (Nat × Nat)} (e1 : zKp A1 B1 M M1) (e2 : zKp A2 B2 M1 M2) {dom : Nat} {q W : Int} {L : zPl} (hm : zRm dom q W M1 L) (hr : zRr dom q W M2 L) (h1 : (A1.all zokA && B1.all (fun p => !zrs p.1 p.2)) = true) (h2 : (A2.all zokA && B2.all (fun p => !zrs p.1 p.2)) = true) (h3 : (A2.all (fun a => decide (93 ≤ a)) && B2.all (fun p => decide (93 ≤ p.1))) = true) : zInv M2 := ⟨⟨dom, q, W, L, zRm.high hm e2 h3, hr⟩, (h.2.fr e1 h1).fr e2 h2⟩
