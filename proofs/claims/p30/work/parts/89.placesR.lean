/-! ===== places, of the reference ===== -/
theorem zlayM_at (M : zMm) (n : Nat) (x y w : Int32) (p : Nat) (hp : p < n) : (zlayM 93 7 94 95 96 M n x y w).1 94 p = M.1 94 p ∧ (zlayM 93 7 94 95 96 M n x y w).1 95 p = M.1 95 p ∧ (zlayM 93 7 94 95 96 M n x y w).1 102 p = M.1 102 p := by
  unfold zlayM
  split
  · simp [zup_i]
  · have : ¬ p = n := by omega
    simp [zup_i, this]
theorem zladd_len (L : zPl) (p : zPt) (w : Int32) : L.length ≤ (ladd L p w).length := by
  rw [ladd_lad, lad_len]
  omega
theorem r_save_loop {Q : Option Value → zMm → Prop} (M0 : zMm) (s l i n : Int32) (had : Nat) (hh : had ≤ 24) (K : ∀ M', (∀ p, p < had → M'.1 102 p = M0.1 96 p) → zKp [102] [] M0 M' → yR 128 165 [(0, .ref 93), (1, .int s), (2, .int l), (3, .int i), (4, .int n), (5, .int (nI had))] [] M' Q) :
    ∀ (d p : Nat) (M : zMm), p + d = had → (∀ k, k < p → M.1 102 k = M0.1 96 k) → zKp [102] [] M0 M → yR 128 138 [(0, .ref 93), (1, .int s), (2, .int l), (3, .int i), (4, .int n), (5, .int (nI had)), (6, .int (nI p))] [] M Q := by
  intro d
  induction d using Nat.strongRecOn with
  | ind d ih =>
    intro p M h hp hE
    refine yR.adv 2 (pc' := 142) (lv' := [(0, .ref 93), (1, .int s), (2, .int l), (3, .int i), (4, .int n), (5, .int (nI had)), (6, .int (nI p))]) (st' := [.int (nI had), .int (nI p)]) (M' := M) rfl ?_
    refine yR.if2 .ge _ _ _ _ rfl (fun q1 => ?_) (fun q1 => ?_)
    · have q1' : (had : Int) ≤ p := zcT q1 (nI_toInt (by omega)) (nI_toInt (by omega))
      exact (K M (fun k hk => hp k (by omega)) hE).drop (by refine ⟨?_, ?_⟩ <;> simp [zget, zwf])
    · have q1' : ¬ (had : Int) ≤ p := zcF q1 (nI_toInt (by omega)) (nI_toInt (by omega))
      have e96 : M.1 96 p = M0.1 96 p := (hE 96 p (by decide) (by simp)).1
      refine yR.adv 6 (pc' := 157) (lv' := [(0, .ref 93), (1, .int s), (2, .int l), (3, .int i), (4, .int n), (5, .int (nI had)), (6, .int (nI p))]) (st' := [.int (nI p), .ref 96, .int (nI p), .ref 102]) (M' := M) rfl ?_
      refine yR.iald p _ _ _ rfl rfl (by decide) (rfl) (by omega) ?_
      rw [e96]
      refine yR.iast p _ _ _ rfl rfl (by decide) (rfl) (by omega) ?_
      refine yR.adv 2 (pc' := 138) (lv' := [(6, .int (nI p + 1)), (0, .ref 93), (1, .int s), (2, .int l), (3, .int i), (4, .int n), (5, .int (nI had))]) (st' := []) (M' := zup M 102 p (M0.1 96 p)) rfl ?_
      exact (ih (d - 1) (by omega) (p + 1) _ (by omega) (fun k hk => if c : k = p then (by rw [zup_i, if_pos ⟨rfl, c⟩, c]) else (by rw [zup_i, if_neg (fun z => c z.2)]; exact hp k (by omega))) (hE.up (by simp))).drop (by refine ⟨?_, ?_⟩ <;> simp [zget, zwf, nI_succ])
theorem r_back_loop {Q : Option Value → zMm → Prop} (M0 : zMm) (v : Int32) (had : Nat) (hh : had ≤ 24) (K : ∀ M', (∀ p, p < had → M'.1 96 p = M0.1 102 p) → zKp [96] [] M0 M' → Q (some (.int v)) M') :
    ∀ (d p : Nat) (M : zMm), p + d = had → (∀ k, k < p → M.1 96 k = M0.1 102 k) → zKp [96] [] M0 M → yR 128 233 [(0, .ref 93), (5, .int (nI had)), (8, .int v), (9, .int (nI p))] [] M Q := by
  intro d
  induction d using Nat.strongRecOn with
  | ind d ih =>
    intro p M h hp hE
    refine yR.adv 2 (pc' := 237) (lv' := [(0, .ref 93), (5, .int (nI had)), (8, .int v), (9, .int (nI p))]) (st' := [.int (nI had), .int (nI p)]) (M' := M) rfl ?_
    refine yR.if2 .ge _ _ _ _ rfl (fun q1 => ?_) (fun q1 => ?_)
    · have q1' : (had : Int) ≤ p := zcT q1 (nI_toInt (by omega)) (nI_toInt (by omega))
      refine yR.adv 1 (pc' := 262) (lv' := [(0, .ref 93), (5, .int (nI had)), (8, .int v), (9, .int (nI p))]) (st' := [.int v]) (M' := M) rfl ?_
      refine yR.ret _ rfl rfl rfl ?_
      exact K M (fun k hk => hp k (by omega)) hE
    · have q1' : ¬ (had : Int) ≤ p := zcF q1 (nI_toInt (by omega)) (nI_toInt (by omega))
      have e96 : M.1 102 p = M0.1 102 p := (hE 102 p (by decide) (by simp)).1
      refine yR.adv 6 (pc' := 252) (lv' := [(0, .ref 93), (5, .int (nI had)), (8, .int v), (9, .int (nI p))]) (st' := [.int (nI p), .ref 102, .int (nI p), .ref 96]) (M' := M) rfl ?_
      refine yR.iald p _ _ _ rfl rfl (by decide) (rfl) (by omega) ?_
      rw [e96]
      refine yR.iast p _ _ _ rfl rfl (by decide) (rfl) (by omega) ?_
      refine yR.adv 2 (pc' := 233) (lv' := [(9, .int (nI p + 1)), (0, .ref 93), (5, .int (nI had)), (8, .int v)]) (st' := []) (M' := zup M 96 p (M0.1 102 p)) rfl ?_
      exact (ih (d - 1) (by omega) (p + 1) _ (by omega) (fun k hk => if c : k = p then (by rw [zup_i, if_pos ⟨rfl, c⟩, c]) else (by rw [zup_i, if_neg (fun z => c z.2)]; exact hp k (by omega))) (hE.up (by simp))).drop (by refine ⟨?_, ?_⟩ <;> simp [zget, zwf, nI_succ])
theorem r_places_loop {Q : Option Value → zMm → Prop} (M0 : zMm) (dom : Nat) (q W : Int) (L0 : zPl) (h0 : zRr dom q W M0 L0) (h102 : ∀ p, p < L0.length → M0.1 102 p = M0.1 96 p) (cc : Nat → Int32) (s : Nat) (hs : s < 4) (l : Int32) (i0 n : Nat) (hn : i0 + 3 * n ≤ 72) (hcc : ∀ j, j < 72 → M0.1 101 (72 * s + j) = cc j) (Rz : Option Int32 × zPl) (K1 : ∀ v, Rz.1 = some v → ∀ M', zRr dom q W M' L0 → zKp [94, 95, 96] [(93, 7)] M0 M' → Q (some (.int v)) M') (K2 : Rz.1 = none → ∀ M', zRr dom q W M' Rz.2 → zKp [94, 95, 96] [(93, 7)] M0 M' → yR 128 300 [(0, .ref 93)] [] M' Q) :
    ∀ (d m : Nat) (M : zMm) (L : zPl), m + d = n → zRr dom q W M L → L0.length ≤ L.length → (∀ p, p < L0.length → M.1 94 p = M0.1 94 p ∧ M.1 95 p = M0.1 95 p ∧ M.1 102 p = M0.1 102 p) → zKp [94, 95, 96] [(93, 7)] M0 M → zpls cc d (i0 + 3 * m) L = Rz → yR 128 168 [(0, .ref 93), (1, .int (nI s)), (2, .int l), (3, .int (nI i0)), (4, .int (nI n)), (5, .int (nI L0.length)), (6, .int (nI m))] [] M Q := by
  have hL0 := h0.1.2.1
  intro d
  induction d using Nat.strongRecOn with
  | ind d ih =>
    intro m M L h hR hle hpre hE hz
    have hU := hR.1
    have hk := hR.2.1
    refine yR.adv 2 (pc' := 172) (lv' := [(0, .ref 93), (1, .int (nI s)), (2, .int l), (3, .int (nI i0)), (4, .int (nI n)), (5, .int (nI L0.length)), (6, .int (nI m))]) (st' := [.int (nI n), .int (nI m)]) (M' := M) rfl ?_
    refine yR.if2 .ge _ _ _ _ rfl (fun q1 => ?_) (fun q1 => ?_)
    · have q1' : (n : Int) ≤ m := zcT q1 (nI_toInt (by omega)) (nI_toInt (by omega))
      have hd : d = 0 := by omega
      subst hd
      have hz' : Rz = (none, L) := hz.symm
      exact (K2 (by rw [hz']) M (by rw [hz']; exact hR) hE).drop (by refine ⟨?_, ?_⟩ <;> simp [zget, zwf])
    · have q1' : ¬ (n : Int) ≤ m := zcF q1 (nI_toInt (by omega)) (nI_toInt (by omega))
      obtain ⟨d', rfl⟩ : ∃ d', d = d' + 1 := ⟨d - 1, by omega⟩
      have hix : 72 * nI s + nI i0 + 3 * nI m = nI (72 * s + (i0 + 3 * m)) := by
        rw [show (72 : Int32) = iI 72 from rfl, show (3 : Int32) = iI 3 from rfl, nI_iI, nI_iI, nI_iI, nI_iI, iI_mul, iI_mul, iI_add, iI_add]
        congr 1
        omega
      have hcM : ∀ j, j < 72 → M.1 101 (72 * s + j) = cc j := fun j hj => by rw [(hE 101 (72 * s + j) (by decide) (by simp)).1]; exact hcc j hj
      have c1 : M.1 101 (72 * s + (i0 + 3 * m)) = cc (i0 + 3 * m) := hcM _ (by omega)
      have c2 : M.1 101 (72 * s + (i0 + 3 * m) + 1) = cc (i0 + 3 * m + 1) := by rw [show 72 * s + (i0 + 3 * m) + 1 = 72 * s + (i0 + 3 * m + 1) by omega]; exact hcM _ (by omega)
      have c3 : M.1 101 (72 * s + (i0 + 3 * m) + 2) = cc (i0 + 3 * m + 2) := by rw [show 72 * s + (i0 + 3 * m) + 2 = 72 * s + (i0 + 3 * m + 2) by omega]; exact hcM _ (by omega)
      refine yR.adv 14 (pc' := 195) (lv' := [(7, .int (((72 * (nI s)) + (nI i0)) + (3 * (nI m)))), (0, .ref 93), (1, .int (nI s)), (2, .int l), (3, .int (nI i0)), (4, .int (nI n)), (5, .int (nI L0.length)), (6, .int (nI m))]) (st' := [.int (((72 * (nI s)) + (nI i0)) + (3 * (nI m))), .ref 101, .ref 93]) (M' := M) rfl ?_
      rw [hix]
      refine yR.iald (72 * s + (i0 + 3 * m)) _ _ _ rfl rfl (by decide) (rfl) (by omega) ?_
      refine yR.adv 5 (pc' := 204) (lv' := [(7, .int (nI (72 * s + (i0 + 3 * m)))), (0, .ref 93), (1, .int (nI s)), (2, .int l), (3, .int (nI i0)), (4, .int (nI n)), (5, .int (nI L0.length)), (6, .int (nI m))]) (st' := [.int ((nI (72 * s + (i0 + 3 * m))) + 1), .ref 101, .int (M.1 101 (72 * s + (i0 + 3 * m))), .ref 93]) (M' := M) rfl ?_
      refine yR.iald (72 * s + (i0 + 3 * m) + 1) _ _ _ rfl rfl (by decide) (nI_1 _) (by omega) ?_
      refine yR.adv 5 (pc' := 213) (lv' := [(7, .int (nI (72 * s + (i0 + 3 * m)))), (0, .ref 93), (1, .int (nI s)), (2, .int l), (3, .int (nI i0)), (4, .int (nI n)), (5, .int (nI L0.length)), (6, .int (nI m))]) (st' := [.int ((nI (72 * s + (i0 + 3 * m))) + 2), .ref 101, .int (M.1 101 (72 * s + (i0 + 3 * m) + 1)), .int (M.1 101 (72 * s + (i0 + 3 * m))), .ref 93]) (M' := M) rfl ?_
      refine yR.iald (72 * s + (i0 + 3 * m) + 2) _ _ _ rfl rfl (by decide) (nI_add _ 2) (by omega) ?_
      rw [c1, c2, c3]
      have refuse : ∀ v : Int32, ¬ v = 0 → Rz.1 = some v → yR 128 217 [(7, .int (nI (72 * s + (i0 + 3 * m)))), (0, .ref 93), (1, .int (nI s)), (2, .int l), (3, .int (nI i0)), (4, .int (nI n)), (5, .int (nI L0.length)), (6, .int (nI m))] [.int v] M Q := by
        intro v hv hRz
        refine yR.adv 2 (pc' := 221) (lv' := [(8, .int v), (7, .int (nI (72 * s + (i0 + 3 * m)))), (0, .ref 93), (1, .int (nI s)), (2, .int l), (3, .int (nI i0)), (4, .int (nI n)), (5, .int (nI L0.length)), (6, .int (nI m))]) (st' := [.int v]) (M' := M) rfl ?_
        refine yR.if1 .eq _ _ _ _ rfl (fun q2 => ?_) (fun q2 => ?_)
        · exact absurd (zeq_t q2) hv
        · refine yR.adv 5 (pc' := 233) (lv' := [(9, .int 0), (8, .int v), (7, .int (nI (72 * s + (i0 + 3 * m)))), (0, .ref 93), (1, .int (nI s)), (2, .int l), (3, .int (nI i0)), (4, .int (nI n)), (5, .int (nI L0.length)), (6, .int (nI m))]) (st' := []) (M' := zup M 93 7 (nI L0.length)) rfl ?_
          generalize g1 : zup M 93 7 (nI L0.length) = M1
          have E1 : zKp [94, 95, 96] [(93, 7)] M M1 := by rw [← g1]; exact (zKp.refl _ _ M).up (by simp)
          refine yR.drop (lv := [(0, .ref 93), (5, .int (nI L0.length)), (8, .int v), (9, .int (nI 0))]) (by refine ⟨?_, ?_⟩ <;> simp [zget, zwf] <;> rfl) ?_
          refine r_back_loop M1 v L0.length hL0 (fun M2 b2 e2 => K1 v hRz M2 ⟨⟨?_, hL0, fun p e hp => ?_⟩, h0.2.1, ?_, ?_, ?_, h0.2.2.2.2.2⟩ ((hE.trans E1).trans (e2.sub (by decide)))) L0.length 0 M1 (Nat.zero_add _) (fun k hk => absurd hk (by omega)) (zKp.refl _ _ _)
          · rw [(e2 93 7 (by decide) (by simp)).1, ← g1, zup_i, if_pos ⟨rfl, rfl⟩]
          · have hpl := (List.getElem?_eq_some_iff.mp hp).1
            obtain ⟨x1, x2, x3⟩ := hpre p hpl
            have y1 : M1.1 94 p = M.1 94 p := by rw [← g1, zup_i, if_neg (by omega)]
            have y2 : M1.1 95 p = M.1 95 p := by rw [← g1, zup_i, if_neg (by omega)]
            have y3 : M1.1 102 p = M.1 102 p := by rw [← g1, zup_i, if_neg (by omega)]
            rw [(e2 94 p (by decide) (by simp)).1, (e2 95 p (by decide) (by simp)).1, b2 p hpl, y1, y2, y3, x1, x2, x3, h102 p hpl]
            exact h0.1.2.2 p e hp
          · rw [(e2 93 4 (by decide) (by simp)).1, (E1 93 4 (by decide) (by decide)).1]; exact hR.2.2.1
          · rw [(e2 93 5 (by decide) (by simp)).1, (E1 93 5 (by decide) (by decide)).1]; exact hR.2.2.2.1
          · rw [(e2 93 6 (by decide) (by simp)).1, (E1 93 6 (by decide) (by decide)).1]; exact hR.2.2.2.2.1
      by_cases hb : zbadL L (cc (i0 + 3 * m)) (cc (i0 + 3 * m + 1)) (cc (i0 + 3 * m + 2))
      · rw [zpls_bad hb] at hz
        refine yR.callK (M1 := M) _ rfl rfl rfl rfl rfl (r_against M L.length hU.1 hU.2.1 (hU.W hk) (cc (i0 + 3 * m)) (cc (i0 + 3 * m + 1)) (cc (i0 + 3 * m + 2)) (-2) (Or.inl ⟨(hU.bad _ _ _).mpr hb, rfl⟩)) ?_
        show yR 128 217 [(7, .int (nI (72 * s + (i0 + 3 * m)))), (0, .ref 93), (1, .int (nI s)), (2, .int l), (3, .int (nI i0)), (4, .int (nI n)), (5, .int (nI L0.length)), (6, .int (nI m))] [.int (-2)] M _
        exact refuse (-2) (by decide) (by rw [← hz])
      · by_cases hf : lix L (cc (i0 + 3 * m), cc (i0 + 3 * m + 1)) 0 = none ∧ L.length = 24
        · rw [zpls_full hb hf] at hz
          refine yR.callK (M1 := M) _ rfl rfl rfl rfl rfl (r_against M L.length hU.1 hU.2.1 (hU.W hk) (cc (i0 + 3 * m)) (cc (i0 + 3 * m + 1)) (cc (i0 + 3 * m + 2)) (-4) (Or.inr ⟨fun z => hb ((hU.bad _ _ _).mp z), Or.inl ⟨by rw [hU.fnd]; exact hf, rfl⟩⟩)) ?_
          show yR 128 217 [(7, .int (nI (72 * s + (i0 + 3 * m)))), (0, .ref 93), (1, .int (nI s)), (2, .int l), (3, .int (nI i0)), (4, .int (nI n)), (5, .int (nI L0.length)), (6, .int (nI m))] [.int (-4)] M _
          exact refuse (-4) (by decide) (by rw [← hz])
        · rw [zpls_go hb hf] at hz
          have hroom := zroom hU.2.1 hf
          have hl := hU.lay (by decide) (by decide) (by decide) (by decide) (by decide) (by decide) (cc (i0 + 3 * m)) (cc (i0 + 3 * m + 1)) (cc (i0 + 3 * m + 2)) hroom
          have hat := fun p hp => zlayM_at M L.length (cc (i0 + 3 * m)) (cc (i0 + 3 * m + 1)) (cc (i0 + 3 * m + 2)) p hp
          refine yR.callK (M1 := M) _ rfl rfl rfl rfl rfl (r_against M L.length hU.1 hU.2.1 (hU.W hk) (cc (i0 + 3 * m)) (cc (i0 + 3 * m + 1)) (cc (i0 + 3 * m + 2)) 0 (Or.inr ⟨fun z => hb ((hU.bad _ _ _).mp z), Or.inr ⟨by rw [hU.fnd]; exact hf, rfl⟩⟩)) ?_
          show yR 128 217 [(7, .int (nI (72 * s + (i0 + 3 * m)))), (0, .ref 93), (1, .int (nI s)), (2, .int l), (3, .int (nI i0)), (4, .int (nI n)), (5, .int (nI L0.length)), (6, .int (nI m))] [.int 0] M _
          refine yR.adv 2 (pc' := 221) (lv' := [(8, .int 0), (7, .int (nI (72 * s + (i0 + 3 * m)))), (0, .ref 93), (1, .int (nI s)), (2, .int l), (3, .int (nI i0)), (4, .int (nI n)), (5, .int (nI L0.length)), (6, .int (nI m))]) (st' := [.int 0]) (M' := M) rfl ?_
          refine yR.if1 .eq _ _ _ _ rfl (fun q2 => ?_) (fun q2 => ?_)
          · refine yR.adv 4 (pc' := 270) (lv' := [(8, .int 0), (7, .int (nI (72 * s + (i0 + 3 * m)))), (0, .ref 93), (1, .int (nI s)), (2, .int l), (3, .int (nI i0)), (4, .int (nI n)), (5, .int (nI L0.length)), (6, .int (nI m))]) (st' := [.int (nI (72 * s + (i0 + 3 * m))), .ref 101, .ref 93]) (M' := M) rfl ?_
            refine yR.iald (72 * s + (i0 + 3 * m)) _ _ _ rfl rfl (by decide) (rfl) (by omega) ?_
            refine yR.adv 5 (pc' := 279) (lv' := [(8, .int 0), (7, .int (nI (72 * s + (i0 + 3 * m)))), (0, .ref 93), (1, .int (nI s)), (2, .int l), (3, .int (nI i0)), (4, .int (nI n)), (5, .int (nI L0.length)), (6, .int (nI m))]) (st' := [.int ((nI (72 * s + (i0 + 3 * m))) + 1), .ref 101, .int (M.1 101 (72 * s + (i0 + 3 * m))), .ref 93]) (M' := M) rfl ?_
            refine yR.iald (72 * s + (i0 + 3 * m) + 1) _ _ _ rfl rfl (by decide) (nI_1 _) (by omega) ?_
            refine yR.adv 5 (pc' := 288) (lv' := [(8, .int 0), (7, .int (nI (72 * s + (i0 + 3 * m)))), (0, .ref 93), (1, .int (nI s)), (2, .int l), (3, .int (nI i0)), (4, .int (nI n)), (5, .int (nI L0.length)), (6, .int (nI m))]) (st' := [.int ((nI (72 * s + (i0 + 3 * m))) + 2), .ref 101, .int (M.1 101 (72 * s + (i0 + 3 * m) + 1)), .int (M.1 101 (72 * s + (i0 + 3 * m))), .ref 93]) (M' := M) rfl ?_
            refine yR.iald (72 * s + (i0 + 3 * m) + 2) _ _ _ rfl rfl (by decide) (nI_add _ 2) (by omega) ?_
            rw [c1, c2, c3]
            refine yR.callK (M1 := zlayM 93 7 94 95 96 M L.length (cc (i0 + 3 * m)) (cc (i0 + 3 * m + 1)) (cc (i0 + 3 * m + 2))) _ rfl rfl rfl rfl rfl (r_lay M L.length hU.1 hU.2.1 (cc (i0 + 3 * m)) (cc (i0 + 3 * m + 1)) (cc (i0 + 3 * m + 2)) (by rw [hU.fnd]; exact hroom)) ?_
            show yR 128 292 [(8, .int 0), (7, .int (nI (72 * s + (i0 + 3 * m)))), (0, .ref 93), (1, .int (nI s)), (2, .int l), (3, .int (nI i0)), (4, .int (nI n)), (5, .int (nI L0.length)), (6, .int (nI m))] [.int (zlayR 94 95 M L.length (cc (i0 + 3 * m)) (cc (i0 + 3 * m + 1)))] (zlayM 93 7 94 95 96 M L.length (cc (i0 + 3 * m)) (cc (i0 + 3 * m + 1)) (cc (i0 + 3 * m + 2))) _
            generalize g1 : zlayM 93 7 94 95 96 M L.length (cc (i0 + 3 * m)) (cc (i0 + 3 * m + 1)) (cc (i0 + 3 * m + 2)) = M1
            rw [g1] at hl hat
            refine yR.adv 3 (pc' := 168) (lv' := [(6, .int (nI m + 1)), (9, .int (zlayR 94 95 M L.length (cc (i0 + 3 * m)) (cc (i0 + 3 * m + 1)))), (8, .int 0), (7, .int (nI (72 * s + (i0 + 3 * m)))), (0, .ref 93), (1, .int (nI s)), (2, .int l), (3, .int (nI i0)), (4, .int (nI n)), (5, .int (nI L0.length))]) (st' := []) (M' := M1) rfl ?_
            have R1 : zRr dom q W M1 (ladd L (cc (i0 + 3 * m), cc (i0 + 3 * m + 1)) (cc (i0 + 3 * m + 2))) := ⟨hl.1, hk.add hb, by rw [(hl.2 93 4 (by decide) (by decide)).1]; exact hR.2.2.1, by rw [(hl.2 93 5 (by decide) (by decide)).1]; exact hR.2.2.2.1, by rw [(hl.2 93 6 (by decide) (by decide)).1]; exact hR.2.2.2.2.1, hR.2.2.2.2.2⟩
            have K2' := ih d' (by omega) (m + 1) M1 _ (by omega) R1 (Nat.le_trans hle (zladd_len _ _ _)) (fun p hp => by
              obtain ⟨x1, x2, x3⟩ := hpre p hp
              obtain ⟨y1, y2, y3⟩ := hat p (by omega)
              rw [y1, y2, y3]
              exact ⟨x1, x2, x3⟩) (hE.trans hl.2) (by rw [show i0 + 3 * (m + 1) = i0 + 3 * m + 3 by omega]; exact hz)
            exact (K2').drop (by refine ⟨?_, ?_⟩ <;> simp [zget, zwf, nI_succ])
          · exact absurd q2 (by decide)
theorem r_places (M : zMm) (dom : Nat) (q W : Int) (L : zPl) (h : zRr dom q W M L) (s : Nat) (hs : s < 4) (lane len : Nat) (hl : lane < 3) (hn : len ≤ 72) (hL : M.1 99 s = nI lane) (hN : M.1 100 s = nI len) (cc : Nat → Int32) (hcc : ∀ j, j < 72 → M.1 101 (72 * s + j) = cc j) (l i n : Int32) (hl2 : 0 ≤ l.toInt ∧ l.toInt ≤ 2) : yR 128 0 [(0, .ref 93), (1, .int (nI s)), (2, .int l), (3, .int i), (4, .int n)] [] M (fun r N =>
      (¬ l = nI lane ∧ r = some (.int (-12)) ∧ zKp [] [(93, 0)] M N) ∨ (l = nI lane ∧ n.toInt < 0 ∧ r = some (.int (-14)) ∧ zKp [] [(93, 0)] M N) ∨ (l = nI lane ∧ 0 ≤ n.toInt ∧ ¬ (0 ≤ i.toInt ∧ i.toInt + 3 * n.toInt ≤ len) ∧ r = some (.int (-13)) ∧ zKp [] [(93, 0)] M N) ∨
      (l = nI lane ∧ 0 ≤ n.toInt ∧ (0 ≤ i.toInt ∧ i.toInt + 3 * n.toInt ≤ len) ∧ ((∃ v, (zpls cc n.toInt.toNat i.toInt.toNat L).1 = some v ∧ r = some (.int v) ∧ zRr dom q W N L) ∨ ((zpls cc n.toInt.toNat i.toInt.toNat L).1 = none ∧ r = some (.int (nI (zpls cc n.toInt.toNat i.toInt.toNat L).2.length)) ∧ zRr dom q W N (zpls cc n.toInt.toNat i.toInt.toNat L).2)) ∧ zKp [94, 95, 96, 102] [(93, 0), (93, 7)] M N)) := by
  have ts : (nI s).toInt64.toInt = s := by rw [Int32.toInt_toInt64, nI_toInt (by omega)]
  have tl : l.toInt64.toInt = l.toInt := Int32.toInt_toInt64 l
  have hnn := Int32.toInt_lt n
  have hnl := Int32.le_toInt n
  have hii := Int32.toInt_lt i
  have hil := Int32.le_toInt i
  refine yR.adv 3 (pc' := 5) (lv' := [(0, .ref 93), (1, .int (nI s)), (2, .int l), (3, .int i), (4, .int n)]) (st' := []) (M' := zup M 93 0 0) rfl ?_
  generalize g0 : zup M 93 0 0 = M0
  have E0 : zKp [] [(93, 0)] M M0 := by rw [← g0]; exact (zKp.refl _ _ M).up (by simp)
  have hL' : M0.1 99 s = nI lane := by rw [(E0 99 s (by simp) (by simp)).1]; exact hL
  have hN' : M0.1 100 s = nI len := by rw [(E0 100 s (by simp) (by simp)).1]; exact hN
  have R0 : zRr dom q W M0 L := h.keep (fun i z1 z2 => (E0 93 i (by simp) (by simp <;> omega)).1) (fun a i z1 z2 => (E0 a i (by simp) (by simp <;> omega)).1)
  refine yR.adv 4 (pc' := 11) (lv' := [(0, .ref 93), (1, .int (nI s)), (2, .int l), (3, .int i), (4, .int n)]) (st' := [.long 3, .long 0, .long ((nI s).toInt64)]) (M' := M0) rfl ?_
  refine yR.callK (M1 := M0) _ rfl rfl rfl rfl rfl (r_withinV M0 (nI s).toInt64 0 3 0 3 rfl rfl 1 (Or.inl ⟨by rw [ts]; omega, rfl⟩)) ?_
  show yR 128 14 [(0, .ref 93), (1, .int (nI s)), (2, .int l), (3, .int i), (4, .int n)] [.int 1] M0 _
  refine yR.if1 .ne _ _ _ _ rfl (fun q1 => ?_) (fun q1 => ?_)
  · refine yR.adv 4 (pc' := 25) (lv' := [(0, .ref 93), (1, .int (nI s)), (2, .int l), (3, .int i), (4, .int n)]) (st' := [.long 2, .long 0, .long l.toInt64]) (M' := M0) rfl ?_
    refine yR.callK (M1 := M0) _ rfl rfl rfl rfl rfl (r_withinV M0 l.toInt64 0 2 0 2 rfl rfl 1 (Or.inl ⟨by rw [tl]; exact hl2, rfl⟩)) ?_
    show yR 128 28 [(0, .ref 93), (1, .int (nI s)), (2, .int l), (3, .int i), (4, .int n)] [.int 1] M0 _
    refine yR.if1 .ne _ _ _ _ rfl (fun q2 => ?_) (fun q2 => ?_)
    · refine yR.adv 3 (pc' := 39) (lv' := [(0, .ref 93), (1, .int (nI s)), (2, .int l), (3, .int i), (4, .int n)]) (st' := [.int (nI s), .ref 99]) (M' := M0) rfl ?_
      refine yR.iald s _ _ _ rfl rfl (by decide) (rfl) (by omega) ?_
      rw [hL']
      refine yR.adv 1 (pc' := 42) (lv' := [(0, .ref 93), (1, .int (nI s)), (2, .int l), (3, .int i), (4, .int n)]) (st' := [.int (-9), .int (nI lane)]) (M' := M0) rfl ?_
      refine yR.if2 .eq _ _ _ _ rfl (fun q3 => ?_) (fun q3 => ?_)
      · exact absurd (zeq_t q3) (nI_nm9 lane (by omega))
      · refine yR.adv 3 (pc' := 50) (lv' := [(0, .ref 93), (1, .int (nI s)), (2, .int l), (3, .int i), (4, .int n)]) (st' := [.int (nI s), .ref 99]) (M' := M0) rfl ?_
        refine yR.iald s _ _ _ rfl rfl (by decide) (rfl) (by omega) ?_
        rw [hL']
        refine yR.adv 1 (pc' := 52) (lv' := [(0, .ref 93), (1, .int (nI s)), (2, .int l), (3, .int i), (4, .int n)]) (st' := [.int l, .int (nI lane)]) (M' := M0) rfl ?_
        refine yR.if2 .eq _ _ _ _ rfl (fun q4 => ?_) (fun q4 => ?_)
        · have z1 : l = nI lane := (zeq_t q4).symm
          refine yR.adv 3 (pc' := 66) (lv' := [(0, .ref 93), (1, .int (nI s)), (2, .int l), (3, .int i), (4, .int n)]) (st' := [.int (nI s), .ref 99]) (M' := M0) rfl ?_
          refine yR.iald s _ _ _ rfl rfl (by decide) (rfl) (by omega) ?_
          rw [hL']
          refine yR.adv 1 (pc' := 69) (lv' := [(0, .ref 93), (1, .int (nI s)), (2, .int l), (3, .int i), (4, .int n)]) (st' := [.int (-9), .int (nI lane)]) (M' := M0) rfl ?_
          refine yR.if2 .ne _ _ _ _ rfl (fun q5 => ?_) (fun q5 => ?_)
          · refine yR.adv 1 (pc' := 80) (lv' := [(0, .ref 93), (1, .int (nI s)), (2, .int l), (3, .int i), (4, .int n)]) (st' := [.int n]) (M' := M0) rfl ?_
            refine yR.if1 .ge _ _ _ _ rfl (fun q6 => ?_) (fun q6 => ?_)
            · have q6' : 0 ≤ n.toInt := zcT q6 rfl rfl
              have bad : ¬ (0 ≤ i.toInt ∧ i.toInt + 3 * n.toInt ≤ len) → ∀ lv : zL, zget lv 0 = some (.ref 93) → zSub [(0, .ref 93)] lv → yR 128 123 lv [] M0 (fun r N =>
      (¬ l = nI lane ∧ r = some (.int (-12)) ∧ zKp [] [(93, 0)] M N) ∨ (l = nI lane ∧ n.toInt < 0 ∧ r = some (.int (-14)) ∧ zKp [] [(93, 0)] M N) ∨ (l = nI lane ∧ 0 ≤ n.toInt ∧ ¬ (0 ≤ i.toInt ∧ i.toInt + 3 * n.toInt ≤ len) ∧ r = some (.int (-13)) ∧ zKp [] [(93, 0)] M N) ∨
      (l = nI lane ∧ 0 ≤ n.toInt ∧ (0 ≤ i.toInt ∧ i.toInt + 3 * n.toInt ≤ len) ∧ ((∃ v, (zpls cc n.toInt.toNat i.toInt.toNat L).1 = some v ∧ r = some (.int v) ∧ zRr dom q W N L) ∨ ((zpls cc n.toInt.toNat i.toInt.toNat L).1 = none ∧ r = some (.int (nI (zpls cc n.toInt.toNat i.toInt.toNat L).2.length)) ∧ zRr dom q W N (zpls cc n.toInt.toNat i.toInt.toNat L).2)) ∧ zKp [94, 95, 96, 102] [(93, 0), (93, 7)] M N)) := by
                intro hb lv _ hsub
                refine yR.drop hsub ?_
                refine yR.adv 2 (pc' := 125) (lv' := [(0, .ref 93)]) (st' := [.int 3, .ref 93]) (M' := M0) rfl ?_
                refine yR.callK (M1 := zup M0 93 0 3) _ rfl rfl rfl rfl rfl (r_fails M0 3) ?_
                show yR 128 128 [(0, .ref 93)] [.int (-13)] (zup M0 93 0 3) _
                refine yR.ret _ rfl rfl rfl ?_
                exact Or.inr (Or.inr (Or.inl ⟨z1, q6', hb, rfl, E0.up (by simp)⟩))
              refine yR.adv 1 (pc' := 90) (lv' := [(0, .ref 93), (1, .int (nI s)), (2, .int l), (3, .int i), (4, .int n)]) (st' := [.int i]) (M' := M0) rfl ?_
              refine yR.if1 .lt _ _ _ _ rfl (fun q7 => ?_) (fun q7 => ?_)
              · have q7' : i.toInt < 0 := zcT q7 rfl rfl
                exact bad (by omega) _ rfl (by refine ⟨?_, ?_⟩ <;> simp [zget, zwf])
              · have q7' : ¬ i.toInt < 0 := zcF q7 rfl rfl
                refine yR.adv 4 (pc' := 99) (lv' := [(0, .ref 93), (1, .int (nI s)), (2, .int l), (3, .int i), (4, .int n)]) (st' := [.int (nI s), .ref 100, .int i]) (M' := M0) rfl ?_
                refine yR.iald s _ _ _ rfl rfl (by decide) (rfl) (by omega) ?_
                rw [hN']
                refine yR.if2 .gt _ _ _ _ rfl (fun q8 => ?_) (fun q8 => ?_)
                · have q8' : (len : Int) < i.toInt := zcT q8 rfl (nI_toInt (by omega))
                  exact bad (by omega) _ rfl (by refine ⟨?_, ?_⟩ <;> simp [zget, zwf])
                · have q8' : ¬ (len : Int) < i.toInt := zcF q8 rfl (nI_toInt (by omega))
                  have tm : ((3 : Int64) * n.toInt64).toInt = 3 * n.toInt := by
                    have hz := zmul_ok (x := (3 : Int64)) (y := n.toInt64) (A := 3) (B := 2 ^ 31) (by decide) (by rw [Int32.toInt_toInt64]; omega) (by decide)
                    rw [hz.1, Int32.toInt_toInt64]
                    rfl
                  have td : (nI len - i).toInt64.toInt = len - i.toInt := by rw [Int32.toInt_toInt64, nI_iI, ← iI_of i, iI_sub, iI_of, iI_toInt (by omega)]
                  refine yR.adv 7 (pc' := 115) (lv' := [(0, .ref 93), (1, .int (nI s)), (2, .int l), (3, .int i), (4, .int n)]) (st' := [.int (nI s), .ref 100, .long (3 * n.toInt64)]) (M' := M0) rfl ?_
                  refine yR.iald s _ _ _ rfl rfl (by decide) (rfl) (by omega) ?_
                  rw [hN']
                  refine yR.adv 4 (pc' := 120) (lv' := [(0, .ref 93), (1, .int (nI s)), (2, .int l), (3, .int i), (4, .int n)]) (st' := [.int (lg_cmp (3 * n.toInt64) (((nI len) - i).toInt64))]) (M' := M0) rfl ?_
                  refine yR.if1 .le _ _ _ _ rfl (fun q9 => ?_) (fun q9 => ?_)
                  · have q9' : 3 * n.toInt ≤ len - i.toInt := zlT q9 tm td
                    have ei : i = nI i.toInt.toNat := by rw [nI_iI, Int.toNat_of_nonneg (by omega), iI_of]
                    have en : n = nI n.toInt.toNat := by rw [nI_iI, Int.toNat_of_nonneg (by omega), iI_of]
                    refine yR.adv 5 (pc' := 138) (lv' := [(6, .int 0), (5, .int (M0.1 93 7)), (0, .ref 93), (1, .int (nI s)), (2, .int l), (3, .int i), (4, .int n)]) (st' := []) (M' := M0) rfl ?_
                    rw [R0.1.1]
                    refine yR.drop (lv := [(0, .ref 93), (1, .int (nI s)), (2, .int l), (3, .int i), (4, .int n), (5, .int (nI L.length)), (6, .int (nI 0))]) (by refine ⟨?_, ?_⟩ <;> simp [zget, zwf] <;> rfl) ?_
                    refine r_save_loop M0 (nI s) l i n L.length R0.1.2.1 (fun M1 s1 e1 => ?_) L.length 0 M0 (Nat.zero_add _) (fun k hk => absurd hk (by omega)) (zKp.refl _ _ _)
                    have R1 : zRr dom q W M1 L := R0.keep (fun i z1 z2 => (e1 93 i (by decide) (by simp)).1) (fun a i z1 z2 => (e1 a i (by simp <;> omega) (by simp)).1)
                    refine yR.adv 2 (pc' := 168) (lv' := [(6, .int 0), (0, .ref 93), (1, .int (nI s)), (2, .int l), (3, .int i), (4, .int n), (5, .int (nI L.length))]) (st' := []) (M' := M1) rfl ?_
                    refine yR.drop (lv := [(0, .ref 93), (1, .int (nI s)), (2, .int l), (3, .int (nI i.toInt.toNat)), (4, .int (nI n.toInt.toNat)), (5, .int (nI L.length)), (6, .int (nI 0))]) (by rw [← ei, ← en]; refine ⟨?_, ?_⟩ <;> simp [zget, zwf] <;> rfl) ?_
                    have F1 : zKp [94, 95, 96, 102] [(93, 0), (93, 7)] M M1 := (E0.sub (by decide)).trans (e1.sub (by decide))
                    refine r_places_loop M1 dom q W L R1 (fun p hp => by rw [s1 p hp, (e1 96 p (by decide) (by simp)).1]) cc s hs l i.toInt.toNat n.toInt.toNat (by omega) (fun j hj => by rw [(e1 101 (72 * s + j) (by decide) (by simp)).1, (E0 101 (72 * s + j) (by simp) (by simp)).1]; exact hcc j hj) (zpls cc n.toInt.toNat i.toInt.toNat L) (fun v hv M2 R2 e2 => Or.inr (Or.inr (Or.inr ⟨z1, q6', ⟨by omega, by omega⟩, Or.inl ⟨v, hv, rfl, R2⟩, F1.trans (e2.sub (by decide))⟩))) (fun hv M2 R2 e2 => ?_) n.toInt.toNat 0 M1 L (Nat.zero_add _) R1 (Nat.le_refl _) (fun p hp => ⟨rfl, rfl, rfl⟩) (zKp.refl _ _ _) rfl
                    refine yR.adv 2 (pc' := 304) (lv' := [(0, .ref 93)]) (st' := [.int (M2.1 93 7)]) (M' := M2) rfl ?_
                    rw [R2.1.1]
                    refine yR.ret _ rfl rfl rfl ?_
                    exact Or.inr (Or.inr (Or.inr ⟨z1, q6', ⟨by omega, by omega⟩, Or.inr ⟨hv, rfl, R2⟩, F1.trans (e2.sub (by decide))⟩))
                  · have q9' : ¬ 3 * n.toInt ≤ len - i.toInt := zlF q9 tm td
                    exact bad (by omega) _ rfl (by refine ⟨?_, ?_⟩ <;> simp [zget, zwf])
            · have q6' : ¬ 0 ≤ n.toInt := zcF q6 rfl rfl
              refine yR.adv 2 (pc' := 85) (lv' := [(0, .ref 93), (1, .int (nI s)), (2, .int l), (3, .int i), (4, .int n)]) (st' := [.int 4, .ref 93]) (M' := M0) rfl ?_
              refine yR.callK (M1 := zup M0 93 0 4) _ rfl rfl rfl rfl rfl (r_fails M0 4) ?_
              show yR 128 88 [(0, .ref 93), (1, .int (nI s)), (2, .int l), (3, .int i), (4, .int n)] [.int (-14)] (zup M0 93 0 4) _
              refine yR.ret _ rfl rfl rfl ?_
              exact Or.inr (Or.inl ⟨z1, by omega, rfl, E0.up (by simp)⟩)
          · exact absurd (zne_f q5) (nI_nm9 lane (by omega))
        · have z1 := zeq_f q4
          refine yR.adv 2 (pc' := 57) (lv' := [(0, .ref 93), (1, .int (nI s)), (2, .int l), (3, .int i), (4, .int n)]) (st' := [.int 2, .ref 93]) (M' := M0) rfl ?_
          refine yR.callK (M1 := zup M0 93 0 2) _ rfl rfl rfl rfl rfl (r_fails M0 2) ?_
          show yR 128 60 [(0, .ref 93), (1, .int (nI s)), (2, .int l), (3, .int i), (4, .int n)] [.int (-12)] (zup M0 93 0 2) _
          refine yR.ret _ rfl rfl rfl ?_
          exact Or.inl ⟨fun z => z1 z.symm, rfl, E0.up (by simp)⟩
    · exact absurd q2 (by decide)
  · exact absurd q1 (by decide)
