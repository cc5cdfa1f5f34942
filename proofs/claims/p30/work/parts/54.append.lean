/-! ===== orbits of a grid: isLeastOfOrbit, append ===== -/
def zleP (dom : Nat) (q a b : Int) : Prop := a ≤ b ∧ b ≤ (if dom = 1 then q - a - b else 0)
theorem m_isLeast (M : zMm) (dom : Nat) (hdom : dom < 3) (q a b : Int) (h0 : M.1 12 0 = nI dom) (h1 : M.1 12 1 = iI q) (hq : 0 ≤ q ∧ q ≤ 100) (ha : -100 ≤ a ∧ a ≤ 100) (hb : -100 ≤ b ∧ b ≤ 100) (v : Int32) (hv : (zleP dom q a b ∧ v = 1) ∨ (¬ zleP dom q a b ∧ v = 0)) :
    yR 7 0 [(0, .ref 12), (1, .int (iI a)), (2, .int (iI b))] [] M (fun r N => r = some (.int v) ∧ N = M) := by
  have tail : ∀ z : Int, z = (if dom = 1 then q - a - b else 0) → yR 7 20 [(0, .ref 12), (1, .int (iI a)), (2, .int (iI b))] [.int (iI z)] M (fun r N => r = some (.int v) ∧ N = M) := by
    intro z hz
    have hz' : -300 ≤ z ∧ z ≤ 300 := by rw [hz]; split <;> omega
    refine yR.adv 3 (pc' := 23) (lv' := [(3, .int (iI z)), (0, .ref 12), (1, .int (iI a)), (2, .int (iI b))]) (st' := [.int (iI b), .int (iI a)]) (M' := M) rfl ?_
    refine yR.if2 .gt _ _ _ _ rfl (fun q1 => ?_) (fun q1 => ?_)
    · have q1' : b < a := zcT q1 (iI_toInt (by omega)) (iI_toInt (by omega))
      have hv0 : v = 0 := hv.elim (fun p => by have := p.1.1; omega) (fun p => p.2)
      refine yR.adv 1 (pc' := 36) (lv' := [(3, .int (iI z)), (0, .ref 12), (1, .int (iI a)), (2, .int (iI b))]) (st' := [.int 0]) (M' := M) rfl ?_
      refine yR.ret _ rfl rfl rfl ?_
      exact ⟨by rw [hv0], rfl⟩
    · have q1' : ¬ b < a := zcF q1 (iI_toInt (by omega)) (iI_toInt (by omega))
      refine yR.adv 2 (pc' := 28) (lv' := [(3, .int (iI z)), (0, .ref 12), (1, .int (iI a)), (2, .int (iI b))]) (st' := [.int (iI z), .int (iI b)]) (M' := M) rfl ?_
      refine yR.if2 .gt _ _ _ _ rfl (fun q2 => ?_) (fun q2 => ?_)
      · have q2' : z < b := zcT q2 (iI_toInt (by omega)) (iI_toInt (by omega))
        have hv0 : v = 0 := hv.elim (fun p => by have := p.1.2; rw [← hz] at this; omega) (fun p => p.2)
        refine yR.adv 1 (pc' := 36) (lv' := [(3, .int (iI z)), (0, .ref 12), (1, .int (iI a)), (2, .int (iI b))]) (st' := [.int 0]) (M' := M) rfl ?_
        refine yR.ret _ rfl rfl rfl ?_
        exact ⟨by rw [hv0], rfl⟩
      · have q2' : ¬ z < b := zcF q2 (iI_toInt (by omega)) (iI_toInt (by omega))
        have hv0 : v = 1 := hv.elim (fun p => p.2) (fun p => absurd ⟨by omega, by rw [← hz]; omega⟩ p.1)
        refine yR.adv 2 (pc' := 36) (lv' := [(3, .int (iI z)), (0, .ref 12), (1, .int (iI a)), (2, .int (iI b))]) (st' := [.int 1]) (M' := M) rfl ?_
        refine yR.ret _ rfl rfl rfl ?_
        exact ⟨by rw [hv0], rfl⟩
  refine yR.adv 3 (pc' := 5) (lv' := [(0, .ref 12), (1, .int (iI a)), (2, .int (iI b))]) (st' := [.int 1, .int (M.1 12 0)]) (M' := M) rfl ?_
  rw [h0]
  refine yR.if2 .ne _ _ _ _ rfl (fun q1 => ?_) (fun q1 => ?_)
  · have q1' : ¬ (dom : Int) = 1 := zcT q1 (nI_toInt (by omega)) rfl
    refine yR.adv 1 (pc' := 20) (lv' := [(0, .ref 12), (1, .int (iI a)), (2, .int (iI b))]) (st' := [.int 0]) (M' := M) rfl ?_
    exact tail 0 (by rw [if_neg (by omega)])
  · have q1' : ¬ ¬ (dom : Int) = 1 := zcF q1 (nI_toInt (by omega)) rfl
    refine yR.adv 7 (pc' := 20) (lv' := [(0, .ref 12), (1, .int (iI a)), (2, .int (iI b))]) (st' := [.int (((M.1 12 1) - (iI a)) - (iI b))]) (M' := M) rfl ?_
    rw [h1, iI_sub, iI_sub]
    exact tail (q - a - b) (by rw [if_pos (by omega)])
/-- the sums over an orbit's places, as they come -/
def zps (l : List zPt) (t : Nat) : Int64 := l.foldl (fun acc p => acc + zpp p t) 0
theorem zps_app (l : List zPt) (p : zPt) (t : Nat) : zps (l ++ [p]) t = zps l t + zpp p t := by unfold zps; rw [List.foldl_append]; rfl
theorem ztake_s {l : List zPt} {i : Nat} {p : zPt} (h : l[i]? = some p) : l.take (i + 1) = l.take i ++ [p] := by rw [List.take_add_one, h]; rfl
theorem m_append_loop (M0 : zMm) (s : Nat) (hs : s < 28) (l : List zPt) (x y z : Int32) : ∀ (d i : Nat) (M : zMm), i + d = l.length → zOrb 9 2 10 11 M l → M.1 12 2 = nI s → (∀ t, t < 21 → M.2 (18 + s) t = zps (l.take i) t) → zKp [18 + s, 48, 49] [] M0 M →
    yR 8 93 [(0, .ref 12), (1, .int x), (2, .int y), (3, .ref 9), (4, .int z), (5, .int (nI i))] [] M (fun r N => r = none ∧ N.1 12 2 = nI (s + 1) ∧ (∀ t, t < 21 → N.2 (18 + s) t = zps l t) ∧ zKp [18 + s, 48, 49] [(12, 2)] M0 N) := by
  intro d
  induction d using Nat.strongRecOn with
  | ind d ih =>
    intro i M h hO hsz hp hE
    have hlen := hO.2.1
    refine yR.adv 3 (pc' := 99) (lv' := [(0, .ref 12), (1, .int x), (2, .int y), (3, .ref 9), (4, .int z), (5, .int (nI i))]) (st' := [.int (M.1 9 2), .int (nI i)]) (M' := M) rfl ?_
    rw [hO.1]
    refine yR.if2 .ge _ _ _ _ rfl (fun q => ?_) (fun q => ?_)
    · have q' : (l.length : Int) ≤ i := zcT q (nI_toInt (by omega)) (nI_toInt (by omega))
      refine yR.adv 6 (pc' := 145) (lv' := [(0, .ref 12), (1, .int x), (2, .int y), (3, .ref 9), (4, .int z), (5, .int (nI i))]) (st' := []) (M' := zup M 12 2 ((M.1 12 2) + 1)) rfl ?_
      rw [hsz]
      refine yR.ret _ rfl rfl rfl ?_
      refine ⟨rfl, ?_, fun t ht => ?_, ?_⟩
      · rw [zup_i, if_pos ⟨rfl, rfl⟩, nI_succ]
      · rw [zup_l, hp t ht, List.take_of_length_le (by omega)]
      · exact (hE.mono (fun a h => h) (by simp)).up (by simp)
    · have q' : ¬ (l.length : Int) ≤ i := zcF q (nI_toInt (by omega)) (nI_toInt (by omega))
      obtain ⟨p, hp1, hp2, hp3⟩ := hO.at (show i < l.length by omega)
      refine yR.adv 5 (pc' := 111) (lv' := [(0, .ref 12), (1, .int x), (2, .int y), (3, .ref 9), (4, .int z), (5, .int (nI i))]) (st' := [.int (M.1 12 2), .ref 17, .ref 12]) (M' := M) rfl ?_
      rw [hsz]
      refine yR.row s _ _ _ rfl (rfl) (by omega) ?_
      refine yR.adv 3 (pc' := 118) (lv' := [(0, .ref 12), (1, .int x), (2, .int y), (3, .ref 9), (4, .int z), (5, .int (nI i))]) (st' := [.int (nI i), .ref 10, .ref (18 + s), .ref 12]) (M' := M) rfl ?_
      refine yR.iald i _ _ _ rfl rfl (by decide) (rfl) (by omega) ?_
      refine yR.adv 3 (pc' := 125) (lv' := [(0, .ref 12), (1, .int x), (2, .int y), (3, .ref 9), (4, .int z), (5, .int (nI i))]) (st' := [.int (nI i), .ref 11, .int (M.1 10 i), .ref (18 + s), .ref 12]) (M' := M) rfl ?_
      refine yR.iald i _ _ _ rfl rfl (by decide) (rfl) (by omega) ?_
      rw [hp2, hp3]
      refine yR.call _ rfl rfl rfl rfl rfl (m_addPow M s hs p) (fun r1 M1 hq => ?_)
      obtain ⟨rfl, h1, e1⟩ := hq
      show yR 8 129 [(0, .ref 12), (1, .int x), (2, .int y), (3, .ref 9), (4, .int z), (5, .int (nI i))] [] M1 _
      refine yR.adv 2 (pc' := 93) (lv' := [(5, .int (nI i + 1)), (0, .ref 12), (1, .int x), (2, .int y), (3, .ref 9), (4, .int z)]) (st' := []) (M' := M1) rfl ?_
      have fr : ∀ a j, a ≠ 18 + s → a ≠ 48 → a ≠ 49 → M1.1 a j = M.1 a j := fun a j n1 n2 n3 => (e1 a j (by simp [n1, n2, n3]) (by simp)).1
      have K := ih (d - 1) (by omega) (i + 1) M1 (by omega) ⟨by rw [fr 9 2 (by omega) (by omega) (by omega)]; exact hO.1, hO.2.1, fun j p hj => by rw [fr 10 j (by omega) (by omega) (by omega), fr 11 j (by omega) (by omega) (by omega)]; exact hO.2.2 j p hj⟩ (by rw [fr 12 2 (by omega) (by omega) (by omega)]; exact hsz) (fun t ht => by rw [h1 t ht, hp t ht, ztake_s hp1, zps_app]) (hE.trans e1)
      exact K.drop (by refine ⟨?_, ?_⟩ <;> simp [zget, zwf, nI_succ] <;> omega)
def zz (dom : Nat) (q a b : Int) : Int := if dom = 1 then q - a - b else 0
theorem m_append (M : zMm) (s : Nat) (hs : s < 28) (l : List zPt) (hO : zOrb 9 2 10 11 M l) (hsz : M.1 12 2 = nI s) (dom : Nat) (hdom : dom < 3) (q a b : Int) (h0 : M.1 12 0 = nI dom) (h1 : M.1 12 1 = iI q) :
    yR 8 0 [(0, .ref 12), (1, .int (iI a)), (2, .int (iI b)), (3, .ref 9)] [] M (fun r N => r = none ∧ N.1 12 2 = nI (s + 1) ∧ N.1 13 s = iI a ∧ N.1 14 s = iI b ∧ N.1 15 s = nI l.length ∧ N.1 16 s = iI (a * a + b * b + zz dom q a b * zz dom q a b) ∧ (∀ t, t < 21 → N.2 (18 + s) t = zps l t) ∧ zKp [18 + s, 48, 49] [(12, 2), (13, s), (14, s), (15, s), (16, s)] M N) := by
  have tail : ∀ z : Int, z = zz dom q a b → yR 8 20 [(0, .ref 12), (1, .int (iI a)), (2, .int (iI b)), (3, .ref 9)] [.int (iI z)] M (fun r N => r = none ∧ N.1 12 2 = nI (s + 1) ∧ N.1 13 s = iI a ∧ N.1 14 s = iI b ∧ N.1 15 s = nI l.length ∧ N.1 16 s = iI (a * a + b * b + zz dom q a b * zz dom q a b) ∧ (∀ t, t < 21 → N.2 (18 + s) t = zps l t) ∧ zKp [18 + s, 48, 49] [(12, 2), (13, s), (14, s), (15, s), (16, s)] M N) := by
    intro z hz
    refine yR.adv 6 (pc' := 31) (lv' := [(4, .int (iI z)), (0, .ref 12), (1, .int (iI a)), (2, .int (iI b)), (3, .ref 9)]) (st' := [.int (iI a), .int (M.1 12 2), .ref 13]) (M' := M) rfl ?_
    refine yR.iast s _ _ _ rfl rfl (by decide) (hsz) (by omega) ?_
    generalize g1 : zup M 13 s (iI a) = M1
    have s1 : M1.1 12 2 = nI s := by rw [← g1, zup_i, if_neg (by omega)]; exact hsz
    refine yR.adv 5 (pc' := 41) (lv' := [(4, .int (iI z)), (0, .ref 12), (1, .int (iI a)), (2, .int (iI b)), (3, .ref 9)]) (st' := [.int (iI b), .int (M1.1 12 2), .ref 14]) (M' := M1) rfl ?_
    refine yR.iast s _ _ _ rfl rfl (by decide) (s1) (by omega) ?_
    generalize g2 : zup M1 14 s (iI b) = M2
    have s2 : M2.1 12 2 = nI s := by rw [← g2, zup_i, if_neg (by omega)]; exact s1
    have o2 : M2.1 9 2 = nI l.length := by rw [← g2, ← g1, zup_i, if_neg (by omega), zup_i, if_neg (by omega)]; exact hO.1
    refine yR.adv 6 (pc' := 54) (lv' := [(4, .int (iI z)), (0, .ref 12), (1, .int (iI a)), (2, .int (iI b)), (3, .ref 9)]) (st' := [.int (M2.1 9 2), .int (M2.1 12 2), .ref 15]) (M' := M2) rfl ?_
    refine yR.iast s _ _ _ rfl rfl (by decide) (s2) (by omega) ?_
    rw [o2]
    generalize g3 : zup M2 15 s (nI l.length) = M3
    have s3 : M3.1 12 2 = nI s := by rw [← g3, zup_i, if_neg (by omega)]; exact s2
    refine yR.adv 15 (pc' := 76) (lv' := [(4, .int (iI z)), (0, .ref 12), (1, .int (iI a)), (2, .int (iI b)), (3, .ref 9)]) (st' := [.int ((((iI a) * (iI a)) + ((iI b) * (iI b))) + ((iI z) * (iI z))), .int (M3.1 12 2), .ref 16]) (M' := M3) rfl ?_
    rw [iI_mul, iI_mul, iI_add, iI_mul, iI_add]
    refine yR.iast s _ _ _ rfl rfl (by decide) (s3) (by omega) ?_
    generalize g4 : zup M3 16 s (iI (a * a + b * b + z * z)) = M4
    have s4 : M4.1 12 2 = nI s := by rw [← g4, zup_i, if_neg (by omega)]; exact s3
    have E4 : zKp [] [(13, s), (14, s), (15, s), (16, s)] M M4 := by
      rw [← g4, ← g3, ← g2, ← g1]
      exact ((((zKp.refl _ _ M).up (by simp)).up (by simp)).up (by simp)).up (by simp)
    have r13 : M4.1 13 s = iI a := by rw [← g4, ← g3, ← g2, ← g1]; simp [zup_i]
    have r14 : M4.1 14 s = iI b := by rw [← g4, ← g3, ← g2]; simp [zup_i]
    have r15 : M4.1 15 s = nI l.length := by rw [← g4, ← g3]; simp [zup_i]
    have r16 : M4.1 16 s = iI (a * a + b * b + z * z) := by rw [← g4]; simp [zup_i]
    have O4 : zOrb 9 2 10 11 M4 l := ⟨by rw [(E4 9 2 (by simp) (by simp)).1]; exact hO.1, hO.2.1, fun j p hj => by rw [(E4 10 j (by simp) (by simp)).1, (E4 11 j (by simp) (by simp)).1]; exact hO.2.2 j p hj⟩
    refine yR.adv 4 (pc' := 85) (lv' := [(4, .int (iI z)), (0, .ref 12), (1, .int (iI a)), (2, .int (iI b)), (3, .ref 9)]) (st' := [.int (M4.1 12 2), .ref 17]) (M' := M4) rfl ?_
    refine yR.row s _ _ _ rfl (s4) (by omega) ?_
    refine yR.adv 1 (pc' := 87) (lv' := [(4, .int (iI z)), (0, .ref 12), (1, .int (iI a)), (2, .int (iI b)), (3, .ref 9)]) (st' := [.long 0, .ref (18 + s)]) (M' := M4) rfl ?_
    refine yR.call _ rfl rfl rfl rfl rfl (m_fillL M4 s hs) (fun r1 M5 hq => ?_)
    obtain ⟨rfl, f5, e5⟩ := hq
    show yR 8 90 [(4, .int (iI z)), (0, .ref 12), (1, .int (iI a)), (2, .int (iI b)), (3, .ref 9)] [] M5 _
    have fr : ∀ a' j, a' ≠ 18 + s → M5.1 a' j = M4.1 a' j := fun a' j n1 => (e5 a' j (by simp [n1]) (by simp)).1
    refine yR.adv 2 (pc' := 93) (lv' := [(5, .int 0), (4, .int (iI z)), (0, .ref 12), (1, .int (iI a)), (2, .int (iI b)), (3, .ref 9)]) (st' := []) (M' := M5) rfl ?_
    have K := m_append_loop M5 s hs l (iI a) (iI b) (iI z) l.length 0 M5 (by omega) ⟨by rw [fr 9 2 (by omega)]; exact O4.1, O4.2.1, fun j p hj => by rw [fr 10 j (by omega), fr 11 j (by omega)]; exact O4.2.2 j p hj⟩ (by rw [fr 12 2 (by omega)]; exact s4) (fun t ht => by rw [f5 t ht]; rfl) (zKp.refl _ _ _)
    refine (yR.drop (by refine ⟨?_, ?_⟩ <;> simp [zget, zwf, nI_0] <;> omega) K).mono (fun r N hN => ?_)
    obtain ⟨n1, n2, n3, n4⟩ := hN
    have fN : ∀ a' j, a' ≠ 18 + s → a' ≠ 48 → a' ≠ 49 → a' ≠ 12 → N.1 a' j = M4.1 a' j := fun a' j k1 k2 k3 k4 => by rw [(n4 a' j (by simp [k1, k2, k3]) (by simp [k4])).1, fr a' j k1]
    refine ⟨n1, n2, ?_, ?_, ?_, ?_, n3, ?_⟩
    · rw [fN 13 s (by omega) (by omega) (by omega) (by omega)]; exact r13
    · rw [fN 14 s (by omega) (by omega) (by omega) (by omega)]; exact r14
    · rw [fN 15 s (by omega) (by omega) (by omega) (by omega)]; exact r15
    · rw [fN 16 s (by omega) (by omega) (by omega) (by omega), r16, hz]
    · exact ((E4.mono (by simp) (by simp <;> omega)).trans (e5.mono (by simp) (by simp))).trans (n4.mono (by simp) (by simp))
  refine yR.adv 3 (pc' := 5) (lv' := [(0, .ref 12), (1, .int (iI a)), (2, .int (iI b)), (3, .ref 9)]) (st' := [.int 1, .int (M.1 12 0)]) (M' := M) rfl ?_
  rw [h0]
  refine yR.if2 .ne _ _ _ _ rfl (fun q1 => ?_) (fun q1 => ?_)
  · have q1' : ¬ (dom : Int) = 1 := zcT q1 (nI_toInt (by omega)) rfl
    refine yR.adv 1 (pc' := 20) (lv' := [(0, .ref 12), (1, .int (iI a)), (2, .int (iI b)), (3, .ref 9)]) (st' := [.int 0]) (M' := M) rfl ?_
    exact tail 0 (by unfold zz; rw [if_neg (by omega)])
  · have q1' : ¬ ¬ (dom : Int) = 1 := zcF q1 (nI_toInt (by omega)) rfl
    refine yR.adv 7 (pc' := 20) (lv' := [(0, .ref 12), (1, .int (iI a)), (2, .int (iI b)), (3, .ref 9)]) (st' := [.int (((M.1 12 1) - (iI a)) - (iI b))]) (M' := M) rfl ?_
    rw [h1, iI_sub, iI_sub]
    exact tail (q - a - b) (by unfold zz; rw [if_pos (by omega)])
