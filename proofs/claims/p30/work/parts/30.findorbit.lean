/-! ===== findOrbit of the reference; the order in which places come doesn't matter ===== -/
theorem i32_lt {a b : Int32} : a < b ↔ a.toInt < b.toInt := Int32.lt_iff_toInt_lt
theorem i32_eq {a b : Int32} : a = b ↔ a.toInt = b.toInt := Int32.toInt_inj.symm
theorem zpl_tri (a b : zPt) : zpl a b ∨ a = b ∨ zpl b a := by
  obtain ⟨a1, a2⟩ := a
  obtain ⟨b1, b2⟩ := b
  unfold zpl
  simp only [Prod.mk.injEq, i32_lt, i32_eq]
  omega
theorem zpl_tr {a b c : zPt} (h1 : zpl a b) (h2 : zpl b c) : zpl a c := by
  obtain ⟨a1, a2⟩ := a
  obtain ⟨b1, b2⟩ := b
  obtain ⟨c1, c2⟩ := c
  unfold zpl at *
  simp only [i32_lt, i32_eq] at *
  omega
theorem zpl_ir (a : zPt) : ¬ zpl a a := by
  unfold zpl
  simp only [i32_lt, i32_eq]
  omega
theorem zpl_as {a b : zPt} (h : zpl a b) : ¬ zpl b a := fun h2 => zpl_ir a (zpl_tr h h2)
theorem zpl_ne {a b : zPt} (h : zpl a b) : ¬ a = b := fun h2 => by rw [h2] at h; exact zpl_ir b h
theorem oins_lt {q p : zPt} {r : List zPt} (h : zpl q p) : oins (q :: r) p = q :: oins r p := by rw [oins, if_pos h]
theorem oins_same {q : zPt} {r : List zPt} : oins (q :: r) q = q :: r := by rw [oins, if_neg (zpl_ir q), if_pos rfl]
theorem oins_gt {q p : zPt} {r : List zPt} (h : zpl p q) : oins (q :: r) p = p :: q :: r := by rw [oins, if_neg (zpl_as h), if_neg (fun e => zpl_ne h e.symm)]
theorem oins_nil (p : zPt) : oins [] p = [p] := rfl
theorem oins_comm (p q : zPt) : ∀ l : List zPt, oins (oins l p) q = oins (oins l q) p
  | [] => by
    rw [oins_nil, oins_nil]
    rcases zpl_tri p q with h | h | h
    · rw [oins_lt h, oins_nil, oins_gt h]
    · subst h; rfl
    · rw [oins_gt h, oins_lt h, oins_nil]
  | a :: r => by
    rcases zpl_tri a p with h1 | h1 | h1 <;> rcases zpl_tri a q with h2 | h2 | h2
    · rw [oins_lt h1, oins_lt h2, oins_lt h2, oins_lt h1, oins_comm p q r]
    · subst h2
      rw [oins_lt h1, oins_same, oins_same, oins_lt h1]
    · rw [oins_lt h1, oins_gt h2, oins_gt h2, oins_lt (zpl_tr h2 h1), oins_lt h1]
    · subst h1
      rw [oins_same, oins_lt h2, oins_same]
    · subst h1; subst h2; rfl
    · subst h1
      rw [oins_same, oins_gt h2, oins_lt h2, oins_same]
    · rw [oins_gt h1, oins_lt h2, oins_gt h1, oins_lt (zpl_tr h1 h2), oins_lt h2]
    · subst h2
      rw [oins_gt h1, oins_lt h1, oins_same, oins_gt h1]
    · rw [oins_gt h1, oins_gt h2]
      rcases zpl_tri p q with h | h | h
      · rw [oins_lt h, oins_gt h2, oins_gt h]
      · subst h; rfl
      · rw [oins_gt h, oins_lt h, oins_gt h1]
def zpsR (dom q x y : Int32) : List zPt := if dom = 1 then [(x, y), (y, x), (x, q - x - y), (q - x - y, x), (y, q - x - y), (q - x - y, y)] else [(x, y), (y, x), (-x, y), (y, -x), (x, -y), (-y, x), (-x, -y), (-y, -x)]
/-- both come to the same places -/
theorem zps_same (dom q x y : Int32) : ofold [] (zpsM dom q x y) = ofold [] (zpsR dom q x y) := by
  unfold zpsM zpsR
  split
  · rfl
  · unfold ofold
    simp only [List.foldl]
    congr 2
    rw [oins_comm (-y, x) (-x, y), oins_comm (x, -y) (-x, y), oins_comm (-y, x) (y, -x), oins_comm (x, -y) (y, -x)]
def zru (k : Nat) (x : Int32) : Int32 := if k % 2 = 1 then -x else x
def zrv (k : Nat) (y : Int32) : Int32 := if k < 2 then y else -y
def zrps (x y : Int32) : Nat → Nat → List zPt
  | 0, _ => []
  | d + 1, k => (zru k x, zrv k y) :: (zrv k y, zru k x) :: zrps x y d (k + 1)
theorem r_orbit_loop (q x y : Int32) : ∀ (d k : Nat) (M : zMm) (l : List zPt), k + d = 4 → zOrb 93 13 97 98 M l → l.length ≤ 2 * k → yOk 119 64 [(0, .ref 93), (1, .int x), (2, .int y), (3, .int q), (4, .int (nI k))] [] M none (zfold 93 13 97 98 M l (zrps x y d k))
  | 0, k, M, l, h, hO, hl => by
    have : k = 4 := by omega
    subst this
    refine yOk.adv 2 (pc' := 67) (lv' := [(0, .ref 93), (1, .int x), (2, .int y), (3, .int q), (4, .int (nI 4))]) (st' := [.int 4, .int (nI 4)]) (M' := M) rfl ?_
    refine yOk.if2 .ge _ _ _ _ rfl (fun c1 => ?_) (fun c1 => ?_)
    · exact yOk.ret _ rfl rfl rfl
    · exact absurd c1 (by decide)
  | d + 1, k, M, l, h, hO, hl => by
    have two : ¬ (2 : Int32) = 0 := by decide
    have h1 := oins_len l (zru k x, zrv k y)
    have h2 := oins_len (oins l (zru k x, zrv k y)) (zrv k y, zru k x)
    obtain ⟨a1, a2⟩ := zinsR_ok (p := (zru k x, zrv k y)) (by decide) (by decide) (by decide) hO (by omega)
    obtain ⟨b1, b2⟩ := zinsR_ok (p := (zrv k y, zru k x)) (by decide) (by decide) (by decide) a1 (by omega)
    have ih := r_orbit_loop q x y d (k + 1) _ _ (by omega) b1 (by omega)
    -- the last stretch
    have K2 : yOk 119 97 [(5, .int (zru k x)), (0, .ref 93), (1, .int x), (2, .int y), (3, .int q), (4, .int (nI k))] [.int (zrv k y)] M none (zfold 93 13 97 98 M l (zrps x y (d + 1) k)) := by
      refine yOk.adv 4 (pc' := 104) (lv' := [(6, .int (zrv k y)), (5, .int (zru k x)), (0, .ref 93), (1, .int x), (2, .int y), (3, .int q), (4, .int (nI k))]) (st' := [.int (zrv k y), .int (zru k x), .ref 93]) (M' := M) rfl ?_
      refine yOk.call (M1 := zinsR 93 13 97 98 M l (zru k x, zrv k y)) _ rfl rfl rfl rfl rfl (r_take M l hO (zru k x, zrv k y) (by omega)) ?_
      show yOk 119 107 [(6, .int (zrv k y)), (5, .int (zru k x)), (0, .ref 93), (1, .int x), (2, .int y), (3, .int q), (4, .int (nI k))] [] (zinsR 93 13 97 98 M l (zru k x, zrv k y)) _ _
      refine yOk.adv 3 (pc' := 112) (lv' := [(6, .int (zrv k y)), (5, .int (zru k x)), (0, .ref 93), (1, .int x), (2, .int y), (3, .int q), (4, .int (nI k))]) (st' := [.int (zru k x), .int (zrv k y), .ref 93]) (M' := zinsR 93 13 97 98 M l (zru k x, zrv k y)) rfl ?_
      refine yOk.call (M1 := zinsR 93 13 97 98 (zinsR 93 13 97 98 M l (zru k x, zrv k y)) (oins l (zru k x, zrv k y)) (zrv k y, zru k x)) _ rfl rfl rfl rfl rfl (r_take _ _ a1 (zrv k y, zru k x) (by omega)) ?_
      show yOk 119 115 [(6, .int (zrv k y)), (5, .int (zru k x)), (0, .ref 93), (1, .int x), (2, .int y), (3, .int q), (4, .int (nI k))] [] (zinsR 93 13 97 98 (zinsR 93 13 97 98 M l (zru k x, zrv k y)) (oins l (zru k x, zrv k y)) (zrv k y, zru k x)) _ _
      refine yOk.adv 2 (pc' := 64) (lv' := [(4, .int (nI k + 1)), (6, .int (zrv k y)), (5, .int (zru k x)), (0, .ref 93), (1, .int x), (2, .int y), (3, .int q)]) (st' := []) (M' := zinsR 93 13 97 98 (zinsR 93 13 97 98 M l (zru k x, zrv k y)) (oins l (zru k x, zrv k y)) (zrv k y, zru k x)) rfl ?_
      rw [nI_succ] at ih
      exact ih.drop (by refine ⟨?_, ?_⟩ <;> simp [zget, zwf])
    have K1 : yOk 119 83 [(0, .ref 93), (1, .int x), (2, .int y), (3, .int q), (4, .int (nI k))] [.int (zru k x)] M none (zfold 93 13 97 98 M l (zrps x y (d + 1) k)) := by
      refine yOk.adv 3 (pc' := 88) (lv' := [(5, .int (zru k x)), (0, .ref 93), (1, .int x), (2, .int y), (3, .int q), (4, .int (nI k))]) (st' := [.int 2, .int (nI k)]) (M' := M) rfl ?_
      refine yOk.if2 .ge _ _ _ _ rfl (fun c1 => ?_) (fun c1 => ?_)
      · have hk : zrv k y = -y := by
          unfold zrv
          rw [if_neg (fun hh : k < 2 => zge_t c1 (nI_lt hh (by decide)))]
        refine yOk.adv 2 (pc' := 97) (lv' := [(5, .int (zru k x)), (0, .ref 93), (1, .int x), (2, .int y), (3, .int q), (4, .int (nI k))]) (st' := [.int (-y)]) (M' := M) rfl ?_
        rw [← hk]
        exact K2
      · have hk : zrv k y = y := by
          unfold zrv
          rw [if_pos (Classical.byContradiction fun hh => absurd (zge_f c1) (nI_nlt (show 2 ≤ k by omega) (by omega)))]
        refine yOk.adv 2 (pc' := 97) (lv' := [(5, .int (zru k x)), (0, .ref 93), (1, .int x), (2, .int y), (3, .int q), (4, .int (nI k))]) (st' := [.int y]) (M' := M) rfl ?_
        rw [hk] at K2
        exact K2
    refine yOk.adv 2 (pc' := 67) (lv' := [(0, .ref 93), (1, .int x), (2, .int y), (3, .int q), (4, .int (nI k))]) (st' := [.int 4, .int (nI k)]) (M' := M) rfl ?_
    refine yOk.if2 .ge _ _ _ _ rfl (fun c0 => ?_) (fun c0 => ?_)
    · exact absurd (nI_lt (show k < 4 by omega) (by omega)) (zge_t c0)
    · refine yOk.adv 2 (pc' := 73) (lv' := [(0, .ref 93), (1, .int x), (2, .int y), (3, .int q), (4, .int (nI k))]) (st' := [.int 2, .int (nI k)]) (M' := M) rfl ?_
      refine yOk.irem _ _ _ rfl (two) ?_
      refine yOk.if1 .ne _ _ _ _ rfl (fun c1 => ?_) (fun c1 => ?_)
      · have hk : zru k x = -x := by
          unfold zru
          rw [zodd k (by omega)] at c1
          rw [if_pos (of_decide_eq_true c1)]
        refine yOk.adv 2 (pc' := 83) (lv' := [(0, .ref 93), (1, .int x), (2, .int y), (3, .int q), (4, .int (nI k))]) (st' := [.int (-x)]) (M' := M) rfl ?_
        rw [← hk]
        exact K1
      · have hk : zru k x = x := by
          unfold zru
          rw [zodd k (by omega)] at c1
          rw [if_neg (of_decide_eq_false c1)]
        refine yOk.adv 2 (pc' := 83) (lv' := [(0, .ref 93), (1, .int x), (2, .int y), (3, .int q), (4, .int (nI k))]) (st' := [.int x]) (M' := M) rfl ?_
        rw [hk] at K1
        exact K1
theorem r_findOrbit (M : zMm) (dom q x y : Int32) (hm : M.1 93 4 = dom) : yOk 119 0 [(0, .ref 93), (1, .int x), (2, .int y), (3, .int q)] [] M none (zfold 93 13 97 98 (zup M 93 13 0) [] (zpsR dom q x y)) := by
  have ok := fun (ps : List zPt) (h : ps.length ≤ 8) => (zfold_ok (c := 93) (f := 13) (ax := 97) (ay := 98) (by decide) (by decide) (by decide) ps (zup M 93 13 0) [] (zOrb_nil M) (by simpa using h)).1
  have ln : ∀ (ps : List zPt), (ofold [] ps).length ≤ ps.length := by
    intro ps
    have : ∀ (ps l : List zPt), (ofold l ps).length ≤ l.length + ps.length := by
      intro ps
      induction ps with
      | nil => intro l; exact Nat.le_refl _
      | cons p ps ih =>
        intro l
        have h1 := oins_len l p
        have h2 := ih (oins l p)
        rw [List.length_cons]
        show (ofold (oins l p) ps).length ≤ _
        omega
    have h := this ps []
    rw [List.length_nil] at h
    omega
  have lo : ∀ (ps : List zPt) (p : zPt), ps.length ≤ 7 → (oins (ofold [] ps) p).length ≤ 8 := fun ps p h => by
    have h1 := oins_len (ofold [] ps) p
    have h2 := ln ps
    omega
  have hd : (zup M 93 13 0).1 93 4 = dom := by
    rw [← hm]
    unfold zup
    simp
  refine yOk.adv 6 (pc' := 10) (lv' := [(0, .ref 93), (1, .int x), (2, .int y), (3, .int q)]) (st' := [.int 1, .int ((zup M 93 13 0).1 93 4)]) (M' := zup M 93 13 0) rfl ?_
  rw [hd]
  unfold zpsR
  refine yOk.if2 .ne _ _ _ _ rfl (fun c1 => ?_) (fun c1 => ?_)
  · rw [if_neg (zne_t c1)]
    refine yOk.adv 2 (pc' := 64) (lv' := [(4, .int 0), (0, .ref 93), (1, .int x), (2, .int y), (3, .int q)]) (st' := []) (M' := zup M 93 13 0) rfl ?_
    exact (r_orbit_loop q x y 4 0 (zup M 93 13 0) [] rfl (zOrb_nil M) (by simp)).drop (by refine ⟨?_, ?_⟩ <;> simp [zget, zwf, nI])
  · rw [if_pos (zne_f c1)]
    refine yOk.adv 9 (pc' := 23) (lv' := [(4, .int ((q - x) - y)), (0, .ref 93), (1, .int x), (2, .int y), (3, .int q)]) (st' := [.int y, .int x, .ref 93]) (M' := zup M 93 13 0) rfl ?_
    refine yOk.call (M1 := zfold 93 13 97 98 (zup M 93 13 0) [] [(x, y)]) _ rfl rfl rfl rfl rfl (r_take (zup M 93 13 0) [] (zOrb_nil M) (x, y) (lo [] _ (by simp))) ?_
    show yOk 119 26 [(4, .int ((q - x) - y)), (0, .ref 93), (1, .int x), (2, .int y), (3, .int q)] [] (zfold 93 13 97 98 (zup M 93 13 0) [] [(x, y)]) _ _
    refine yOk.adv 3 (pc' := 29) (lv' := [(4, .int ((q - x) - y)), (0, .ref 93), (1, .int x), (2, .int y), (3, .int q)]) (st' := [.int x, .int y, .ref 93]) (M' := zfold 93 13 97 98 (zup M 93 13 0) [] [(x, y)]) rfl ?_
    refine yOk.call (M1 := zfold 93 13 97 98 (zup M 93 13 0) [] [(x, y), (y, x)]) _ rfl rfl rfl rfl rfl (r_take _ _ (ok [(x, y)] (by simp)) (y, x) (lo [(x, y)] _ (by simp))) ?_
    show yOk 119 32 [(4, .int ((q - x) - y)), (0, .ref 93), (1, .int x), (2, .int y), (3, .int q)] [] (zfold 93 13 97 98 (zup M 93 13 0) [] [(x, y), (y, x)]) _ _
    refine yOk.adv 3 (pc' := 36) (lv' := [(4, .int ((q - x) - y)), (0, .ref 93), (1, .int x), (2, .int y), (3, .int q)]) (st' := [.int ((q - x) - y), .int x, .ref 93]) (M' := zfold 93 13 97 98 (zup M 93 13 0) [] [(x, y), (y, x)]) rfl ?_
    refine yOk.call (M1 := zfold 93 13 97 98 (zup M 93 13 0) [] [(x, y), (y, x), (x, q - x - y)]) _ rfl rfl rfl rfl rfl (r_take _ _ (ok [(x, y), (y, x)] (by simp)) (x, q - x - y) (lo [(x, y), (y, x)] _ (by simp))) ?_
    show yOk 119 39 [(4, .int ((q - x) - y)), (0, .ref 93), (1, .int x), (2, .int y), (3, .int q)] [] (zfold 93 13 97 98 (zup M 93 13 0) [] [(x, y), (y, x), (x, q - x - y)]) _ _
    refine yOk.adv 3 (pc' := 43) (lv' := [(4, .int ((q - x) - y)), (0, .ref 93), (1, .int x), (2, .int y), (3, .int q)]) (st' := [.int x, .int ((q - x) - y), .ref 93]) (M' := zfold 93 13 97 98 (zup M 93 13 0) [] [(x, y), (y, x), (x, q - x - y)]) rfl ?_
    refine yOk.call (M1 := zfold 93 13 97 98 (zup M 93 13 0) [] [(x, y), (y, x), (x, q - x - y), (q - x - y, x)]) _ rfl rfl rfl rfl rfl (r_take _ _ (ok [(x, y), (y, x), (x, q - x - y)] (by simp)) (q - x - y, x) (lo [(x, y), (y, x), (x, q - x - y)] _ (by simp))) ?_
    show yOk 119 46 [(4, .int ((q - x) - y)), (0, .ref 93), (1, .int x), (2, .int y), (3, .int q)] [] (zfold 93 13 97 98 (zup M 93 13 0) [] [(x, y), (y, x), (x, q - x - y), (q - x - y, x)]) _ _
    refine yOk.adv 3 (pc' := 50) (lv' := [(4, .int ((q - x) - y)), (0, .ref 93), (1, .int x), (2, .int y), (3, .int q)]) (st' := [.int ((q - x) - y), .int y, .ref 93]) (M' := zfold 93 13 97 98 (zup M 93 13 0) [] [(x, y), (y, x), (x, q - x - y), (q - x - y, x)]) rfl ?_
    refine yOk.call (M1 := zfold 93 13 97 98 (zup M 93 13 0) [] [(x, y), (y, x), (x, q - x - y), (q - x - y, x), (y, q - x - y)]) _ rfl rfl rfl rfl rfl (r_take _ _ (ok [(x, y), (y, x), (x, q - x - y), (q - x - y, x)] (by simp)) (y, q - x - y) (lo [(x, y), (y, x), (x, q - x - y), (q - x - y, x)] _ (by simp))) ?_
    show yOk 119 53 [(4, .int ((q - x) - y)), (0, .ref 93), (1, .int x), (2, .int y), (3, .int q)] [] (zfold 93 13 97 98 (zup M 93 13 0) [] [(x, y), (y, x), (x, q - x - y), (q - x - y, x), (y, q - x - y)]) _ _
    refine yOk.adv 3 (pc' := 57) (lv' := [(4, .int ((q - x) - y)), (0, .ref 93), (1, .int x), (2, .int y), (3, .int q)]) (st' := [.int y, .int ((q - x) - y), .ref 93]) (M' := zfold 93 13 97 98 (zup M 93 13 0) [] [(x, y), (y, x), (x, q - x - y), (q - x - y, x), (y, q - x - y)]) rfl ?_
    refine yOk.call (M1 := zfold 93 13 97 98 (zup M 93 13 0) [] [(x, y), (y, x), (x, q - x - y), (q - x - y, x), (y, q - x - y), (q - x - y, y)]) _ rfl rfl rfl rfl rfl (r_take _ _ (ok [(x, y), (y, x), (x, q - x - y), (q - x - y, x), (y, q - x - y)] (by simp)) (q - x - y, y) (lo [(x, y), (y, x), (x, q - x - y), (q - x - y, x), (y, q - x - y)] _ (by simp))) ?_
    show yOk 119 60 [(4, .int ((q - x) - y)), (0, .ref 93), (1, .int x), (2, .int y), (3, .int q)] [] (zfold 93 13 97 98 (zup M 93 13 0) [] [(x, y), (y, x), (x, q - x - y), (q - x - y, x), (y, q - x - y), (q - x - y, y)]) _ _
    exact yOk.ret _ rfl rfl rfl
