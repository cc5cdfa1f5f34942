/-! ===== all places of an orbit: gather and findOrbit ===== -/
def zfold (c f ax ay : Nat) : zMm → List zPt → List zPt → zMm
  | M, _, [] => M
  | M, l, p :: ps => zfold c f ax ay (zinsR c f ax ay M l p) (oins l p) ps
def ofold (l : List zPt) (ps : List zPt) : List zPt := ps.foldl oins l
theorem oins_len (l : List zPt) (p : zPt) : (oins l p).length ≤ l.length + 1 := by
  rw [oins_eq]
  have := zspot_le l p
  split
  · omega
  · simp; omega
theorem zFr.trans {c f ax ay : Nat} {M N O : zMm} (h1 : zFr c f ax ay M N) (h2 : zFr c f ax ay N O) : zFr c f ax ay M O := ⟨fun a i x y z => (h2.1 a i x y z).trans (h1.1 a i x y z), h2.2.trans h1.2⟩
theorem zfold_ok {c f ax ay : Nat} (hcx : c ≠ ax) (hcy : c ≠ ay) (hxy : ax ≠ ay) : ∀ (ps : List zPt) (M : zMm) (l : List zPt), zOrb c f ax ay M l → l.length + ps.length ≤ 8 → zOrb c f ax ay (zfold c f ax ay M l ps) (ofold l ps) ∧ zFr c f ax ay M (zfold c f ax ay M l ps)
  | [], M, l, h, _ => ⟨h, fun _ _ _ _ _ => rfl, rfl⟩
  | p :: ps, M, l, h, hl => by
    have h1 := oins_len l p
    rw [List.length_cons] at hl
    obtain ⟨a1, a2⟩ := zinsR_ok (p := p) hcx hcy hxy h (by omega)
    obtain ⟨b1, b2⟩ := zfold_ok hcx hcy hxy ps _ _ a1 (by omega)
    exact ⟨b1, a2.trans b2⟩
theorem zfold_app (c f ax ay : Nat) : ∀ (ps qs : List zPt) (M : zMm) (l : List zPt), zfold c f ax ay M l (ps ++ qs) = zfold c f ax ay (zfold c f ax ay M l ps) (ofold l ps) qs
  | [], _, _, _ => rfl
  | p :: ps, qs, M, l => zfold_app c f ax ay ps qs (zinsR c f ax ay M l p) (oins l p)
theorem zOrb_nil {c f ax ay : Nat} (M : zMm) : zOrb c f ax ay (zup M c f 0) [] := by
  refine ⟨?_, by simp, fun i q h => by cases h⟩
  unfold zup
  dsimp only
  rw [if_pos ⟨rfl, rfl⟩]
  rfl
theorem m_both (M : zMm) (l : List zPt) (hO : zOrb 9 2 10 11 M l) (x y : Int32) (hlt : l.length + 2 ≤ 8) : yOk 16 0 [(0, .ref 9), (1, .int x), (2, .int y)] [] M none (zfold 9 2 10 11 M l [(x, y), (y, x)]) := by
  have h1 := oins_len l (x, y)
  have h2 := oins_len (oins l (x, y)) (y, x)
  obtain ⟨a1, a2⟩ := zinsR_ok (p := (x, y)) (by decide) (by decide) (by decide) hO (by omega)
  refine yOk.adv 3 (pc' := 3) (lv' := [(0, .ref 9), (1, .int x), (2, .int y)]) (st' := [.int y, .int x, .ref 9]) (M' := M) rfl ?_
  refine yOk.call (M1 := zinsR 9 2 10 11 M l (x, y)) _ rfl rfl rfl rfl rfl (m_insert M l hO (x, y) (by omega)) ?_
  show yOk 16 6 [(0, .ref 9), (1, .int x), (2, .int y)] [] (zinsR 9 2 10 11 M l (x, y)) _ _
  refine yOk.adv 3 (pc' := 9) (lv' := [(0, .ref 9), (1, .int x), (2, .int y)]) (st' := [.int x, .int y, .ref 9]) (M' := zinsR 9 2 10 11 M l (x, y)) rfl ?_
  refine yOk.call (M1 := zinsR 9 2 10 11 (zinsR 9 2 10 11 M l (x, y)) (oins l (x, y)) (y, x)) _ rfl rfl rfl rfl rfl (m_insert (zinsR 9 2 10 11 M l (x, y)) (oins l (x, y)) a1 (y, x) (by omega)) ?_
  show yOk 16 12 [(0, .ref 9), (1, .int x), (2, .int y)] [] (zinsR 9 2 10 11 (zinsR 9 2 10 11 M l (x, y)) (oins l (x, y)) (y, x)) _ _
  exact yOk.ret _ rfl rfl rfl
/-- the places of an orbit, as the class takes them -/
def zpsM (dom q x y : Int32) : List zPt := if dom = 1 then [(x, y), (y, x), (x, q - x - y), (q - x - y, x), (y, q - x - y), (q - x - y, y)] else [(x, y), (y, x), (x, -y), (-y, x), (-x, y), (y, -x), (-x, -y), (-y, -x)]
theorem m_gather (M : zMm) (dom q x y : Int32) : yOk 15 0 [(0, .ref 9), (1, .int dom), (2, .int q), (3, .int x), (4, .int y)] [] M none (zfold 9 2 10 11 (zup M 9 2 0) [] (zpsM dom q x y)) := by
  have ok := fun (ps : List zPt) (h : ps.length ≤ 8) => (zfold_ok (c := 9) (f := 2) (ax := 10) (ay := 11) (by decide) (by decide) (by decide) ps (zup M 9 2 0) [] (zOrb_nil M) (by simpa using h)).1
  have ln : ∀ (ps : List zPt), (ofold [] ps).length ≤ ps.length := by
    intro ps
    have : ∀ (ps l : List zPt), (ofold l ps).length ≤ l.length + ps.length := by
      intro ps
      induction ps with
      | nil => intro l; exact Nat.le_refl _
      | cons p ps ih =>
        intro l
        have h1 := oins_len l p
        have h2 := ih (oins l p)
        rw [List.length_cons]
        show (ofold (oins l p) ps).length ≤ _
        omega
    have h := this ps []
    rw [List.length_nil] at h
    omega
  refine yOk.adv 5 (pc' := 7) (lv' := [(0, .ref 9), (1, .int dom), (2, .int q), (3, .int x), (4, .int y)]) (st' := [.int 1, .int dom]) (M' := zup M 9 2 0) rfl ?_
  unfold zpsM
  refine yOk.if2 .ne _ _ _ _ rfl (fun c1 => ?_) (fun c1 => ?_)
  · rw [if_neg (zne_t c1)]
    refine yOk.adv 3 (pc' := 47) (lv' := [(0, .ref 9), (1, .int dom), (2, .int q), (3, .int x), (4, .int y)]) (st' := [.int y, .int x, .ref 9]) (M' := zup M 9 2 0) rfl ?_
    refine yOk.call (M1 := zfold 9 2 10 11 (zup M 9 2 0) [] [(x, y), (y, x)]) _ rfl rfl rfl rfl rfl (m_both (zup M 9 2 0) [] (zOrb_nil M) x y (by simp)) ?_
    show yOk 15 50 [(0, .ref 9), (1, .int dom), (2, .int q), (3, .int x), (4, .int y)] [] (zfold 9 2 10 11 (zup M 9 2 0) [] [(x, y), (y, x)]) _ _
    refine yOk.adv 4 (pc' := 55) (lv' := [(0, .ref 9), (1, .int dom), (2, .int q), (3, .int x), (4, .int y)]) (st' := [.int (-y), .int x, .ref 9]) (M' := zfold 9 2 10 11 (zup M 9 2 0) [] [(x, y), (y, x)]) rfl ?_
    refine yOk.call (M1 := zfold 9 2 10 11 (zup M 9 2 0) [] [(x, y), (y, x), (x, -y), (-y, x)]) _ rfl rfl rfl rfl rfl (m_both _ _ (ok [(x, y), (y, x)] (by simp)) x (-y) (by have := ln [(x, y), (y, x)]; simp at this ⊢; omega)) ?_
    show yOk 15 58 [(0, .ref 9), (1, .int dom), (2, .int q), (3, .int x), (4, .int y)] [] (zfold 9 2 10 11 (zup M 9 2 0) [] [(x, y), (y, x), (x, -y), (-y, x)]) _ _
    refine yOk.adv 4 (pc' := 63) (lv' := [(0, .ref 9), (1, .int dom), (2, .int q), (3, .int x), (4, .int y)]) (st' := [.int y, .int (-x), .ref 9]) (M' := zfold 9 2 10 11 (zup M 9 2 0) [] [(x, y), (y, x), (x, -y), (-y, x)]) rfl ?_
    refine yOk.call (M1 := zfold 9 2 10 11 (zup M 9 2 0) [] [(x, y), (y, x), (x, -y), (-y, x), (-x, y), (y, -x)]) _ rfl rfl rfl rfl rfl (m_both _ _ (ok [(x, y), (y, x), (x, -y), (-y, x)] (by simp)) (-x) y (by have := ln [(x, y), (y, x), (x, -y), (-y, x)]; simp at this ⊢; omega)) ?_
    show yOk 15 66 [(0, .ref 9), (1, .int dom), (2, .int q), (3, .int x), (4, .int y)] [] (zfold 9 2 10 11 (zup M 9 2 0) [] [(x, y), (y, x), (x, -y), (-y, x), (-x, y), (y, -x)]) _ _
    refine yOk.adv 5 (pc' := 72) (lv' := [(0, .ref 9), (1, .int dom), (2, .int q), (3, .int x), (4, .int y)]) (st' := [.int (-y), .int (-x), .ref 9]) (M' := zfold 9 2 10 11 (zup M 9 2 0) [] [(x, y), (y, x), (x, -y), (-y, x), (-x, y), (y, -x)]) rfl ?_
    refine yOk.call (M1 := zfold 9 2 10 11 (zup M 9 2 0) [] [(x, y), (y, x), (x, -y), (-y, x), (-x, y), (y, -x), (-x, -y), (-y, -x)]) _ rfl rfl rfl rfl rfl (m_both _ _ (ok [(x, y), (y, x), (x, -y), (-y, x), (-x, y), (y, -x)] (by simp)) (-x) (-y) (by have := ln [(x, y), (y, x), (x, -y), (-y, x), (-x, y), (y, -x)]; simp at this ⊢; omega)) ?_
    show yOk 15 75 [(0, .ref 9), (1, .int dom), (2, .int q), (3, .int x), (4, .int y)] [] (zfold 9 2 10 11 (zup M 9 2 0) [] [(x, y), (y, x), (x, -y), (-y, x), (-x, y), (y, -x), (-x, -y), (-y, -x)]) _ _
    exact yOk.ret _ rfl rfl rfl
  · rw [if_pos (zne_f c1)]
    refine yOk.adv 9 (pc' := 22) (lv' := [(5, .int ((q - x) - y)), (0, .ref 9), (1, .int dom), (2, .int q), (3, .int x), (4, .int y)]) (st' := [.int y, .int x, .ref 9]) (M' := zup M 9 2 0) rfl ?_
    refine yOk.call (M1 := zfold 9 2 10 11 (zup M 9 2 0) [] [(x, y), (y, x)]) _ rfl rfl rfl rfl rfl (m_both (zup M 9 2 0) [] (zOrb_nil M) x y (by simp)) ?_
    show yOk 15 25 [(5, .int ((q - x) - y)), (0, .ref 9), (1, .int dom), (2, .int q), (3, .int x), (4, .int y)] [] (zfold 9 2 10 11 (zup M 9 2 0) [] [(x, y), (y, x)]) _ _
    refine yOk.adv 3 (pc' := 29) (lv' := [(5, .int ((q - x) - y)), (0, .ref 9), (1, .int dom), (2, .int q), (3, .int x), (4, .int y)]) (st' := [.int ((q - x) - y), .int x, .ref 9]) (M' := zfold 9 2 10 11 (zup M 9 2 0) [] [(x, y), (y, x)]) rfl ?_
    refine yOk.call (M1 := zfold 9 2 10 11 (zup M 9 2 0) [] [(x, y), (y, x), (x, q - x - y), (q - x - y, x)]) _ rfl rfl rfl rfl rfl (m_both _ _ (ok [(x, y), (y, x)] (by simp)) x (q - x - y) (by have := ln [(x, y), (y, x)]; simp at this ⊢; omega)) ?_
    show yOk 15 32 [(5, .int ((q - x) - y)), (0, .ref 9), (1, .int dom), (2, .int q), (3, .int x), (4, .int y)] [] (zfold 9 2 10 11 (zup M 9 2 0) [] [(x, y), (y, x), (x, q - x - y), (q - x - y, x)]) _ _
    refine yOk.adv 3 (pc' := 37) (lv' := [(5, .int ((q - x) - y)), (0, .ref 9), (1, .int dom), (2, .int q), (3, .int x), (4, .int y)]) (st' := [.int ((q - x) - y), .int y, .ref 9]) (M' := zfold 9 2 10 11 (zup M 9 2 0) [] [(x, y), (y, x), (x, q - x - y), (q - x - y, x)]) rfl ?_
    refine yOk.call (M1 := zfold 9 2 10 11 (zup M 9 2 0) [] [(x, y), (y, x), (x, q - x - y), (q - x - y, x), (y, q - x - y), (q - x - y, y)]) _ rfl rfl rfl rfl rfl (m_both _ _ (ok [(x, y), (y, x), (x, q - x - y), (q - x - y, x)] (by simp)) y (q - x - y) (by have := ln [(x, y), (y, x), (x, q - x - y), (q - x - y, x)]; simp at this ⊢; omega)) ?_
    show yOk 15 40 [(5, .int ((q - x) - y)), (0, .ref 9), (1, .int dom), (2, .int q), (3, .int x), (4, .int y)] [] (zfold 9 2 10 11 (zup M 9 2 0) [] [(x, y), (y, x), (x, q - x - y), (q - x - y, x), (y, q - x - y), (q - x - y, y)]) _ _
    refine yOk.adv 1 (pc' := 75) (lv' := [(5, .int ((q - x) - y)), (0, .ref 9), (1, .int dom), (2, .int q), (3, .int x), (4, .int y)]) (st' := []) (M' := zfold 9 2 10 11 (zup M 9 2 0) [] [(x, y), (y, x), (x, q - x - y), (q - x - y, x), (y, q - x - y), (q - x - y, y)]) rfl ?_
    exact yOk.ret _ rfl rfl rfl
