/-! ===== the law up to its loop ===== -/
def zH1 : zH := (zHo zM0).take 93
set_option maxRecDepth 100000 in
theorem zc1 : zex zP zF0 800 37 0 [(0, .ref 0)] [] [(5, zfresh 5)] = some (none, zH1) := by decide +kernel
set_option maxRecDepth 100000 in
theorem zc2 : zex zP zF0 800 97 0 [(0, .ref 93)] [] (zH1 ++ [(6, zfresh 6)]) = some (none, zHo zM0) := by decide +kernel
theorem zc3 : znew 6 8 [(1, .ref 0), (0, .retAddr 3)] [] zH1 = some (11, [(1, .ref 0), (0, .retAddr 3)], [.ref 93], zH1 ++ [(6, zfresh 6)]) := by
  have w : zwfall [(1, .ref 0), (0, .retAddr 3)] [] zH1 = true := by decide +kernel
  have l : zH1.length = 93 := by decide +kernel
  unfold znew
  rw [if_pos ⟨by decide, w⟩, l]
def zEx (F : zF) (k pc : Nat) (lv : zL) (st : List Value) (h : zH) (x : Option Value × zH) : Prop := ∃ n, zex zP F n k pc lv st h = some x
theorem zEx.step {F : zF} {k pc : Nat} {lv : zL} {st : List Value} {h : zH} {x : Option Value × zH} (e : zE) (he : zP k pc = some e) (hc : zcls e = 2) (z : zS) (hz : zstep F e pc lv st h = some z) (h2 : zEx F k z.1 z.2.1 z.2.2.1 z.2.2.2 x) : zEx F k pc lv st h x := by
  obtain ⟨n, hn⟩ := h2
  exact ⟨n + 1, zex_step e he hc z hz hn⟩
theorem zEx.call {F : zF} {n1 k pc : Nat} {lv vl : zL} {st rest : List Value} {h h1 : zH} {x : Option Value × zH} {r1 : Option Value} (e : zE) (he : zP k pc = some e) (hc : zcls e = 0) (hb : zcallB e lv st h = true) (hv : lv_args 0 (st.take (e.2.2.2.1 % 16)).reverse = vl) (hr : st.drop (e.2.2.2.1 % 16) = rest) (e1 : zex zP F n1 e.2.2.1 0 vl [] h = some (r1, h1)) (e2 : zEx F k (pc + 3) lv (r1.toList ++ rest) h1 x) : zEx F k pc lv st h x := by
  obtain ⟨n, hn⟩ := e2
  exact ⟨_, zex_call e he hc hb hv hr e1 hn⟩
set_option maxRecDepth 100000 in
theorem zprefix {F : zF} (hF : zFle zF0 F) {x : Option Value × zH} (h : zEx F 166 16 [(2, .ref 93), (1, .ref 0), (0, .retAddr 3)] [] (zHo zM0) x) : zEx F 166 0 [(0, .retAddr 3)] [] [] x := by
  refine zEx.step _ rfl rfl (3, [(0, .retAddr 3)], [.ref 0], [(5, zfresh 5)]) rfl ?_
  refine zEx.step _ rfl rfl (4, [(0, .retAddr 3)], [.ref 0, .ref 0], [(5, zfresh 5)]) rfl ?_
  refine zEx.call _ rfl rfl (by decide +kernel) rfl rfl (zex_F hF _ _ _ _ _ _ _ zc1) ?_
  refine zEx.step _ rfl rfl (8, [(1, .ref 0), (0, .retAddr 3)], [], zH1) rfl ?_
  refine zEx.step _ rfl rfl (11, [(1, .ref 0), (0, .retAddr 3)], [.ref 93], zH1 ++ [(6, zfresh 6)]) zc3 ?_
  refine zEx.step _ rfl rfl (12, [(1, .ref 0), (0, .retAddr 3)], [.ref 93, .ref 93], zH1 ++ [(6, zfresh 6)]) rfl ?_
  refine zEx.call _ rfl rfl (by decide +kernel) rfl rfl (zex_F hF _ _ _ _ _ _ _ zc2) ?_
  refine zEx.step _ rfl rfl (16, [(2, .ref 93), (1, .ref 0), (0, .retAddr 3)], [], zHo zM0) rfl ?_
  exact h
theorem zsz_Ho (M : zMm) : zsz (zHo M) ≤ 7302249 := by
  have h : (zHo M).map (fun c => c.2.length) = zlay.map (fun c => c.2.1) := by
    apply List.ext_getElem?
    intro j
    rw [List.getElem?_map, List.getElem?_map]
    cases hz : zlay[j]? with
    | none =>
      have : (zHo M)[j]? = none := by unfold zHo; rw [List.getElem?_mapIdx, hz]; rfl
      rw [this]
      rfl
    | some c =>
      rw [zHo_get hz]
      show some (zcell M j c).2.length = some c.2.1
      rw [zcell_len]
  unfold zsz
  rw [h]
  decide
