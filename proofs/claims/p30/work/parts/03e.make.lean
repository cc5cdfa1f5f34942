/-! ===== steps that make cells ===== -/
theorem ztv_ag {ad ad' fa : Nat → Nat} {n : Nat} (hag : ∀ k, k < n → ad' k = ad k) {v : Value} (h : zwf n v = true) : ztv ad' fa v = ztv ad fa v := by
  cases v <;> try rfl
  next a =>
    unfold zwf at h
    show Value.ref (ad' a) = Value.ref (ad a)
    rw [hag a (of_decide_eq_true h)]
theorem zrf_ag {ad ad' : Nat → Nat} {n : Nat} (hag : ∀ k, k < n → ad' k = ad k) {v : Value} (h : zwf n v = true) : zrf ad' v = zrf ad v := by
  cases v <;> try rfl
  next a =>
    unfold zwf at h
    show some (ad' a) = some (ad a)
    rw [hag a (of_decide_eq_true h)]
theorem zts_ag {ad ad' fa : Nat → Nat} {n : Nat} (hag : ∀ k, k < n → ad' k = ad k) {vs : List Value} (h : zwfs n vs = true) : vs.map (ztv ad' fa) = vs.map (ztv ad fa) :=
  List.map_congr_left fun v hv => ztv_ag hag (List.all_eq_true.mp h v hv)
theorem ztl_ag {ad ad' fa : Nat → Nat} {n : Nat} (hag : ∀ k, k < n → ad' k = ad k) {lv : zL} (h : zwfl n lv = true) : ztl ad' fa lv = ztl ad fa lv :=
  List.map_congr_left fun q hq => by rw [ztv_ag hag (List.all_eq_true.mp h q hq)]
theorem zcv_ag {ad ad' fa : Nat → Nat} {dA : Nat → ClassId} {n : Nat} (hag : ∀ k, k < n → ad' k = ad k) {c : zC} (h : zwfs n c.2 = true) : zcv ad' fa dA c = zcv ad fa dA c := by
  unfold zcv
  rw [zts_ag hag h]
  have : (fun j => zrf ad' (c.2.getD j .null)) = fun j => zrf ad (c.2.getD j .null) := by
    funext j
    rw [List.getD_eq_getElem?_getD]
    cases hj : c.2[j]? with
    | none => rfl
    | some v => exact zrf_ag hag (List.all_eq_true.mp h v (List.mem_of_getElem? hj))
  rw [this]
theorem zws_ag {ad ad' fa : Nat → Nat} {dA : Nat → ClassId} {n : Nat} (hag : ∀ k, k < n → ad' k = ad k) {h : zH} (hl : h.length ≤ n) (hw : zwfh n h = true) : zws ad' fa dA h = zws ad fa dA h := by
  apply List.ext_getElem?
  intro j
  unfold zws
  rw [List.getElem?_mapIdx, List.getElem?_mapIdx]
  cases hj : h[j]? with
  | none => rfl
  | some c =>
    have hlt := (List.getElem?_eq_some_iff.mp hj).1
    show some (ad' j, zcv ad' fa dA c) = some (ad j, zcv ad fa dA c)
    rw [hag j (by omega), zcv_ag hag (List.all_eq_true.mp hw c (List.mem_of_getElem? hj))]
theorem zwfall_inv {lv : zL} {st : List Value} {h : zH} (hw : zwfall lv st h = true) : zwfl h.length lv = true ∧ zwfs h.length st = true ∧ zwfh h.length h = true := by
  unfold zwfall at hw
  rw [Bool.and_eq_true, Bool.and_eq_true] at hw
  exact hw
theorem zsz_app {h h2 : zH} : zsz (h ++ h2) = zsz h + zsz h2 := by
  unfold zsz; rw [List.map_append, List.sum_append]
theorem ztv_def (ad fa : Nat → Nat) (ty : FieldType) : ztv ad fa (defaultValue ty) = defaultValue ty := by
  cases ty <;> rfl
theorem zfresh_map (ad fa : Nat → Nat) (ci : Nat) : (zfresh ci).map (ztv ad fa) = zfresh ci := by
  unfold zfresh
  rw [List.map_map]
  apply List.map_congr_left
  intro k _
  exact ztv_def ad fa _
theorem zfresh_V {ci j : Nat} (hj : j < zNN ci) : defaultValue (ztyX ci j) = vp_V (zfresh ci) j := by
  unfold vp_V zfresh
  rw [List.getD_eq_getElem?_getD, List.getElem?_map, List.getElem?_range hj]
  rfl
theorem zrep_i (n : Nat) (v : Value) (d : Value) (hv : v = d) (j : Nat) : (List.replicate n v).getD j d = d := by
  rw [List.getD_eq_getElem?_getD, List.getElem?_replicate]
  split
  · exact hv
  · rfl
theorem zcomp {U : State} {a b : ClassId} {ty : FieldType} (h1 : va_RA U a ty) (h2 : va_RA U b ty) : a = b := by
  cases ty with
  | object C =>
    obtain ⟨_, _, -, -, -, g1⟩ := h1
    obtain ⟨_, _, -, -, -, g2⟩ := h2
    exact Option.some.inj (g1.symm.trans g2)
  | _ => exact Option.some.inj (h1.symm.trans h2)
set_option maxRecDepth 100000 in
theorem zax1 : Cond.arrayClass .int ∈ zTs := List.mem_filter.mpr ⟨by decide +kernel, rfl⟩
set_option maxRecDepth 100000 in
theorem zax2 : Cond.arrayClass .long ∈ zTs := List.mem_filter.mpr ⟨by decide +kernel, rfl⟩
set_option maxRecDepth 100000 in
theorem zax3 : Cond.arrayClass .boolean ∈ zTs := List.mem_filter.mpr ⟨by decide +kernel, rfl⟩
theorem zinner (cA : ClassId) (n : Nat) : vp_cell cA (n, .inr (.inl (fun _ => 0))) = Jvm.Free.Multi.innerC cA n (defaultValue .long) := by
  rw [vp_cell_l]
  unfold Jvm.Free.Multi.innerC
  rw [arrV_new]
  rfl
section ZMK
variable {p : Program} {l : Launch} {e : Env} {R : Room} {s : State} {m : MethodId} {args : Array Value} {below : List Frame} {meth : Method} {c : Code} {Q : State → Prop}
variable {mt : Nat → zM} {M : zM} {F : zF} {fa : Nat → Nat} {dA dC : Nat → ClassId} {dI : Nat → Nat → Nat} {A : Nat → Prop} {ad0 : Nat → Nat} {n0 z0 : Nat}
variable {en : zE} {pc : Nat} {lv : zL} {st : List Value} {h : zH} {z : zS}
/-- behind a making of one cell -/
theorem zmade {pc' : Nat} {r : List Value} {cN : zC} (K : zGo p l e R s m args below meth c M.2.2.1 fa dA dC dI A ad0 n0 z0 Q pc' lv (.ref h.length :: r) (h ++ [cN])) (hn0 : n0 ≤ h.length) (hz0 : z0 ≤ zsz h) {ad : Nat → Nat} (hag : ∀ k, k < n0 → ad k = ad0 k) (hw1 : zwfl h.length lv = true) (hw2 : zwfs h.length r = true) (hw3 : zwfh h.length h = true)
    {q : Nat} {H1 : Heap} {locs : List Loc} {ls : Array Slot} {en1 : va_E} (hen : zcv (va_up ad h.length q) fa dA cN = en1) (hP1 : va_P (dC, dI) vwCl (zws ad fa dA h ++ [(q, en1)]) H1) (hD1 : va_D A (zws ad fa dA h ++ [(q, en1)])) (hS1 : va_S A s.heap H1 locs) (hl : lv_has ls M.2.2.1 (ztl ad fa lv)) :
    W p l e R s m args below meth c H1 locs (h.length - n0 + 1) (zsz h - z0 + cN.2.length) Q (F0 m pc' ls (.ref q :: r.map (ztv ad fa))) := by
  have hup : ∀ k, k < h.length → va_up ad h.length q k = ad k := fun k hk => by unfold va_up; rw [if_neg (by omega)]
  have hq : va_up ad h.length q h.length = q := by unfold va_up; rw [if_pos rfl]
  have hws : zws (va_up ad h.length q) fa dA (h ++ [cN]) = zws ad fa dA h ++ [(q, en1)] := by
    rw [zws_app, zws_ag hup (Nat.le_refl _) hw3, hq, hen]
  have K1 := K (va_up ad h.length q) H1 locs ls (fun k hk => (hup k (by omega)).trans (hag k hk)) (by rw [hws]; exact hP1) (by rw [hws]; exact hD1) hS1 (by rw [ztl_ag hup hw1]; exact hl)
  rw [List.map_cons, zts_ag hup hw2] at K1
  have e1 : (h ++ [cN]).length - n0 = h.length - n0 + 1 := by rw [List.length_append]; simp; omega
  have e2 : zsz (h ++ [cN]) - z0 = zsz h - z0 + cN.2.length := by
    rw [zsz_app]
    have : zsz [cN] = cN.2.length := by unfold zsz; simp
    omega
  rw [e1, e2] at K1
  have e3 : ztv (va_up ad h.length q) fa (.ref h.length) = .ref q := by show Value.ref _ = _; rw [hq]
  rw [e3] at K1
  exact K1
set_option maxHeartbeats 8000000 in
set_option maxRecDepth 100000 in
theorem zstep_make (hAm : zAm p R s m args meth c M F fa dA dC dI A) (hg : zgood mt M pc en) (hpl : zplain en.1 = false) (hs : zstep F en pc lv st h = some z) (hn0 : n0 ≤ h.length) (hz0 : z0 ≤ zsz h) (hcell : z.2.2.2.length - n0 ≤ R.cells) (hslot : zsz z.2.2.2 - z0 ≤ R.slots)
    (K : zGo p l e R s m args below meth c M.2.2.1 fa dA dC dI A ad0 n0 z0 Q z.1 z.2.1 z.2.2.1 z.2.2.2) : zGo p l e R s m args below meth c M.2.2.1 fa dA dC dI A ad0 n0 z0 Q pc lv st h := by
  intro ad H locs ls hag hP hD hS hl
  obtain ⟨hx, hb, hml, hown, hr, hlk, hnm, hts, ⟨hK, hZ, hT, hA1, hA2, hA3⟩, ⟨hRf, hRl⟩, hA⟩ := hAm
  have hside := hg.2.2
  cases hi : en.1 <;> rw [hi] at hpl <;> try (cases hpl; done)
  · -- anewarray
    next idx =>
    unfold zstep at hs
    rw [hi] at hs
    dsimp only at hs
    unfold zsideB at hside
    rw [hi] at hside
    dsimp only at hside
    rw [Bool.and_eq_true, decide_eq_true_eq] at hside
    obtain ⟨n, r, rfl, q1, q2, q3, rfl⟩ := znewa_inv hs
    obtain ⟨hw1, hw2, hw3⟩ := zwfall_inv q3
    have hw2' : zwfs h.length r = true := by unfold zwfs at hw2 ⊢; rw [List.all_cons, Bool.and_eq_true] at hw2; exact hw2.2
    have hc1 : h.length - n0 + 1 ≤ R.cells := by
      have : (h ++ [(13 + en.2.2.1, List.replicate n.toNatClampNeg Value.null)]).length - n0 ≤ R.cells := hcell
      rw [List.length_append] at this; simp at this; omega
    have hs1 : zsz h - z0 + n.toNatClampNeg ≤ R.slots := by
      have : zsz (h ++ [(13 + en.2.2.1, List.replicate n.toNatClampNeg Value.null)]) - z0 ≤ R.slots := hslot
      rw [zsz_app] at this
      have e : zsz [(13 + en.2.2.1, List.replicate n.toNatClampNeg Value.null)] = n.toNatClampNeg := by unfold zsz; simp
      omega
    have hcase : en.2.2.1 = 0 ∨ en.2.2.1 = 1 := by omega
    rcases hcase with h0 | h0
    · rw [h0] at hside K
      refine va_newq hx hb hown (hts _ (zTs_of hside.2 rfl)) hA1 hK hP hD hS hA q1 rfl (by omega) hc1 hs1 (zdec hg hi rfl) (fun q cA H1 hK1 hP1 hD1 hS1 => ?_)
      have hcA : cA = dA 13 := zcomp (hK1.2 6 _ rfl).2 (hK.2 3 _ rfl).2
      subst hcA
      have := zmade (cN := (13, List.replicate n.toNatClampNeg Value.null)) K hn0 hz0 hag hw1 hw2' hw3 (q := q) (en1 := .inl (dA 13, n.toNatClampNeg, .inr (.inr (.inr (.inr (fun _ => none)))))) (by rw [zcv_q (Or.inl rfl), List.length_replicate]; congr 7; funext j; rw [zrep_i _ _ _ rfl]; rfl) hP1 hD1 hS1 hl
      rw [List.length_replicate] at this
      exact this
    · rw [h0] at hside K
      refine va_newq hx hb hown (hts _ (zTs_of hside.2 rfl)) hA2 hK hP hD hS hA q1 rfl (by omega) hc1 hs1 (zdec hg hi rfl) (fun q cA H1 hK1 hP1 hD1 hS1 => ?_)
      have hcA : cA = dA 14 := zcomp (hK1.2 6 _ rfl).2 (hK.2 4 _ rfl).2
      subst hcA
      have := zmade (cN := (14, List.replicate n.toNatClampNeg Value.null)) K hn0 hz0 hag hw1 hw2' hw3 (q := q) (en1 := .inl (dA 14, n.toNatClampNeg, .inr (.inr (.inr (.inr (fun _ => none)))))) (by rw [zcv_q (Or.inr (Or.inl rfl)), List.length_replicate]; congr 7; funext j; rw [zrep_i _ _ _ rfl]; rfl) hP1 hD1 hS1 hl
      rw [List.length_replicate] at this
      exact this
  · -- multianewarray
    next idx dims =>
    unfold zstep at hs
    rw [hi] at hs
    dsimp only at hs
    unfold zsideB at hside
    rw [hi] at hside
    dsimp only at hside
    rw [Bool.and_eq_true, decide_eq_true_eq] at hside
    obtain ⟨hdim, hlk1⟩ := hside
    subst hdim
    obtain ⟨n, k, r, rfl, q1, q2, q3, q4, q5, rfl⟩ := znewm_inv hs
    obtain ⟨hw1, hw2, hw3⟩ := zwfall_inv q5
    have hw2' : zwfs h.length r = true := by unfold zwfs at hw2 ⊢; rw [List.all_cons, List.all_cons, Bool.and_eq_true, Bool.and_eq_true] at hw2; exact hw2.2.2
    generalize hN : n.toNatClampNeg = N at *
    generalize hM : k.toNatClampNeg = N2 at *
    have hlen : ((h ++ [(15, (List.range N).map (fun i => Value.ref (h.length + 1 + i)))]) ++ List.replicate N (11, List.replicate N2 (Value.long 0))).length = h.length + 1 + N := by simp; omega
    have hsz : zsz ((h ++ [(15, (List.range N).map (fun i => Value.ref (h.length + 1 + i)))]) ++ List.replicate N (11, List.replicate N2 (Value.long 0))) = zsz h + N + N * N2 := by
      rw [zsz_app, zsz_app]
      unfold zsz
      simp
    have hcell' : h.length + 1 + N - n0 ≤ R.cells := by
      have := hcell
      dsimp only at this
      rw [hlen] at this
      exact this
    have hslot' : zsz h + N + N * N2 - z0 ≤ R.slots := by
      have := hslot
      dsimp only at this
      rw [hsz] at this
      exact this
    have hcy : s.vm.findClass (FieldType.array .long).toString = some (dA 11) := (hK.2 1 _ rfl).2
    have hP0 : va_P (dC, dI) vwCl (zws ad fa dA h ++ va_pl [] (fun _ => .inl (dA 11, 0, .inl (fun _ => 0)))) H := by
      rw [show va_pl [] (fun _ => (.inl (dA 11, 0, .inl (fun _ => 0)) : va_E)) = [] from rfl, List.append_nil]; exact hP
    have hD0 : va_D A (zws ad fa dA h ++ va_pl [] (fun _ => .inl (dA 11, 0, .inl (fun _ => 0)))) := by
      rw [show va_pl [] (fun _ => (.inl (dA 11, 0, .inl (fun _ => 0)) : va_E)) = [] from rfl, List.append_nil]; exact hD
    refine va_mna (ty := .long) (cy := dA 11) (z := (N2, .inr (.inl (fun _ => 0)))) hx hb hown (hts _ (zTs_of hlk1 rfl)) hA3 (hts _ zax2) hcy hK hP0 hD0 hS hA q1 q3 hN hM (by omega) (by show N2 * 8 ≤ _; omega) (by omega) rfl rfl (by omega) (by omega) (fun _ => (zinner _ _).symm) (zdec hg hi rfl) (fun q rr cA H1 hinj hnin hK1 hP1 hD1 hS1 => ?_)
    have hcA : cA = dA 15 := zcomp (hK1.2 6 _ rfl).2 (hK.2 5 _ rfl).2
    subst hcA
    let ad' : Nat → Nat := fun j => if j < h.length then ad j else if j = h.length then q else rr (j - h.length - 1)
    have hup : ∀ j, j < h.length → ad' j = ad j := fun j hj => if_pos hj
    have hq : ad' h.length = q := by show (if _ then _ else _) = _; rw [if_neg (by omega), if_pos rfl]
    have hrr : ∀ j, ad' (h.length + 1 + j) = rr j := fun j => by
      show (if _ then _ else _) = _
      rw [if_neg (by omega), if_neg (by omega)]
      congr 1
      omega
    have hws : zws ad' fa dA ((h ++ [(15, (List.range N).map (fun i => Value.ref (h.length + 1 + i)))]) ++ List.replicate N (11, List.replicate N2 (Value.long 0))) = (zws ad fa dA h ++ [(q, .inl (dA 15, N, .inr (.inr (.inr (.inr (fun i => if i < N then some (rr i) else none))))))]) ++ va_pl ([] ++ (List.range N).map rr) (vr_up (fun _ => .inl (dA 11, 0, .inl (fun _ => 0))) ((List.range N).map rr) (.inl (dA 11, N2, .inr (.inl (fun _ => 0))))) := by
      have e1 : zws ad' fa dA (h ++ [(15, (List.range N).map (fun i => Value.ref (h.length + 1 + i)))]) = zws ad fa dA h ++ [(q, .inl (dA 15, N, .inr (.inr (.inr (.inr (fun i => if i < N then some (rr i) else none))))))] := by
        rw [zws_app, zws_ag hup (Nat.le_refl _) hw3, hq, zcv_q (Or.inr (Or.inr rfl))]
        congr 4
        rw [List.length_map, List.length_range]
        congr 6
        funext j
        rw [List.getD_eq_getElem?_getD, List.getElem?_map]
        by_cases hj : j < N
        · rw [List.getElem?_range hj, if_pos hj]
          show some (ad' (h.length + 1 + j)) = some (rr j)
          rw [hrr]
        · rw [List.getElem?_eq_none (by rw [List.length_range]; omega), if_neg hj]
          rfl
      rw [← e1]
      unfold zws
      rw [List.mapIdx_append]
      congr 1
      apply List.ext_getElem?
      intro j
      rw [List.getElem?_mapIdx, List.getElem?_replicate]
      unfold va_pl
      rw [List.nil_append, List.getElem?_map, List.getElem?_map]
      by_cases hj : j < N
      · rw [if_pos hj, List.getElem?_range hj]
        show some (ad' (j + (h ++ _).length), zcv ad' fa dA (11, List.replicate N2 (Value.long 0))) = some (rr j, _)
        rw [vr_up_in (List.mem_map.mpr ⟨j, List.mem_range.mpr hj, rfl⟩), zcv_l, List.length_replicate]
        congr 2
        · rw [List.length_append]
          show ad' (j + (h.length + 1)) = rr j
          rw [show j + (h.length + 1) = h.length + 1 + j by omega, hrr]
        · congr 5
          funext i
          rw [zrep_i _ _ _ rfl]
          rfl
      · rw [if_neg hj, List.getElem?_eq_none (by rw [List.length_range]; omega)]
        rfl
    have K1 := K ad' H1 locs ls (fun j hj => (hup j (by omega)).trans (hag j hj)) (by rw [hws]; exact hP1) (by rw [hws]; exact hD1) hS1 (by rw [ztl_ag hup hw1]; exact hl)
    dsimp only at K1
    rw [List.map_cons, zts_ag hup hw2', hlen, hsz] at K1
    have e3 : ztv ad' fa (.ref h.length) = .ref q := by show Value.ref _ = _; rw [hq]
    rw [e3, show h.length + 1 + N - n0 = h.length - n0 + 1 + N by omega, show zsz h + N + N * N2 - z0 = zsz h - z0 + N + N * N2 by omega] at K1
    exact K1
  · -- new
    next idx =>
    unfold zstep at hs
    rw [hi] at hs
    dsimp only at hs
    unfold zsideB at hside
    rw [hi] at hside
    dsimp only at hside
    split at hside
    · next rr hr1 =>
      obtain ⟨w1, w2, w3, w4, w5, w6⟩ := zcl _ _ hr1
      obtain ⟨q1, q2, rfl⟩ := znew_inv hs
      obtain ⟨hw1, hw2, hw3⟩ := zwfall_inv q2
      have hfl : (zfresh en.2.2.1).length = zNN en.2.2.1 := by unfold zfresh; simp
      have hc1 : h.length - n0 + 1 ≤ R.cells := by
        have : (h ++ [(en.2.2.1, zfresh en.2.2.1)]).length - n0 ≤ R.cells := hcell
        rw [List.length_append] at this; simp at this; omega
      have hs1 : zsz h - z0 + rr.2.2 ≤ R.slots := by
        have : zsz (h ++ [(en.2.2.1, zfresh en.2.2.1)]) - z0 ≤ R.slots := hslot
        rw [zsz_app] at this
        have e : zsz [(en.2.2.1, zfresh en.2.2.1)] = zNN en.2.2.1 := by unfold zsz; simp [hfl]
        omega
      refine va_new (D := (dC, dI)) (ci := en.2.2.1) (C := rr.1) (T := rr.2.1) (N := rr.2.2) (fs := zfresh en.2.2.1) hx hb hts w1 (ztyX en.2.2.1) w2 hown (hts _ (zTs_of hside rfl)) (hts _ w4) (hts _ w5) hK hP hD hS hA hr1 (fun j hj => zfresh_V (by rw [← w6]; exact hj)) hc1 hs1 (zdec hg hi rfl) (fun q H1 hP1 hD1 hS1 => ?_)
      have := zmade (cN := (en.2.2.1, zfresh en.2.2.1)) K hn0 hz0 hag hw1 hw2 hw3 (q := q) (en1 := .inr (en.2.2.1, zfresh en.2.2.1)) (by rw [zcv_obj q1, zfresh_map]) hP1 hD1 hS1 hl
      rw [show (en.2.2.1, zfresh en.2.2.1).2.length = rr.2.2 by rw [w6]; exact hfl] at this
      exact this
    · cases hside
  · -- newarray
    next at0 =>
    unfold zstep at hs
    rw [hi] at hs
    dsimp only at hs
    cases at0 <;> dsimp only at hs <;> try (cases hs; done)
    · obtain ⟨n, r, rfl, q1, q2, q3, rfl⟩ := znewa_inv hs
      obtain ⟨hw1, hw2, hw3⟩ := zwfall_inv q3
      have hw2' : zwfs h.length r = true := by unfold zwfs at hw2 ⊢; rw [List.all_cons, Bool.and_eq_true] at hw2; exact hw2.2
      have hc1 : h.length - n0 + 1 ≤ R.cells := by
        have : (h ++ [(12, List.replicate n.toNatClampNeg (Value.int 0))]).length - n0 ≤ R.cells := hcell
        rw [List.length_append] at this; simp at this; omega
      have hs1 : zsz h - z0 + n.toNatClampNeg ≤ R.slots := by
        have : zsz (h ++ [(12, List.replicate n.toNatClampNeg (Value.int 0))]) - z0 ≤ R.slots := hslot
        rw [zsz_app] at this
        have e : zsz [(12, List.replicate n.toNatClampNeg (Value.int 0))] = n.toNatClampNeg := by unfold zsz; simp
        omega
      refine va_newa (atype := .boolean) (ty := .boolean) (a0 := (n.toNatClampNeg, .inl (fun _ => 0))) hx hb (hts _ zax3) rfl hK hP hD hS hA (fun _ => rfl) q1 rfl (by show n.toNatClampNeg * _ ≤ _; first | omega | (show n.toNatClampNeg * 8 ≤ _; omega) | (show n.toNatClampNeg * 4 ≤ _; omega) | (show n.toNatClampNeg * 1 ≤ _; omega)) hc1 hs1 (zdec hg hi rfl) (fun q cA H1 hK1 hP1 hD1 hS1 => ?_)
      have hcA : cA = dA 12 := zcomp (hK1.2 6 _ rfl).2 (hK.2 2 _ rfl).2
      subst hcA
      have := zmade (cN := (12, List.replicate n.toNatClampNeg (Value.int 0))) K hn0 hz0 hag hw1 hw2' hw3 (q := q) (en1 := .inl (dA 12, n.toNatClampNeg, .inl (fun _ => 0))) (by rw [zcv_z, List.length_replicate]; congr 4; funext j; rw [zrep_i _ _ _ rfl]; rfl) hP1 hD1 hS1 hl
      rw [List.length_replicate] at this
      exact this
    · obtain ⟨n, r, rfl, q1, q2, q3, rfl⟩ := znewa_inv hs
      obtain ⟨hw1, hw2, hw3⟩ := zwfall_inv q3
      have hw2' : zwfs h.length r = true := by unfold zwfs at hw2 ⊢; rw [List.all_cons, Bool.and_eq_true] at hw2; exact hw2.2
      have hc1 : h.length - n0 + 1 ≤ R.cells := by
        have : (h ++ [(10, List.replicate n.toNatClampNeg (Value.int 0))]).length - n0 ≤ R.cells := hcell
        rw [List.length_append] at this; simp at this; omega
      have hs1 : zsz h - z0 + n.toNatClampNeg ≤ R.slots := by
        have : zsz (h ++ [(10, List.replicate n.toNatClampNeg (Value.int 0))]) - z0 ≤ R.slots := hslot
        rw [zsz_app] at this
        have e : zsz [(10, List.replicate n.toNatClampNeg (Value.int 0))] = n.toNatClampNeg := by unfold zsz; simp
        omega
      refine va_newa (atype := .int) (ty := .int) (a0 := (n.toNatClampNeg, .inl (fun _ => 0))) hx hb (hts _ zax1) rfl hK hP hD hS hA (fun _ => rfl) q1 rfl (by show n.toNatClampNeg * _ ≤ _; first | omega | (show n.toNatClampNeg * 8 ≤ _; omega) | (show n.toNatClampNeg * 4 ≤ _; omega) | (show n.toNatClampNeg * 1 ≤ _; omega)) hc1 hs1 (zdec hg hi rfl) (fun q cA H1 hK1 hP1 hD1 hS1 => ?_)
      have hcA : cA = dA 10 := zcomp (hK1.2 6 _ rfl).2 (hK.2 0 _ rfl).2
      subst hcA
      have := zmade (cN := (10, List.replicate n.toNatClampNeg (Value.int 0))) K hn0 hz0 hag hw1 hw2' hw3 (q := q) (en1 := .inl (dA 10, n.toNatClampNeg, .inl (fun _ => 0))) (by rw [zcv_i, List.length_replicate]; congr 4; funext j; rw [zrep_i _ _ _ rfl]; rfl) hP1 hD1 hS1 hl
      rw [List.length_replicate] at this
      exact this
    · obtain ⟨n, r, rfl, q1, q2, q3, rfl⟩ := znewa_inv hs
      obtain ⟨hw1, hw2, hw3⟩ := zwfall_inv q3
      have hw2' : zwfs h.length r = true := by unfold zwfs at hw2 ⊢; rw [List.all_cons, Bool.and_eq_true] at hw2; exact hw2.2
      have hc1 : h.length - n0 + 1 ≤ R.cells := by
        have : (h ++ [(11, List.replicate n.toNatClampNeg (Value.long 0))]).length - n0 ≤ R.cells := hcell
        rw [List.length_append] at this; simp at this; omega
      have hs1 : zsz h - z0 + n.toNatClampNeg ≤ R.slots := by
        have : zsz (h ++ [(11, List.replicate n.toNatClampNeg (Value.long 0))]) - z0 ≤ R.slots := hslot
        rw [zsz_app] at this
        have e : zsz [(11, List.replicate n.toNatClampNeg (Value.long 0))] = n.toNatClampNeg := by unfold zsz; simp
        omega
      refine va_newa (atype := .long) (ty := .long) (a0 := (n.toNatClampNeg, .inr (.inl (fun _ => 0)))) hx hb (hts _ zax2) rfl hK hP hD hS hA (fun _ => rfl) q1 rfl (by show n.toNatClampNeg * _ ≤ _; first | omega | (show n.toNatClampNeg * 8 ≤ _; omega) | (show n.toNatClampNeg * 4 ≤ _; omega) | (show n.toNatClampNeg * 1 ≤ _; omega)) hc1 hs1 (zdec hg hi rfl) (fun q cA H1 hK1 hP1 hD1 hS1 => ?_)
      have hcA : cA = dA 11 := zcomp (hK1.2 6 _ rfl).2 (hK.2 1 _ rfl).2
      subst hcA
      have := zmade (cN := (11, List.replicate n.toNatClampNeg (Value.long 0))) K hn0 hz0 hag hw1 hw2' hw3 (q := q) (en1 := .inl (dA 11, n.toNatClampNeg, .inr (.inl (fun _ => 0)))) (by rw [zcv_l, List.length_replicate]; congr 5; funext j; rw [zrep_i _ _ _ rfl]; rfl) hP1 hD1 hS1 hl
      rw [List.length_replicate] at this
      exact this
end ZMK
