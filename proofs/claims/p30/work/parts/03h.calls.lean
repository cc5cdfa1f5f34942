/-! ===== calls, and the end of the main row ===== -/
theorem zgoodin {M : zM} (hc : Cond.code M.1 M.2.1 M.2.2.1 M.2.2.2.1 ∈ lw_tbl) : GoodIn zTs (zwds M) := by
  have hg : ∀ w, w ∈ lw_tbl → goodWord w = true → w ∈ zTs ∧ ((w.onTables && w.keeps) = true ∨ ∃ ty, w = .arrayClass ty) := fun w h1 h2 =>
    ⟨List.mem_filter.mpr ⟨h1, by unfold zokw; rw [h2]; rfl⟩, good_of_word h2⟩
  intro w hw
  rcases List.mem_cons.mp hw with rfl | hw
  · exact hg _ hc rfl
  · obtain ⟨h1, h2⟩ := List.mem_filter.mp hw
    exact hg w h1 h2
theorem zNst_of {args : Array Value} {s : State} (hts : ∀ w ∈ zTs, w.before args s = true) : zNst s := fun w hw hn =>
  va_Nw.of (by cases w <;> simp [zisN] at hn <;> rfl) (hts w (List.mem_filter.mpr ⟨hw, by unfold zokw; cases w <;> simp [zisN] at hn <;> simp⟩))
section ZCA
variable {p : Program} {l : Launch} {e : Env} {R : Room} {s : State} {m : MethodId} {args : Array Value} {below : List Frame} {meth : Method} {c : Code} {Q : State → Prop}
variable {F : zF} {fa : Nat → Nat} {dA dC : Nat → ClassId} {dI : Nat → Nat → Nat} {A : Nat → Prop} {ad0 : Nat → Nat} {n0 z0 nL : Nat}
theorem zafter {pc : Nat} {lv : zL} {rest stk : List Value} {h h1 : zH} {r1 : Option Value} {a : Array Value} {ad : Nat → Nat} {H : Heap} {locs : List Loc} {ls : Array Slot}
    (run : va_Run p l e R s m args below meth c H locs (h.length - n0) (zsz h - z0) (h1.length - h.length) (zsz h1 - zsz h) (F0 m pc ls stk) (rest.map (ztv ad fa)) (zQc fa dA dC dI A ad h r1 h1 a) A)
    (K : zGo p l e R s m args below meth c nL fa dA dC dI A ad0 n0 z0 Q (pc + 3) lv (r1.toList ++ rest) h1) (hrk : zrok r1) (hn0 : n0 ≤ h.length) (hz0 : z0 ≤ zsz h) (hm : h.length ≤ h1.length ∧ zsz h ≤ zsz h1)
    (hag : ∀ k, k < n0 → ad k = ad0 k) (hS : va_S A s.heap H locs) (hl : lv_has ls nL (ztl ad fa lv)) (w1 : zwfl h.length lv = true) (w2 : zwfs h.length rest = true) :
    W p l e R s m args below meth c H locs (h.length - n0) (zsz h - z0) Q (F0 m pc ls stk) := by
  intro T hT X
  obtain ⟨v, st₀, t, T', L, h0, X', hL, q1, q2, ⟨hv, ⟨ad', hag', hP', hD'⟩, hF⟩, go⟩ := run T hT X
  cases hv
  have hF1 : H.size ≤ T'.heap.size := by have := hF.1; rw [h0] at this; rw [q1]; exact this
  have hS1 : va_S A s.heap T'.heap (locs ++ L) := ⟨Nat.le_trans hS.1 hF1, fun q a1 a2 => by
      rw [q1, hF.2 q (by rw [h0]; exact Nat.lt_of_lt_of_le a1 hS.1) a2, h0]
      exact hS.2.1 q a1 a2, fun q hq => by
      rcases List.mem_append.mp hq with g | g
      · exact hS.2.2 q g
      · exact hL q g⟩
  have K1 := K ad' T'.heap (locs ++ L) ls (fun k hk => (hag' k (by omega)).trans (hag k hk)) (by rw [q1]; exact hP') hD' hS1 (by rw [ztl_ag hag' w1]; exact hl)
  rw [← zrok_map hrk, zts_ag hag' w2] at K1
  have e1 : h.length - n0 + (h1.length - h.length) = h1.length - n0 := by omega
  have e2 : zsz h - z0 + (zsz h1 - zsz h) = zsz h1 - z0 := by omega
  rw [e1, e2] at X'
  obtain ⟨tt, a1, b1⟩ := K1 T' rfl X'
  exact ⟨tt, go tt a1, b1⟩
theorem zpre {M : zM} {ad : Nat → Nat} {h : zH} {vs : List Value} {H : Heap} {locs : List Loc} (hAm : zAm p R s m args meth c M F fa dA dC dI A) (hP : va_P (dC, dI) vwCl (zws ad fa dA h) H) (hD : va_D A (zws ad fa dA h)) (hS : va_S A s.heap H locs) :
    ∀ U : State, U.heap = H → s.WarmedH U.vm → zPc F fa dA dC dI A ad h vs (vs.map (ztv ad fa)).toArray U := by
  intro U hU hW
  obtain ⟨-, -, -, -, -, -, -, hts, hEv, -, hA⟩ := hAm
  refine ⟨rfl, zEnv.moved hW.alike (fun q a1 a2 => by rw [hU]; exact hS.2.1 q a1 a2) hEv, zNst.warm hW (zNst_of hts), by rw [hU]; exact hP, hD, fun q hq => hA q ?_⟩
  rw [hU] at hq
  exact Nat.le_trans hS.1 hq
end ZCA
theorem zcatm (ad fa : Nat → Nat) {r : List Value} (h1 : zcat r ≤ 8) : ((r.map (ztv ad fa)).map fun v => v.category).sum ≤ 8 := by
  rw [List.map_map]
  have : (fun v : Value => v.category) ∘ ztv ad fa = fun v : Value => v.category := by funext v; exact ztv_cat ad fa v
  rw [this]; exact h1
set_option maxHeartbeats 8000000 in
set_option maxRecDepth 100000 in
theorem zsound {l : Launch} {P : Nat → Nat → Option zE} {mt : Nat → zM} {F : zF} (hall : ∀ k, zall (zgood mt (mt k)) (P k)) (hmok : ∀ k, k < zNm → zmok (mt k)) : ∀ n, zSnd l P mt F n
  | 0 => fun k pc lv st h r hE hx => by cases hx
  | n + 1 => by
    intro k pc lv st h r hE hx p e R s m args below meth c fa dA dC dI A ad0 n0 z0 Q hAm hn0 hz0 hcell hslot hRt
    have IH := zsound (l := l) (F := F) hall hmok n
    obtain ⟨en, hPk, hcase⟩ := zex_inv hx
    have hg := hall k pc en hPk
    rcases hcase with ⟨hc, hcb, r1, h1, e1, e2⟩ | ⟨hc, hret, rfl⟩ | ⟨hc, z, hz, e2⟩
    · have hm := zex_mono n _ _ _ _ _ _ _ e1
      have hm2 := zex_mono n _ _ _ _ _ _ _ e2
      have hrk := zex_rok n _ _ _ _ _ _ _ e1
      have K := IH k (pc + 3) lv _ h1 r hE e2 p e R s m args below meth c fa dA dC dI A ad0 n0 z0 Q hAm (by omega) (by omega) hcell hslot hRt
      unfold zcallB at hcb
      simp only [Bool.and_eq_true, decide_eq_true_eq] at hcb
      obtain ⟨c1, c2, c3, c4, c5, c6⟩ := hcb
      intro ad H locs ls hag hP hD hS hl
      have hAm' := hAm
      obtain ⟨hx1, hb, hml, hown, hr, hlk, hnm, hts, hEv, ⟨hRf, hRl⟩, hA⟩ := hAm'
      have hside := hg.2.2
      have hfit : (h.length - n0) + (h1.length - h.length) ≤ R.cells ∧ (zsz h - z0) + (zsz h1 - zsz h) ≤ R.slots := ⟨by omega, by omega⟩
      generalize hvs : (st.take (en.2.2.2.1 % 16)).reverse = vs at *
      generalize hrest : st.drop (en.2.2.2.1 % 16) = rest at *
      have hst : st = vs.reverse ++ rest := by rw [← hvs, ← hrest, List.reverse_reverse, List.take_append_drop]
      have hlen : vs.length = en.2.2.2.1 % 16 := by rw [← hvs, List.length_reverse, List.length_take, Nat.min_eq_left c1]
      have hcv : zcat vs = zcat (st.take (en.2.2.2.1 % 16)) := by rw [← hvs, zcat_rev]
      have hpre := zpre (vs := vs) hAm hP hD hS
      cases hi : en.1 <;> (unfold zcls at hc; rw [hi] at hc; dsimp only at hc) <;> try (cases hc; done)
      · -- invokespecial
        next idx =>
        split at hc
        · cases hc
        · next h900 =>
          unfold zsideB at hside
          rw [hi] at hside
          dsimp only at hside
          rw [if_neg h900] at hside
          simp only [Bool.and_eq_true, decide_eq_true_eq] at hside
          obtain ⟨⟨⟨⟨⟨⟨s0, s1⟩, s2⟩, s3⟩, s4⟩, s5⟩, s6⟩ := hside
          have hmo := hmok _ s0
          obtain ⟨hcode, i1, i2, i3, hmb⟩ := hmo
          unfold zmokB at hmb
          simp only [Bool.and_eq_true, decide_eq_true_eq] at hmb
          obtain ⟨⟨⟨⟨⟨m1, m2⟩, m3⟩, m4⟩, m5⟩, m6⟩ := hmb
          rw [s1] at m6
          simp only [Bool.and_eq_true, decide_eq_true_eq] at m6
          have hM := zMet IH (hmok _ s0) e1 (by omega) fa dA dC dI A ad
          unfold zrecv at c6
          rw [hi] at c6
          dsimp only at c6
          split at c6
          · next a0 vs' =>
            have hstk : st.map (ztv ad fa) = (vs'.map (ztv ad fa)).reverse ++ .ref (ad a0) :: rest.map (ztv ad fa) := by
              rw [hst]; simp [ztv]
            have hn' : (vs'.map (ztv ad fa)).length = (mt en.2.2.1).2.2.2.2.2.2.2 := by
              rw [List.length_map]; simp at hlen; omega
            have hret0 : (mt en.2.2.1).2.2.2.1 = none := m6.2
            rw [hstk]
            split at s6
            · have cw : CallB R s args (mt k).1.cls idx (mt en.2.2.1).1 (mt en.2.2.1).2.1 (mt en.2.2.1).2.2.1 (mt en.2.2.1).2.2.2.1 (zwds (mt en.2.2.1)) (zrm (mt en.2.2.1) h h1) (h1.length - h.length) (zsz h1 - zsz h) (mt en.2.2.1).2.2.2.2.2.2.2 :=
                callB_of _ hts (zgoodin hcode) rfl rfl rfl (hts _ (zTs_of m2 rfl)) (hts _ (zTs_of s6 rfl)) ⟨m3, m4, m5⟩ ⟨Nat.le_trans s4 hRf, Nat.le_trans s5 hRl⟩
              rw [hret0] at cw
              exact zafter (va_runI (As := vs'.map (ztv ad fa)) ⟨hx1, hb, hml, hown, hts⟩ hM ⟨cw, m6.1.2, hts _ (zTs_of m6.1.1 rfl)⟩ ⟨zPc_blind, hpre⟩ rfl hn' hl.1 rfl (lv_room (zcatm ad fa c3)) (zdec hg hi rfl) hfit) K hrk hn0 hz0 hm hag hS hl c4 c5
            · have cw : va_CN R s args (mt k).1.cls idx (mt en.2.2.1).1 "FewPlaces" (mt en.2.2.1).2.1 (mt en.2.2.1).2.2.1 (mt en.2.2.1).2.2.2.1 (zwds (mt en.2.2.1)) (zrm (mt en.2.2.1) h h1) (h1.length - h.length) (zsz h1 - zsz h) (mt en.2.2.1).2.2.2.2.2.2.2 :=
                va_cnB _ hts (zgoodin hcode) rfl rfl rfl (va_Nw.of rfl (hts _ (zTs_of s6 rfl))) (hts _ (zTs_of m2 rfl)) ⟨m3, m4, m5⟩ ⟨Nat.le_trans s4 hRf, Nat.le_trans s5 hRl⟩
              rw [hret0] at cw
              exact zafter (va_runIN (As := vs'.map (ztv ad fa)) ⟨hx1, hb, hml, hown, hts⟩ hM ⟨cw, m6.1.2, hts _ (zTs_of m6.1.1 rfl)⟩ ⟨zPc_blind, hpre⟩ rfl hn' hl.1 rfl (lv_room (zcatm ad fa c3)) (zdec hg hi rfl) hfit) K hrk hn0 hz0 hm hag hS hl c4 c5
          · cases c6
      · -- invokestatic
        next idx =>
        split at hc
        · next h900 =>
          unfold zsideB at hside
          rw [hi] at hside
          dsimp only at hside
          rw [if_neg (by omega), if_neg (by omega), if_neg (by omega)] at hside
          simp only [Bool.and_eq_true, decide_eq_true_eq] at hside
          obtain ⟨⟨⟨⟨⟨⟨⟨s00, s0⟩, s1⟩, s2⟩, s3⟩, s4⟩, s5⟩, s6⟩ := hside
          have hmo := hmok _ s0
          obtain ⟨hcode, i1, i2, i3, hmb⟩ := hmo
          unfold zmokB at hmb
          simp only [Bool.and_eq_true, decide_eq_true_eq] at hmb
          obtain ⟨⟨⟨⟨⟨m1, m2⟩, m3⟩, m4⟩, m5⟩, m6⟩ := hmb
          rw [s1] at m6
          have hM := zMet IH (hmok _ s0) e1 (by omega) fa dA dC dI A ad
          have hstk : st.map (ztv ad fa) = (vs.map (ztv ad fa)).reverse ++ rest.map (ztv ad fa) := by
            rw [hst]; simp
          have hn' : (vs.map (ztv ad fa)).length = (mt en.2.2.1).2.2.2.2.2.2.2 := by
            rw [List.length_map]; omega
          rw [hstk]
          split at s6
          · have cw : CallB R s args (mt k).1.cls idx (mt en.2.2.1).1 (mt en.2.2.1).2.1 (mt en.2.2.1).2.2.1 (mt en.2.2.1).2.2.2.1 (zwds (mt en.2.2.1)) (zrm (mt en.2.2.1) h h1) (h1.length - h.length) (zsz h1 - zsz h) (mt en.2.2.1).2.2.2.2.2.2.2 :=
              callB_of _ hts (zgoodin hcode) rfl rfl rfl (hts _ (zTs_of m2 rfl)) (hts _ (zTs_of s6 rfl)) ⟨m3, m4, m5⟩ ⟨Nat.le_trans s4 hRf, Nat.le_trans s5 hRl⟩
            exact zafter (va_runS (As := vs.map (ztv ad fa)) ⟨hx1, hb, hml, hown, hts⟩ hM ⟨cw, hts _ (zTs_of m6 rfl)⟩ ⟨zPc_blind, hpre⟩ rfl hn' hl.1 rfl (lv_room (zcatm ad fa c3)) (zdec hg hi rfl) hfit) K hrk hn0 hz0 hm hag hS hl c4 c5
          · have cw : va_CN R s args (mt k).1.cls idx (mt en.2.2.1).1 "FewPlaces" (mt en.2.2.1).2.1 (mt en.2.2.1).2.2.1 (mt en.2.2.1).2.2.2.1 (zwds (mt en.2.2.1)) (zrm (mt en.2.2.1) h h1) (h1.length - h.length) (zsz h1 - zsz h) (mt en.2.2.1).2.2.2.2.2.2.2 :=
              va_cnB _ hts (zgoodin hcode) rfl rfl rfl (va_Nw.of rfl (hts _ (zTs_of s6 rfl))) (hts _ (zTs_of m2 rfl)) ⟨m3, m4, m5⟩ ⟨Nat.le_trans s4 hRf, Nat.le_trans s5 hRl⟩
            exact zafter (va_runSN (As := vs.map (ztv ad fa)) ⟨hx1, hb, hml, hown, hts⟩ hM ⟨cw, hts _ (zTs_of m6 rfl), trivial⟩ ⟨zPc_blind, hpre⟩ rfl hn' hl.1 rfl (lv_room (zcatm ad fa c3)) (zdec hg hi rfl) hfit) K hrk hn0 hz0 hm hag hS hl c4 c5
        · cases hc
      · -- invokevirtual
        next idx =>
        unfold zsideB at hside
        rw [hi] at hside
        dsimp only at hside
        simp only [Bool.and_eq_true, decide_eq_true_eq] at hside
        obtain ⟨⟨⟨⟨⟨⟨⟨s00, s0⟩, s1⟩, s2⟩, s3⟩, s4⟩, s5⟩, s6⟩ := hside
        have hmo := hmok _ s0
        obtain ⟨hcode, i1, i2, i3, hmb⟩ := hmo
        unfold zmokB at hmb
        simp only [Bool.and_eq_true, decide_eq_true_eq] at hmb
        obtain ⟨⟨⟨⟨⟨m1, m2⟩, m3⟩, m4⟩, m5⟩, m6⟩ := hmb
        rw [s1] at m6
        simp only [Bool.and_eq_true, decide_eq_true_eq] at m6
        have hM := zMet IH (hmok _ s0) e1 (by omega) fa dA dC dI A ad
        unfold zrecv at c6
        rw [hi] at c6
        dsimp only at c6
        split at c6
        · next a0 vs' =>
          split at c6
          · next t lc hcell0 =>
            simp only [Bool.and_eq_true, decide_eq_true_eq] at c6
            obtain ⟨t1, t2⟩ := c6
            obtain ⟨rr, hrr, hrc⟩ : ∃ rr, vwCl[t]? = some rr ∧ rr.1 = (mt en.2.2.1).1.cls := by
              rw [t1]
              cases hv : vwCl[en.2.2.2.1 / 4096]? with
              | none => rw [hv] at s00; cases s00
              | some rr => rw [hv] at s00; exact ⟨rr, rfl, Option.some.inj s00⟩
            have hcl : ∃ cellB : Cell, H[ad a0]? = some cellB ∧ cellB.vm.isStatics = false ∧ s.vm.findClass (mt en.2.2.1).1.cls = some cellB.cls := by
              have hat := hP a0 _ (zws_get hcell0)
              rw [zcv_obj t2] at hat
              obtain ⟨r2, hr2, cell, g1, g2, g3, -⟩ := hat
              refine ⟨cell, g1, by rw [g3]; rfl, ?_⟩
              rw [g2, ← hrc]
              exact (hEv.1.1 t rr hrr).2.1
            have hstk : st.map (ztv ad fa) = (vs'.map (ztv ad fa)).reverse ++ .ref (ad a0) :: rest.map (ztv ad fa) := by
              rw [hst]; simp [ztv]
            have hn' : (vs'.map (ztv ad fa)).length = (mt en.2.2.1).2.2.2.2.2.2.2 := by
              rw [List.length_map]; simp at hlen; omega
            rw [hstk]
            split at s6
            · have cw : CallB R s args (mt k).1.cls idx (mt en.2.2.1).1 (mt en.2.2.1).2.1 (mt en.2.2.1).2.2.1 (mt en.2.2.1).2.2.2.1 (zwds (mt en.2.2.1)) (zrm (mt en.2.2.1) h h1) (h1.length - h.length) (zsz h1 - zsz h) (mt en.2.2.1).2.2.2.2.2.2.2 :=
                callB_of _ hts (zgoodin hcode) rfl rfl rfl (hts _ (zTs_of m2 rfl)) (hts _ (zTs_of s6 rfl)) ⟨m3, m4, m5⟩ ⟨Nat.le_trans s4 hRf, Nat.le_trans s5 hRl⟩
              exact zafter (va_runV (As := vs'.map (ztv ad fa)) ⟨hx1, hb, hml, hown, hts⟩ hM ⟨cw, hts _ (zTs_of m6.1 rfl), hts _ (zTs_of m6.2 rfl)⟩ ⟨zPc_blind, hcl, hpre⟩ rfl hn' hl.1 rfl (lv_room (zcatm ad fa c3)) (zdec hg hi rfl) hfit) K hrk hn0 hz0 hm hag hS hl c4 c5
            · have cw : va_CN R s args (mt k).1.cls idx (mt en.2.2.1).1 "FewPlaces" (mt en.2.2.1).2.1 (mt en.2.2.1).2.2.1 (mt en.2.2.1).2.2.2.1 (zwds (mt en.2.2.1)) (zrm (mt en.2.2.1) h h1) (h1.length - h.length) (zsz h1 - zsz h) (mt en.2.2.1).2.2.2.2.2.2.2 :=
                va_cnB _ hts (zgoodin hcode) rfl rfl rfl (va_Nw.of rfl (hts _ (zTs_of s6 rfl))) (hts _ (zTs_of m2 rfl)) ⟨m3, m4, m5⟩ ⟨Nat.le_trans s4 hRf, Nat.le_trans s5 hRl⟩
              exact zafter (va_runVN (As := vs'.map (ztv ad fa)) ⟨hx1, hb, hml, hown, hts⟩ hM ⟨cw, hts _ (zTs_of m6.1 rfl), hts _ (zTs_of m6.2 rfl)⟩ ⟨zPc_blind, hcl, hpre⟩ rfl hn' hl.1 rfl (lv_room (zcatm ad fa c3)) (zdec hg hi rfl) hfit) K hrk hn0 hz0 hm hag hS hl c4 c5
          · cases c6
        · cases c6
    · intro ad H locs ls hag hP hD hS hl
      have hside := hg.2.2
      have hst : st.map (ztv ad fa) = st := by
        unfold zret at hret
        split at hret
        · split at hret
          · rfl
          · cases hret
        · split at hret
          · rfl
          · cases hret
        · split at hret
          · rfl
          · cases hret
        · cases hret
      rw [hst]
      have hd : decode (mt k).2.1 pc = .ok (en.1, 1) ∧ zrty (mt k) en.1 en.2.2.1 = true := by
        unfold zsideB at hside
        cases hi : en.1 <;> (unfold zcls at hc; rw [hi] at hc; dsimp only at hc) <;> first | (rw [hi] at hside; exact ⟨zdec hg hi rfl, hside⟩) | (cases hc; done) | (split at hc <;> cases hc)
      exact hRt ad H locs ls pc en.1 en.2.2.1 st hag hP hD hS hd.1 hd.2 hret
    · have hm := zstep_mono hz
      have hm2 := zex_mono n _ _ _ _ _ _ _ e2
      have K := IH k z.1 z.2.1 z.2.2.1 z.2.2.2 r hE e2 p e R s m args below meth c fa dA dC dI A ad0 n0 z0 Q hAm (by omega) (by omega) hcell hslot hRt
      cases hpl : zplain en.1
      · exact zstep_make hAm hg hpl hz hn0 hz0 (by omega) (by omega) K
      · exact zstep_plain hAm hg hc hpl hz (by omega) (by omega) K
