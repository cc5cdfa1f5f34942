/-! ===== the main row: what the interpreter runs through, the machine runs through ===== -/
def zSnd (l : Launch) (P : Nat → Nat → Option zE) (mt : Nat → zM) (F : zF) (n : Nat) : Prop :=
  ∀ (k pc : Nat) (lv : zL) (st : List Value) (h : zH) (r : Option Value) (hE : zH), zex P F n k pc lv st h = some (r, hE) →
    ∀ (p : Program) (e : Env) (R : Room) (s : State) (m : MethodId) (args : Array Value) (below : List Frame) (meth : Method) (c : Code) (fa : Nat → Nat) (dA dC : Nat → ClassId) (dI : Nat → Nat → Nat) (A : Nat → Prop) (ad0 : Nat → Nat) (n0 z0 : Nat) (Q : State → Prop),
      zAm p R s m args meth c (mt k) F fa dA dC dI A → n0 ≤ h.length → z0 ≤ zsz h → hE.length - n0 ≤ R.cells → zsz hE - z0 ≤ R.slots → zRt p l e R s m args below meth c (mt k) fa dA dC dI A ad0 n0 z0 Q r hE →
      zGo p l e R s m args below meth c (mt k).2.2.1 fa dA dC dI A ad0 n0 z0 Q pc lv st h
set_option maxHeartbeats 4000000 in
theorem zMet {l : Launch} {P : Nat → Nat → Option zE} {mt : Nat → zM} {F : zF} {n : Nat} (IH : zSnd l P mt F n) {k : Nat} (hk : zmok (mt k)) {vs : List Value} {h : zH} {r : Option Value} {hE : zH} (hx : zex P F n k 0 (lv_args 0 vs) [] h = some (r, hE)) (hcat : zcat vs ≤ (mt k).2.2.1)
    (fa : Nat → Nat) (dA dC : Nat → ClassId) (dI : Nat → Nat → Nat) (A : Nat → Prop) (ad : Nat → Nat) :
    Met l (mt k).1 (zwds (mt k)) (zrm (mt k) h hE) (zPc F fa dA dC dI A ad h vs) (zQc fa dA dC dI A ad h r hE) (hE.length - h.length) (zsz hE - zsz h) A := by
  obtain ⟨hcode, i1, i2, i3, hmb⟩ := hk
  unfold zmokB at hmb
  simp only [Bool.and_eq_true] at hmb
  refine Met.ofW (cc := (mt k).2.1) (maxL := (mt k).2.2.1) (ret := (mt k).2.2.2.1) hmb.1.1.1.1.1 rfl ?_
  intro p e s m args below meth c s₁ B hml hv
  obtain ⟨rfl, hEv, hN, hP, hD, hA⟩ := hv
  have hts := atoms_spec (ws := zwds (mt k)) B.pre
  have hAm : zAm p (zrm (mt k) h hE) s m (vs.map (ztv ad fa)).toArray meth c (mt k) F fa dA dC dI A := ⟨B.exec, B.bytes, hml, findClass_of_methodNamed B.named, B.returns, B.notSynchronized, fun h => (name_of_methodNamed B.named B.method).1.trans h, zTs_sub (fun w hw => hts w (List.mem_cons_of_mem _ hw)) hN, hEv, ⟨Nat.le_refl _, Nat.le_refl _⟩, hA⟩
  have hlk := B.notSynchronized
  have hgo := IH k 0 (lv_args 0 vs) [] h r hE hx p e (zrm (mt k) h hE) s m (vs.map (ztv ad fa)).toArray below meth c fa dA dC dI A ad h.length (zsz h) (MQ below (zQc fa dA dC dI A ad h r hE) (vs.map (ztv ad fa)).toArray s (hE.length - h.length) (zsz hE - zsz h) A) hAm (Nat.le_refl _) (Nat.le_refl _) (Nat.le_refl _) (Nat.le_refl _) ?_
  · rw [lg_entry_eq]
    have h1 := hgo ad s.heap [] _ (fun _ _ => rfl) hP hD va_S.rf (by rw [← zargs_map]; exact lv_entry _ (by rw [zsl_len]; exact hcat))
    rw [Nat.sub_self, Nat.sub_self] at h1
    exact h1
  · intro ad' H locs ls pc i a st hag hP1 hD1 hS1 hdec hrt hret
    have hfin : ∀ t : State, t.heap = H → s.WarmedH t.vm → zQc fa dA dC dI A ad h r hE (vs.map (ztv ad fa)).toArray s (.returned r) t := fun t ht hW => ⟨rfl, ⟨ad', hag, by rw [ht]; exact hP1, hD1⟩, hS1.F ht⟩
    have hr := B.returns
    unfold zret at hret
    split at hret
    · split at hret
      · next x =>
        split at hret
        · cases hret
        · next hnx =>
          cases hret
          unfold zrty at hrt
          dsimp only at hrt
          split at hrt
          · next ha =>
            rw [of_decide_eq_true hrt] at hr
            have hx01 : x = 0 ∨ x = 1 := Classical.byContradiction fun q => hnx ⟨ha, q⟩
            exact W.zret B.exec B.bytes hr (by rcases hx01 with rfl | rfl <;> rfl) hfin hS1.2.2 hdec hlk
          · rw [of_decide_eq_true hrt] at hr
            exact W.iret B.exec B.bytes hr hfin hS1.2.2 hdec hlk
      · cases hret
    · split at hret
      · cases hret
        unfold zrty at hrt
        dsimp only at hrt
        rw [of_decide_eq_true hrt] at hr
        exact W.lret B.exec B.bytes hr hfin hS1.2.2 hdec hlk
      · cases hret
    · split at hret
      · cases hret
        unfold zrty at hrt
        dsimp only at hrt
        rw [of_decide_eq_true hrt] at hr
        exact W.vret B.exec B.bytes hr hfin hS1.2.2 hdec hlk
      · cases hret
    · cases hret
