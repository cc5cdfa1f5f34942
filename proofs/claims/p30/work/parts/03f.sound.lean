/-! ===== a run of the interpreter is a run of the machine ===== -/
section ZMO
variable {F : zF} {en : zE} {pc : Nat} {lv : zL} {st : List Value} {h : zH} {z : zS}
theorem zmono_same (hz : z.2.2.2 = h) : h.length ≤ z.2.2.2.length ∧ zsz h ≤ zsz z.2.2.2 := by rw [hz]; exact ⟨Nat.le_refl _, Nat.le_refl _⟩
theorem zmono_set {k : Nat} {c c' : zC} (hk : h[k]? = some c) (hl : c'.2.length = c.2.length) (hz : z.2.2.2 = h.set k c') : h.length ≤ z.2.2.2.length ∧ zsz h ≤ zsz z.2.2.2 := by
  rw [hz, zsz_set hk hl, List.length_set]; exact ⟨Nat.le_refl _, Nat.le_refl _⟩
theorem zmono_app {h2 : zH} (hz : z.2.2.2 = h ++ h2) : h.length ≤ z.2.2.2.length ∧ zsz h ≤ zsz z.2.2.2 := by
  rw [hz, zsz_app, List.length_append]; exact ⟨Nat.le_add_right _ _, Nat.le_add_right _ _⟩
set_option maxHeartbeats 4000000 in
theorem zstep_mono (hs : zstep F en pc lv st h = some z) : h.length ≤ z.2.2.2.length ∧ zsz h ≤ zsz z.2.2.2 := by
  unfold zstep at hs
  split at hs
  all_goals first
    | (obtain rfl := (Option.some.inj hs).symm; exact zmono_same rfl)
    | (obtain ⟨_, _, rfl⟩ := zldI_inv hs; exact zmono_same rfl)
    | (obtain ⟨_, _, rfl⟩ := zldL_inv hs; exact zmono_same rfl)
    | (rcases zldA_inv hs with ⟨_, _, rfl⟩ | ⟨_, _, rfl⟩ <;> exact zmono_same rfl)
    | (obtain ⟨_, _, _, rfl⟩ := zsI_inv hs; exact zmono_same rfl)
    | (obtain ⟨_, _, _, rfl⟩ := zsL_inv hs; exact zmono_same rfl)
    | (obtain ⟨_, _, _, rfl⟩ := zsA_inv hs; exact zmono_same rfl)
    | (obtain ⟨_, _, rfl⟩ := ziinc_inv hs; exact zmono_same rfl)
    | (obtain ⟨_, _, _, _, rfl⟩ := zII_inv hs; exact zmono_same rfl)
    | (obtain ⟨_, _, _, _, _, rfl⟩ := zIIn_inv hs; exact zmono_same rfl)
    | (obtain ⟨_, _, _, _, rfl⟩ := zLL_inv hs; exact zmono_same rfl)
    | (obtain ⟨_, _, _, _, _, rfl⟩ := zLLn_inv hs; exact zmono_same rfl)
    | (obtain ⟨_, _, _, rfl⟩ := zI_inv hs; exact zmono_same rfl)
    | (obtain ⟨_, _, _, rfl⟩ := zLo_inv hs; exact zmono_same rfl)
    | (obtain ⟨_, _, _, _, rfl⟩ := zlcmp_inv hs; exact zmono_same rfl)
    | (obtain ⟨_, _, _, _, rfl⟩ := zif2_inv hs; exact zmono_same rfl)
    | (obtain ⟨_, _, _, rfl⟩ := zif1_inv hs; exact zmono_same rfl)
    | (obtain ⟨_, _, _, _, _, _, _, rfl⟩ := zsw_inv hs; exact zmono_same rfl)
    | (obtain ⟨_, _, _, _, rfl⟩ := zdup_inv hs; exact zmono_same rfl)
    | (obtain ⟨_, _, _, _, _, _, rfl⟩ := zdup2_inv hs; exact zmono_same rfl)
    | (obtain ⟨_, _, _, _, rfl⟩ := zpop_inv hs; exact zmono_same rfl)
    | (obtain ⟨_, _, _, _, rfl⟩ := zpop2_inv hs; exact zmono_same rfl)
    | (rcases zald_inv hs with ⟨_, _, _, _, _, _, _, _, _, _, rfl⟩ | ⟨_, _, _, _, _, _, _, rfl⟩ <;> exact zmono_same rfl)
    | (obtain ⟨_, _, _, _, _, _, _, _, _, _, _, rfl⟩ := zaldq_inv hs; exact zmono_same rfl)
    | (obtain ⟨_, _, _, _, _, _, h1, _, rfl⟩ := zastI_inv hs; exact zmono_set h1 (by simp) rfl)
    | (obtain ⟨_, _, _, _, _, _, h1, _, rfl⟩ := zastZ_inv hs; exact zmono_set h1 (by simp) rfl)
    | (obtain ⟨_, _, _, _, _, _, h1, _, rfl⟩ := zastL_inv hs; exact zmono_set h1 (by simp) rfl)
    | (obtain ⟨_, _, _, _, _, _, _, _, _, h1, _, _, _, rfl⟩ := zastQ_inv hs; exact zmono_set h1 (by simp) rfl)
    | (rcases zalen_inv hs with ⟨_, _, _, _, _, _, _, _, rfl⟩ | ⟨_, _, _, _, rfl⟩ <;> exact zmono_same rfl)
    | (obtain ⟨_, _, _, _, _, _, _, _, rfl⟩ := zgetf_inv hs; exact zmono_same rfl)
    | (obtain ⟨_, _, _, _, _, h1, _, _, _, rfl⟩ := zputf_inv hs; exact zmono_set h1 (by simp) rfl)
    | (obtain ⟨_, _, rfl⟩ := znew_inv hs; exact zmono_app rfl)
    | (obtain ⟨_, _, _, _, _, _, rfl⟩ := znewa_inv hs; exact zmono_app rfl)
    | (obtain ⟨_, _, _, _, _, _, _, _, _, rfl⟩ := znewm_inv hs; exact zmono_app (List.append_assoc _ _ _))
    | (obtain ⟨_, _, _, _, rfl⟩ := zobji_inv hs; exact zmono_same rfl)
    | (split at hs
       · obtain ⟨_, _, _, _, _, _, _, _, _, _, h1, _, _, _, _, _, _, rfl⟩ := zcopy_inv hs
         exact zmono_set h1 (by simp; omega) rfl
       · obtain ⟨_, _, _, _, rfl⟩ := zabsI_inv hs; exact zmono_same rfl
       · obtain ⟨_, _, _, _, rfl⟩ := zabsL_inv hs; exact zmono_same rfl)
    | (split at hs
       · obtain ⟨_, _, _, _, _, _, rfl⟩ := znewa_inv hs; exact zmono_app rfl
       · obtain ⟨_, _, _, _, _, _, rfl⟩ := znewa_inv hs; exact zmono_app rfl
       · obtain ⟨_, _, _, _, _, _, rfl⟩ := znewa_inv hs; exact zmono_app rfl
       · cases hs)
    | cases hs
end ZMO
/-- what zex does, case by case -/
theorem zex_inv {P : Nat → Nat → Option zE} {F : zF} {n k pc : Nat} {lv : zL} {st : List Value} {h : zH} {r : Option Value} {hE : zH} (hx : zex P F (n + 1) k pc lv st h = some (r, hE)) :
    ∃ en, P k pc = some en ∧ ((zcls en = 0 ∧ zcallB en lv st h = true ∧ ∃ r1 h1, zex P F n en.2.2.1 0 (lv_args 0 (st.take (en.2.2.2.1 % 16)).reverse) [] h = some (r1, h1) ∧ zex P F n k (pc + 3) lv (r1.toList ++ st.drop (en.2.2.2.1 % 16)) h1 = some (r, hE)) ∨
      (zcls en = 1 ∧ zret en.1 en.2.2.1 st = some r ∧ hE = h) ∨ (zcls en = 2 ∧ ∃ z, zstep F en pc lv st h = some z ∧ zex P F n k z.1 z.2.1 z.2.2.1 z.2.2.2 = some (r, hE))) := by
  unfold zex at hx
  split at hx
  · cases hx
  · next en hP =>
    refine ⟨en, hP, ?_⟩
    split at hx
    · next hc =>
      cases hb : zcallB en lv st h
      · rw [hb] at hx; cases hx
      · rw [hb] at hx
        simp only [cond_true] at hx
        split at hx
        · next r1 h1 he => exact Or.inl ⟨hc, rfl, r1, h1, he, hx⟩
        · cases hx
    · next hc =>
      split at hx
      · next r1 he =>
        cases hx
        exact Or.inr (Or.inl ⟨hc, he, rfl⟩)
      · cases hx
    · next h0 h1 =>
      have hc : zcls en = 2 := by
        have : zcls en = 0 ∨ zcls en = 1 ∨ zcls en = 2 := by
          unfold zcls
          split <;> first | (split <;> simp) | simp
        rcases this with q | q | q
        · exact absurd q h0
        · exact absurd q h1
        · exact q
      split at hx
      · next z he => exact Or.inr (Or.inr ⟨hc, z, he, hx⟩)
      · cases hx
theorem zex_mono {P : Nat → Nat → Option zE} {F : zF} : ∀ (n k pc : Nat) (lv : zL) (st : List Value) (h : zH) (r : Option Value) (hE : zH), zex P F n k pc lv st h = some (r, hE) → h.length ≤ hE.length ∧ zsz h ≤ zsz hE
  | 0, _, _, _, _, _, _, _, hx => by cases hx
  | n + 1, k, pc, lv, st, h, r, hE, hx => by
    obtain ⟨en, -, ⟨-, -, r1, h1, e1, e2⟩ | ⟨-, -, rfl⟩ | ⟨-, z, e1, e2⟩⟩ := zex_inv hx
    · have a1 := zex_mono n _ _ _ _ _ _ _ e1
      have a2 := zex_mono n _ _ _ _ _ _ _ e2
      exact ⟨Nat.le_trans a1.1 a2.1, Nat.le_trans a1.2 a2.2⟩
    · exact ⟨Nat.le_refl _, Nat.le_refl _⟩
    · have a1 := zstep_mono e1
      have a2 := zex_mono n _ _ _ _ _ _ _ e2
      exact ⟨Nat.le_trans a1.1 a2.1, Nat.le_trans a1.2 a2.2⟩
def zrok (r : Option Value) : Prop := r = none ∨ (∃ x, r = some (.int x)) ∨ ∃ x, r = some (.long x)
theorem zret_rok {i : Instr} {a : Nat} {st : List Value} {r : Option Value} (h : zret i a st = some r) : zrok r := by
  unfold zret at h
  split at h
  · split at h
    · split at h
      · cases h
      · cases h; exact Or.inr (Or.inl ⟨_, rfl⟩)
    · cases h
  · split at h
    · cases h; exact Or.inr (Or.inr ⟨_, rfl⟩)
    · cases h
  · split at h
    · cases h; exact Or.inl rfl
    · cases h
  · cases h
theorem zex_rok {P : Nat → Nat → Option zE} {F : zF} : ∀ (n k pc : Nat) (lv : zL) (st : List Value) (h : zH) (r : Option Value) (hE : zH), zex P F n k pc lv st h = some (r, hE) → zrok r
  | 0, _, _, _, _, _, _, _, hx => by cases hx
  | n + 1, k, pc, lv, st, h, r, hE, hx => by
    obtain ⟨en, -, ⟨-, -, r1, h1, e1, e2⟩ | ⟨-, e1, rfl⟩ | ⟨-, z, e1, e2⟩⟩ := zex_inv hx
    · exact zex_rok n _ _ _ _ _ _ _ e2
    · exact zret_rok e1
    · exact zex_rok n _ _ _ _ _ _ _ e2
theorem zrok_map {r : Option Value} (h : zrok r) (ad fa : Nat → Nat) (st : List Value) : r.toList ++ st.map (ztv ad fa) = (r.toList ++ st).map (ztv ad fa) := by
  rw [List.map_append]
  rcases h with rfl | ⟨x, rfl⟩ | ⟨x, rfl⟩ <;> rfl
theorem zargs_map (ad fa : Nat → Nat) : ∀ (i : Nat) (vs : List Value), lv_args i (vs.map (ztv ad fa)) = ztl ad fa (lv_args i vs)
  | _, [] => rfl
  | i, v :: vs => by
    show (i, ztv ad fa v) :: lv_args (if (ztv ad fa v).category = 2 then i + 2 else i + 1) (vs.map (ztv ad fa)) = (i, ztv ad fa v) :: ztl ad fa (lv_args (if v.category = 2 then i + 2 else i + 1) vs)
    rw [ztv_cat, zargs_map ad fa _ vs]
theorem zsl_len (ad fa : Nat → Nat) (vs : List Value) : (lg_sl (vs.map (ztv ad fa))).length = zcat vs := by
  induction vs with
  | nil => rfl
  | cons v vs ih =>
    unfold lg_sl zcat at *
    rw [List.map_cons, List.flatMap_cons, List.length_append, ih, List.map_cons, List.sum_cons, ztv_cat]
    congr 1
    rcases lv_cat v with hc | hc <;> rw [hc] <;> rfl
theorem zcat_rev (vs : List Value) : zcat vs.reverse = zcat vs := by
  unfold zcat; rw [List.map_reverse, List.sum_reverse]
/-- the words of nest mates, at a state -/
def zisN (w : Cond) : Bool := match w with
  | .methodLinkNest .. => true
  | .fieldLinkNest .. => true
  | _ => false
def zNst (U : State) : Prop := ∀ w ∈ lw_tbl, zisN w = true → va_Nw w U
theorem zNst.warm {s U : State} (hW : s.WarmedH U.vm) (h : zNst s) : zNst U := fun w hw hn => by
  have h1 := h w hw hn
  cases w <;> simp [zisN] at hn
  · exact va_Nw.warmM hW h1
  · exact va_Nw.warmF hW h1
theorem zNst.same {s U : State} (hv : s.vm = U.vm) (h : zNst s) : zNst U := fun w hw hn => by
  have h1 := h w hw hn
  exact va_Nw.same (by cases w <;> simp [zisN] at hn <;> rfl) hv h1
def zTg : List Cond := lw_tbl.filter goodWord
theorem zTs_sub {args : Array Value} {s : State} (hg : ∀ w ∈ zTg, w.before args s = true) (hn : zNst s) : ∀ w ∈ zTs, w.before args s = true := fun w hw => by
  obtain ⟨h1, h2⟩ := List.mem_filter.mp hw
  unfold zokw at h2
  rw [Bool.or_eq_true] at h2
  rcases h2 with h2 | h2
  · exact hg w (List.mem_filter.mpr ⟨h1, h2⟩)
  · exact va_Nw.use (by cases w <;> first | rfl | (simp at h2)) (hn w h1 h2)
theorem zAOA.moved {u U : State} (hvm : u.vm.Alike U.vm) (h : va_AOA .long u) : va_AOA .long U := by
  have h1 : (Cond.arrayOver (.array .long)).before #[] (u.setVm U.vm) = true := by rw [Cond.arrayOver_setVmC hvm]; exact h
  exact h1
theorem zEnv.moved {F : zF} {fa : Nat → Nat} {dA dC : Nat → ClassId} {dI : Nat → Nat → Nat} {A : Nat → Prop} {s U : State} (hvm : s.vm.Alike U.vm) (hq : ∀ q : Nat, q < s.heap.size → ¬ A q → U.heap[q]? = s.heap[q]?) (h : zEnv F fa dA dC dI A s) : zEnv F fa dA dC dI A U := by
  obtain ⟨h1, h2, h3, h4, h5, h6⟩ := h
  refine ⟨va_K.moved hvm h1, fun j hj => ((h2 j hj).moved hvm).kept hq, fun j hj => ((h3 j hj).moved hvm).kept hq, va_AO.moved hvm h4, va_AO.moved hvm h5, zAOA.moved hvm h6⟩
/-- a contract of a method, out of the interpreter's run of it -/
def zPc (F : zF) (fa : Nat → Nat) (dA dC : Nat → ClassId) (dI : Nat → Nat → Nat) (A : Nat → Prop) (ad : Nat → Nat) (h : zH) (vs : List Value) : Array Value → State → Prop := fun a U =>
  a = (vs.map (ztv ad fa)).toArray ∧ zEnv F fa dA dC dI A U ∧ zNst U ∧ va_P (dC, dI) vwCl (zws ad fa dA h) U.heap ∧ va_D A (zws ad fa dA h) ∧ ∀ q, U.heap.size ≤ q → A q
def zQc (fa : Nat → Nat) (dA dC : Nat → ClassId) (dI : Nat → Nat → Nat) (A : Nat → Prop) (ad : Nat → Nat) (h : zH) (r : Option Value) (hE : zH) : Array Value → State → Outcome → State → Prop := fun _ st o t =>
  o = .returned r ∧ (∃ ad' : Nat → Nat, (∀ k, k < h.length → ad' k = ad k) ∧ va_P (dC, dI) vwCl (zws ad' fa dA hE) t.heap ∧ va_D A (zws ad' fa dA hE)) ∧ va_F A st t
theorem zPc_blind {F : zF} {fa : Nat → Nat} {dA dC : Nat → ClassId} {dI : Nat → Nat → Nat} {A : Nat → Prop} {ad : Nat → Nat} {h : zH} {vs : List Value} : FrameBlind (zPc F fa dA dC dI A ad h vs) := by
  intro a U g mk q
  obtain ⟨q1, q2, q3, q4, q5, q6⟩ := q
  exact ⟨q1, zEnv.moved (s := U) (U := U.calling g mk a) (Vm.Alike.refl U.vm) (fun _ _ _ => rfl) q2, zNst.same (s := U) (U := U.calling g mk a) rfl q3, q4, q5, q6⟩
def zrm (M : zM) (h hE : zH) : Room := { frames := M.2.2.2.2.1, cells := hE.length - h.length, slots := zsz hE - zsz h, locals := M.2.2.2.2.2.1 }
def zwds (M : zM) : List Cond := Cond.code M.1 M.2.1 M.2.2.1 M.2.2.2.1 :: zTg
/-- what a return must give: for any place of a return instruction -/
def zRt (p : Program) (l : Launch) (e : Env) (R : Room) (s : State) (m : MethodId) (args : Array Value) (below : List Frame) (meth : Method) (c : Code) (M : zM) (fa : Nat → Nat) (dA dC : Nat → ClassId) (dI : Nat → Nat → Nat) (A : Nat → Prop) (ad0 : Nat → Nat) (n0 z0 : Nat) (Q : State → Prop) (r : Option Value) (hE : zH) : Prop :=
  ∀ (ad : Nat → Nat) (H : Heap) (locs : List Loc) (ls : Array Slot) (pc : Nat) (i : Instr) (a : Nat) (st : List Value), (∀ k, k < n0 → ad k = ad0 k) → va_P (dC, dI) vwCl (zws ad fa dA hE) H → va_D A (zws ad fa dA hE) → va_S A s.heap H locs → decode M.2.1 pc = .ok (i, 1) → zrty M i a = true → zret i a st = some r →
    W p l e R s m args below meth c H locs (hE.length - n0) (zsz hE - z0) Q (F0 m pc ls st)
