/-! ===== a step of the interpreter is a step of the machine ===== -/
def zokw (w : Cond) : Bool := goodWord w || (match w with
  | .methodLinkNest .. => true
  | .fieldLinkNest .. => true
  | _ => false)
def zTs : List Cond := lw_tbl.filter zokw
theorem zTs_of {w : Cond} {i : Nat} (h : zlw i w = true) (ho : zokw w = true) : w ∈ zTs := List.mem_filter.mpr ⟨List.mem_of_getElem? (by unfold zlw at h; exact of_decide_eq_true h), ho⟩
def zuws (r : vw_C) : Bool := (u_ws r.1 r.2.1 r.2.2).all (fun w => decide (w ∈ lw_tbl) && zokw w)
theorem zuws_in {r : vw_C} (h : zuws r = true) : ∀ w ∈ u_ws r.1 r.2.1 r.2.2, w ∈ zTs := fun w hw => by
  have h1 := List.all_eq_true.mp h w hw
  rw [Bool.and_eq_true, decide_eq_true_eq] at h1
  exact List.mem_filter.mpr h1
def zclok (ci : Nat) (r : vw_C) : Prop := (∀ w ∈ u_ws r.1 r.2.1 r.2.2, w ∈ zTs) ∧ (∀ k, k < r.2.2 → parseFieldDescriptor (r.2.1 k).2.2.1 = some (ztyX ci k)) ∧ (∀ a, a < r.2.2 → ∀ b, b < r.2.2 → a ≠ b → (r.2.1 a).2.1 ≠ (r.2.1 b).2.1) ∧ Cond.instantiable r.1 r.2.2 ∈ zTs ∧ Cond.initialized r.1 ∈ zTs ∧ r.2.2 = zNN ci
set_option maxRecDepth 100000 in
theorem zcl_0 : zclok 0 (RX0, TX0, 2) := ⟨zuws_in (by decide +kernel), tyX0_ok, nmX0, zTs_of (i := 139) (by decide +kernel) rfl, zTs_of (i := 55) (by decide +kernel) rfl, rfl⟩
set_option maxRecDepth 100000 in
theorem zcl_1 : zclok 1 (RX1, TX1, 19) := ⟨zuws_in (by decide +kernel), tyX1_ok, nmX1, zTs_of (i := 131) (by decide +kernel) rfl, zTs_of (i := 54) (by decide +kernel) rfl, rfl⟩
set_option maxRecDepth 100000 in
theorem zcl_2 : zclok 2 (RX2, TX2, 3) := ⟨zuws_in (by decide +kernel), tyX2_ok, nmX2, zTs_of (i := 106) (by decide +kernel) rfl, zTs_of (i := 53) (by decide +kernel) rfl, rfl⟩
set_option maxRecDepth 100000 in
theorem zcl_3 : zclok 3 (RX3, TX3, 7) := ⟨zuws_in (by decide +kernel), tyX3_ok, nmX3, zTs_of (i := 70) (by decide +kernel) rfl, zTs_of (i := 52) (by decide +kernel) rfl, rfl⟩
set_option maxRecDepth 100000 in
theorem zcl_4 : zclok 4 (RX4, TX4, 3) := ⟨zuws_in (by decide +kernel), tyX4_ok, nmX4, zTs_of (i := 226) (by decide +kernel) rfl, zTs_of (i := 56) (by decide +kernel) rfl, rfl⟩
set_option maxRecDepth 100000 in
theorem zcl_5 : zclok 5 (RX5, TX5, 15) := ⟨zuws_in (by decide +kernel), tyX5_ok, nmX5, zTs_of (i := 62) (by decide +kernel) rfl, zTs_of (i := 51) (by decide +kernel) rfl, rfl⟩
set_option maxRecDepth 100000 in
theorem zcl_6 : zclok 6 (RX6, TX6, 40) := ⟨zuws_in (by decide +kernel), tyX6_ok, nmX6, zTs_of (i := 691) (by decide +kernel) rfl, zTs_of (i := 57) (by decide +kernel) rfl, rfl⟩
theorem zcl : ∀ (ci : Nat) (r : vw_C), vwCl[ci]? = some r → zclok ci r
  | 0, r, h => by cases h; exact zcl_0
  | 1, r, h => by cases h; exact zcl_1
  | 2, r, h => by cases h; exact zcl_2
  | 3, r, h => by cases h; exact zcl_3
  | 4, r, h => by cases h; exact zcl_4
  | 5, r, h => by cases h; exact zcl_5
  | 6, r, h => by cases h; exact zcl_6
  | n + 7, r, h => by simp [vwCl] at h
theorem zfit_ok {kind : Nat} {ty : FieldType} {v : Value} (ad fa : Nat → Nat) (hk : zkok kind ty = true) (hv : zfit (zty kind) v = true) : narrow ty (ztv ad fa v) = ztv ad fa v ∧ fits ty (ztv ad fa v) = true := by
  cases ty <;> simp [zkok] at hk <;> subst hk <;> cases v <;> simp [zfit, zty] at hv <;> exact ⟨rfl, rfl⟩
/-- what every method finds: the classes, the arrays' classes, the arrays that are only read -/
def zEnv (F : zF) (fa : Nat → Nat) (dA dC : Nat → ClassId) (dI : Nat → Nat → Nat) (A : Nat → Prop) (U : State) : Prop :=
  va_K (dC, dI) vwCl (ztys dA) U ∧ (∀ j, j < 3 → va_Z "FewPlaces" (zsn j) "[I" (.ref (fa j)) A U U.heap) ∧ (∀ j, j < 4 → va_T .int (fa j) ((F j).1 - 1) (fun i => .int ((F j).2 i)) A U U.heap) ∧ va_AO RX3 U ∧ va_AO RX4 U ∧ (Cond.arrayOver (.array .long)).before #[] U = true
def zAm (p : Program) (R : Room) (s : State) (m : MethodId) (args : Array Value) (meth : Method) (c : Code) (M : zM) (F : zF) (fa : Nat → Nat) (dA dC : Nat → ClassId) (dI : Nat → Nat → Nat) (A : Nat → Prop) : Prop :=
  p.tables.exec = Jvm.exec ∧ c.code = M.2.1 ∧ c.maxLocals = M.2.2.1 ∧ s.vm.findClass M.1.cls = some m.cls ∧ meth.sig.returnType = M.2.2.2.1 ∧ meth.locks = false ∧ (M.1.name = "<init>" → meth.name = "<init>") ∧ (∀ w ∈ zTs, w.before args s = true) ∧ zEnv F fa dA dC dI A s ∧ (M.2.2.2.2.1 ≤ R.frames ∧ M.2.2.2.2.2.1 ≤ R.locals) ∧ (∀ q, s.heap.size ≤ q → A q)
/-- the machine goes on from here, whatever heap holds the cells -/
def zGo (p : Program) (l : Launch) (e : Env) (R : Room) (s : State) (m : MethodId) (args : Array Value) (below : List Frame) (meth : Method) (c : Code) (nL : Nat) (fa : Nat → Nat) (dA dC : Nat → ClassId) (dI : Nat → Nat → Nat) (A : Nat → Prop) (ad0 : Nat → Nat) (n0 z0 : Nat) (Q : State → Prop) (pc : Nat) (lv : zL) (st : List Value) (h : zH) : Prop :=
  ∀ (ad : Nat → Nat) (H : Heap) (locs : List Loc) (ls : Array Slot), (∀ k, k < n0 → ad k = ad0 k) → va_P (dC, dI) vwCl (zws ad fa dA h) H → va_D A (zws ad fa dA h) → va_S A s.heap H locs → lv_has ls nL (ztl ad fa lv) →
    W p l e R s m args below meth c H locs (h.length - n0) (zsz h - z0) Q (F0 m pc ls (st.map (ztv ad fa)))
theorem zdec {mt : Nat → zM} {M : zM} {pc : Nat} {en : zE} {i : Instr} (hg : zgood mt M pc en) (he : en.1 = i) (h0 : (zlen i == 0) = false) : decode M.2.1 pc = .ok (i, zlen i) := by
  obtain ⟨h1, h2, -⟩ := hg
  rw [he] at h1 h2
  rcases h2 with h2 | h2
  · rw [h1, h2]
  · rw [h2] at h0; cases h0
set_option maxRecDepth 100000 in
theorem zoi1 : Cond.instanceMethod objectInit ∈ zTs := List.mem_filter.mpr ⟨by decide +kernel, rfl⟩
set_option maxRecDepth 100000 in
theorem zoi2 : Cond.code objectInit ⟨#[0xb1]⟩ 1 none ∈ zTs := List.mem_filter.mpr ⟨by decide +kernel, rfl⟩
set_option maxRecDepth 100000 in
theorem zac1 : Cond.native arraycopyName ∈ zTs := List.mem_filter.mpr ⟨by decide +kernel, rfl⟩
set_option maxRecDepth 100000 in
theorem zac2 : Cond.static arraycopyName ∈ zTs := List.mem_filter.mpr ⟨by decide +kernel, rfl⟩
set_option maxRecDepth 100000 in
theorem zac3 : Cond.initialized "java/lang/System" ∈ zTs := List.mem_filter.mpr ⟨by decide +kernel, rfl⟩
set_option maxRecDepth 100000 in
theorem zma1 : Cond.static Lib.Math.abs.name ∈ zTs := List.mem_filter.mpr ⟨by decide +kernel, rfl⟩
set_option maxRecDepth 100000 in
theorem zma2 : Cond.initialized "java/lang/Math" ∈ zTs := List.mem_filter.mpr ⟨by decide +kernel, rfl⟩
set_option maxRecDepth 100000 in
theorem zma3 : Cond.code Lib.Math.abs.name Lib.Math.abs.code 1 (some .int) ∈ zTs := List.mem_filter.mpr ⟨by decide +kernel, rfl⟩
set_option maxRecDepth 100000 in
theorem zml1 : Cond.static Lib.MathLoose.abs_long.x ∈ zTs := List.mem_filter.mpr ⟨by decide +kernel, rfl⟩
set_option maxRecDepth 100000 in
theorem zml3 : Cond.code Lib.MathLoose.abs_long.x Lib.MathLoose.abs_long.code 2 (some .long) ∈ zTs := List.mem_filter.mpr ⟨by decide +kernel, rfl⟩
theorem zcpy {l0 lc : List Value} {sp dp n : Nat} (h1 : sp + n ≤ l0.length) (h2 : dp + n ≤ lc.length) : (fun j => zi32 (((lc.take dp ++ (l0.drop sp).take n) ++ lc.drop (dp + n)).getD j (.int 0))) = va_cpy (fun j => zi32 (l0.getD j (.int 0))) (fun j => zi32 (lc.getD j (.int 0))) sp dp n := by
  funext j
  unfold va_cpy
  simp only [List.getD_eq_getElem?_getD]
  by_cases c1 : j < dp
  · rw [if_neg (by omega), List.getElem?_append_left (by simp; omega), List.getElem?_append_left (by simp; omega), List.getElem?_take, if_pos c1]
  · by_cases c2 : j < dp + n
    · rw [if_pos (by omega), List.getElem?_append_left (by simp; omega), List.getElem?_append_right (by simp; omega), List.getElem?_take, List.length_take, Nat.min_eq_left (by omega), if_pos (by omega), List.getElem?_drop]
    · rw [if_neg (by omega), List.getElem?_append_right (by simp; omega), List.getElem?_drop]
      congr 3
      simp
      omega
section ZST
variable {p : Program} {l : Launch} {e : Env} {R : Room} {s : State} {m : MethodId} {args : Array Value} {below : List Frame} {meth : Method} {c : Code} {Q : State → Prop}
variable {mt : Nat → zM} {M : zM} {F : zF} {fa : Nat → Nat} {dA dC : Nat → ClassId} {dI : Nat → Nat → Nat} {A : Nat → Prop} {ad0 : Nat → Nat} {n0 z0 : Nat}
variable {en : zE} {pc : Nat} {lv : zL} {st : List Value} {h : zH} {z : zS}
theorem zsz_set {h : zH} {k : Nat} {c c' : zC} (hk : h[k]? = some c) (hl : c'.2.length = c.2.length) : zsz (h.set k c') = zsz h := by
  unfold zsz
  rw [List.map_set, hl]
  have : (h.map (fun c => c.2.length))[k]? = some c.2.length := by rw [List.getElem?_map, hk]; rfl
  congr 1
  apply List.ext_getElem?
  intro j
  rw [List.getElem?_set]
  split
  · next hj =>
    subst hj
    split
    · exact this.symm
    · next hn =>
      have := (List.getElem?_eq_some_iff.mp this).1
      omega
  · rfl
/-- all instructions that make nothing, but calls -/
def zplain (i : Instr) : Bool := match i with
  | .new _ => false
  | .newarray _ => false
  | .anewarray _ => false
  | .multianewarray _ _ => false
  | _ => true
set_option maxHeartbeats 8000000 in
set_option maxRecDepth 100000 in
theorem zstep_plain (hAm : zAm p R s m args meth c M F fa dA dC dI A) (hg : zgood mt M pc en) (hc : zcls en = 2) (hpl : zplain en.1 = true) (hs : zstep F en pc lv st h = some z) (hcell : h.length - n0 ≤ R.cells) (hslot : zsz h - z0 ≤ R.slots)
    (K : zGo p l e R s m args below meth c M.2.2.1 fa dA dC dI A ad0 n0 z0 Q z.1 z.2.1 z.2.2.1 z.2.2.2) : zGo p l e R s m args below meth c M.2.2.1 fa dA dC dI A ad0 n0 z0 Q pc lv st h := by
  intro ad H locs ls hag hP hD hS hl
  obtain ⟨hx, hb, hml, hown, hr, hlk, hnm, hts, ⟨hK, hZ, hT, hA1, hA2, hA3⟩, ⟨hRf, hRl⟩, hA⟩ := hAm
  have hside := hg.2.2
  unfold zstep at hs
  split at hs
  · next n he =>
    obtain rfl := (Option.some.inj hs).symm
    exact lv_iconst hx hb (zdec hg he rfl) rfl (K ad H locs ls hag hP hD hS hl)
  · next n he =>
    obtain rfl := (Option.some.inj hs).symm
    exact lv_bipush hx hb (zdec hg he rfl) rfl (K ad H locs ls hag hP hD hS hl)
  · next n he =>
    obtain rfl := (Option.some.inj hs).symm
    exact lv_sipush hx hb (zdec hg he rfl) rfl (K ad H locs ls hag hP hD hS hl)
  · next n he =>
    obtain rfl := (Option.some.inj hs).symm
    exact lv_lconst hx hb (zdec hg he rfl) rfl (K ad H locs ls hag hP hD hS hl)
  · next n he =>
    obtain rfl := (Option.some.inj hs).symm
    unfold zsideB at hside
    rw [he] at hside
    exact lv_ldc2 hx hb hown (hts _ (zTs_of hside rfl)) (zdec hg he rfl) (K ad H locs ls hag hP hD hS hl)
  · next k he =>
    obtain ⟨x, h1, rfl⟩ := zldI_inv hs
    exact lv_iload_n hx hb (zdec hg he rfl) rfl (hl.2.2 _ (ztl_get h1)) (K ad H locs ls hag hP hD hS hl)
  · next k he =>
    obtain ⟨x, h1, rfl⟩ := zldI_inv hs
    exact lv_iload hx hb (zdec hg he rfl) (hl.2.2 _ (ztl_get h1)) (K ad H locs ls hag hP hD hS hl)
  · next k he =>
    obtain ⟨x, h1, rfl⟩ := zldL_inv hs
    exact lv_lload_n hx hb (zdec hg he rfl) rfl (hl.2.2 _ (ztl_get h1)) (K ad H locs ls hag hP hD hS hl)
  · next k he =>
    obtain ⟨x, h1, rfl⟩ := zldL_inv hs
    exact lv_lload hx hb (zdec hg he rfl) (hl.2.2 _ (ztl_get h1)) (K ad H locs ls hag hP hD hS hl)
  · next k he =>
    rcases zldA_inv hs with ⟨x, h1, rfl⟩ | ⟨x, h1, rfl⟩
    · exact lv_aload_n hx hb (zdec hg he rfl) rfl (hl.2.2 _ (ztl_get h1)) (K ad H locs ls hag hP hD hS hl)
    · exact lv_aload_n hx hb (zdec hg he rfl) rfl (hl.2.2 _ (ztl_get h1)) (K ad H locs ls hag hP hD hS hl)
  · next k he =>
    rcases zldA_inv hs with ⟨x, h1, rfl⟩ | ⟨x, h1, rfl⟩
    · exact lv_aload hx hb (zdec hg he rfl) (hl.2.2 _ (ztl_get h1)) (K ad H locs ls hag hP hD hS hl)
    · exact lv_aload hx hb (zdec hg he rfl) (hl.2.2 _ (ztl_get h1)) (K ad H locs ls hag hP hD hS hl)
  · next k he =>
    obtain ⟨x, r, rfl, rfl⟩ := zsI_inv hs
    unfold zsideB at hside
    rw [he] at hside
    exact lv_istore_n hx hb (zdec hg he rfl) rfl hl (of_decide_eq_true hside) (ztl_st1 (v := .int x)) (fun ls hl => K ad H locs ls hag hP hD hS hl)
  · next k he =>
    obtain ⟨x, r, rfl, rfl⟩ := zsI_inv hs
    unfold zsideB at hside
    rw [he] at hside
    exact lv_istore hx hb (zdec hg he rfl) hl (of_decide_eq_true hside) (ztl_st1 (v := .int x)) (fun ls hl => K ad H locs ls hag hP hD hS hl)
  · next k he =>
    obtain ⟨x, r, rfl, rfl⟩ := zsL_inv hs
    unfold zsideB at hside
    rw [he] at hside
    exact lv_lstore_n hx hb (zdec hg he rfl) rfl hl (of_decide_eq_true hside) (ztl_st2 (v := .long x)) (fun ls hl => K ad H locs ls hag hP hD hS hl)
  · next k he =>
    obtain ⟨x, r, rfl, rfl⟩ := zsL_inv hs
    unfold zsideB at hside
    rw [he] at hside
    exact lv_lstore hx hb (zdec hg he rfl) hl (of_decide_eq_true hside) (ztl_st2 (v := .long x)) (fun ls hl => K ad H locs ls hag hP hD hS hl)
  · next k he =>
    obtain ⟨x, r, rfl, rfl⟩ := zsA_inv hs
    unfold zsideB at hside
    rw [he] at hside
    exact lv_astore_n hx hb (zdec hg he rfl) rfl hl (of_decide_eq_true hside) (ztl_st1 (v := .ref x)) (fun ls hl => K ad H locs ls hag hP hD hS hl)
  · next k he =>
    obtain ⟨x, r, rfl, rfl⟩ := zsA_inv hs
    unfold zsideB at hside
    rw [he] at hside
    exact lv_astore hx hb (zdec hg he rfl) hl (of_decide_eq_true hside) (ztl_st1 (v := .ref x)) (fun ls hl => K ad H locs ls hag hP hD hS hl)
  · next k n he =>
    obtain ⟨x, h1, rfl⟩ := ziinc_inv hs
    unfold zsideB at hside
    rw [he] at hside
    obtain ⟨j, hj⟩ := List.getElem?_of_mem (ztl_get (ad := ad) (fa := fa) h1)
    exact lv_iinc hx hb (zdec hg he rfl) hl hj rfl (of_decide_eq_true hside) (ztl_st1 (v := .int (x + Int32.ofInt n))) (fun ls hl => K ad H locs ls hag hP hD hS hl)
  · next he =>
    obtain ⟨x, y, r, rfl, rfl⟩ := zII_inv hs
    exact lv_iadd hx hb (zdec hg he rfl) (K ad H locs ls hag hP hD hS hl)
  · next he =>
    obtain ⟨x, y, r, rfl, rfl⟩ := zII_inv hs
    exact lv_isub hx hb (zdec hg he rfl) (K ad H locs ls hag hP hD hS hl)
  · next he =>
    obtain ⟨x, y, r, rfl, rfl⟩ := zII_inv hs
    exact lv_imul hx hb (zdec hg he rfl) (K ad H locs ls hag hP hD hS hl)
  · next he =>
    obtain ⟨x, y, r, rfl, rfl⟩ := zII_inv hs
    exact lv_iand hx hb (zdec hg he rfl) (K ad H locs ls hag hP hD hS hl)
  · next he =>
    obtain ⟨x, y, r, rfl, hy, rfl⟩ := zIIn_inv hs
    exact lv_idiv hx hb (zdec hg he rfl) hy (K ad H locs ls hag hP hD hS hl)
  · next he =>
    obtain ⟨x, y, r, rfl, hy, rfl⟩ := zIIn_inv hs
    exact lv_irem hx hb (zdec hg he rfl) hy (K ad H locs ls hag hP hD hS hl)
  · next he =>
    obtain ⟨x, y, r, rfl, rfl⟩ := zLL_inv hs
    exact lv_ladd hx hb (zdec hg he rfl) (K ad H locs ls hag hP hD hS hl)
  · next he =>
    obtain ⟨x, y, r, rfl, rfl⟩ := zLL_inv hs
    exact lv_lsub hx hb (zdec hg he rfl) (K ad H locs ls hag hP hD hS hl)
  · next he =>
    obtain ⟨x, y, r, rfl, rfl⟩ := zLL_inv hs
    exact lv_lmul hx hb (zdec hg he rfl) (K ad H locs ls hag hP hD hS hl)
  · next he =>
    obtain ⟨x, y, r, rfl, hy, rfl⟩ := zLLn_inv hs
    exact lv_ldiv hx hb (zdec hg he rfl) hy (K ad H locs ls hag hP hD hS hl)
  · next he =>
    obtain ⟨x, y, r, rfl, hy, rfl⟩ := zLLn_inv hs
    exact lv_lrem hx hb (zdec hg he rfl) hy (K ad H locs ls hag hP hD hS hl)
  · next he =>
    obtain ⟨x, r, rfl, rfl⟩ := zI_inv hs
    exact lv_ineg hx hb (zdec hg he rfl) (K ad H locs ls hag hP hD hS hl)
  · next he =>
    obtain ⟨x, r, rfl, rfl⟩ := zI_inv hs
    exact lv_i2l hx hb (zdec hg he rfl) rfl (K ad H locs ls hag hP hD hS hl)
  · next he =>
    obtain ⟨x, r, rfl, rfl⟩ := zI_inv hs
    exact lv_i2b hx hb (zdec hg he rfl) rfl (K ad H locs ls hag hP hD hS hl)
  · next he =>
    obtain ⟨x, r, rfl, rfl⟩ := zI_inv hs
    exact lv_i2s hx hb (zdec hg he rfl) rfl (K ad H locs ls hag hP hD hS hl)
  · next he =>
    obtain ⟨x, r, rfl, rfl⟩ := zLo_inv hs
    exact lv_lneg hx hb (zdec hg he rfl) (K ad H locs ls hag hP hD hS hl)
  · next he =>
    obtain ⟨x, r, rfl, rfl⟩ := zLo_inv hs
    exact lv_l2i hx hb (zdec hg he rfl) rfl (K ad H locs ls hag hP hD hS hl)
  · next he =>
    obtain ⟨x, y, r, rfl, rfl⟩ := zlcmp_inv hs
    exact W.lcmp hx hb (zdec hg he rfl) (K ad H locs ls hag hP hD hS hl)
  · next cnd off he =>
    obtain ⟨x, y, r, rfl, rfl⟩ := zif2_inv hs
    unfold zsideB at hside
    rw [he] at hside
    have ht := of_decide_eq_true hside
    cases cnd
    · refine lv_icmp_eq hx hb (zdec hg he rfl) ht (fun q => ?_) (fun q => ?_)
      · have hb1 : zcB .eq x y = true := by simp [zcB, q]
        rw [hb1] at K; exact K ad H locs ls hag hP hD hS hl
      · have hb1 : zcB .eq x y = false := by simp [zcB, q]
        rw [hb1] at K; exact K ad H locs ls hag hP hD hS hl
    · refine lv_icmp_ne hx hb (zdec hg he rfl) ht (fun q => ?_) (fun q => ?_)
      · have hb1 : zcB .ne x y = true := by simp [zcB, q]
        rw [hb1] at K; exact K ad H locs ls hag hP hD hS hl
      · have hb1 : zcB .ne x y = false := by simp [zcB, q]
        rw [hb1] at K; exact K ad H locs ls hag hP hD hS hl
    · refine lv_icmp_lt hx hb (zdec hg he rfl) ht (fun q => ?_) (fun q => ?_)
      · have hb1 : zcB .lt x y = true := by simp [zcB, q]
        rw [hb1] at K; exact K ad H locs ls hag hP hD hS hl
      · have hb1 : zcB .lt x y = false := by simp [zcB, q]
        rw [hb1] at K; exact K ad H locs ls hag hP hD hS hl
    · refine lv_icmp_ge hx hb (zdec hg he rfl) ht (fun q => ?_) (fun q => ?_)
      · have hb1 : zcB .ge x y = true := by simp [zcB, Int32.not_lt.mpr q]
        rw [hb1] at K; exact K ad H locs ls hag hP hD hS hl
      · have hb1 : zcB .ge x y = false := by simp [zcB, Int32.not_le.mp q]
        rw [hb1] at K; exact K ad H locs ls hag hP hD hS hl
    · refine lv_icmp_gt hx hb (zdec hg he rfl) ht (fun q => ?_) (fun q => ?_)
      · have hb1 : zcB .gt x y = true := by simp [zcB, q]
        rw [hb1] at K; exact K ad H locs ls hag hP hD hS hl
      · have hb1 : zcB .gt x y = false := by simp [zcB, q]
        rw [hb1] at K; exact K ad H locs ls hag hP hD hS hl
    · refine lv_icmp_le hx hb (zdec hg he rfl) ht (fun q => ?_) (fun q => ?_)
      · have hb1 : zcB .le x y = true := by simp [zcB, Int32.not_lt.mpr q]
        rw [hb1] at K; exact K ad H locs ls hag hP hD hS hl
      · have hb1 : zcB .le x y = false := by simp [zcB, Int32.not_le.mp q]
        rw [hb1] at K; exact K ad H locs ls hag hP hD hS hl
  · next cnd off he =>
    obtain ⟨x, r, rfl, rfl⟩ := zif1_inv hs
    unfold zsideB at hside
    rw [he] at hside
    have ht := of_decide_eq_true hside
    cases cnd
    · refine lv_if_eq hx hb (zdec hg he rfl) ht (fun q => ?_) (fun q => ?_)
      · have hb1 : zcB .eq x 0 = true := by simp [zcB, q]
        rw [hb1] at K; exact K ad H locs ls hag hP hD hS hl
      · have hb1 : zcB .eq x 0 = false := by simp [zcB, q]
        rw [hb1] at K; exact K ad H locs ls hag hP hD hS hl
    · refine lv_if_ne hx hb (zdec hg he rfl) ht (fun q => ?_) (fun q => ?_)
      · have hb1 : zcB .ne x 0 = true := by simp [zcB, q]
        rw [hb1] at K; exact K ad H locs ls hag hP hD hS hl
      · have hb1 : zcB .ne x 0 = false := by simp [zcB, q]
        rw [hb1] at K; exact K ad H locs ls hag hP hD hS hl
    · refine lv_if_lt hx hb (zdec hg he rfl) ht (fun q => ?_) (fun q => ?_)
      · have hb1 : zcB .lt x 0 = true := by simp [zcB, q]
        rw [hb1] at K; exact K ad H locs ls hag hP hD hS hl
      · have hb1 : zcB .lt x 0 = false := by simp [zcB, q]
        rw [hb1] at K; exact K ad H locs ls hag hP hD hS hl
    · refine lv_if_ge hx hb (zdec hg he rfl) ht (fun q => ?_) (fun q => ?_)
      · have hb1 : zcB .ge x 0 = true := by simp [zcB, Int32.not_lt.mpr q]
        rw [hb1] at K; exact K ad H locs ls hag hP hD hS hl
      · have hb1 : zcB .ge x 0 = false := by simp [zcB, Int32.not_le.mp q]
        rw [hb1] at K; exact K ad H locs ls hag hP hD hS hl
    · refine lv_if_gt hx hb (zdec hg he rfl) ht (fun q => ?_) (fun q => ?_)
      · have hb1 : zcB .gt x 0 = true := by simp [zcB, q]
        rw [hb1] at K; exact K ad H locs ls hag hP hD hS hl
      · have hb1 : zcB .gt x 0 = false := by simp [zcB, q]
        rw [hb1] at K; exact K ad H locs ls hag hP hD hS hl
    · refine lv_if_le hx hb (zdec hg he rfl) ht (fun q => ?_) (fun q => ?_)
      · have hb1 : zcB .le x 0 = true := by simp [zcB, Int32.not_lt.mpr q]
        rw [hb1] at K; exact K ad H locs ls hag hP hD hS hl
      · have hb1 : zcB .le x 0 = false := by simp [zcB, Int32.not_le.mp q]
        rw [hb1] at K; exact K ad H locs ls hag hP hD hS hl
  · next off he =>
    obtain rfl := (Option.some.inj hs).symm
    unfold zsideB at hside
    rw [he] at hside
    exact lv_goto hx hb (zdec hg he rfl) (of_decide_eq_true hside) (K ad H locs ls hag hP hD hS hl)
  · next dflt lo hi offs he =>
    obtain ⟨x, r, off, t, rfl, ho, ht, rfl⟩ := zsw_inv hs
    have hd := hg.1
    rw [he] at hd
    unfold ztab at ho
    split at ho
    · next hc =>
      obtain rfl := Option.some.inj ho
      exact lv_tableOut hx hb hd hc ht (K ad H locs ls hag hP hD hS hl)
    · next hc => exact lv_tableIn hx hb hd (fun q => hc (Or.inl q)) (fun q => hc (Or.inr q)) ho ht (K ad H locs ls hag hP hD hS hl)
  · next dflt ps he =>
    obtain ⟨x, r, off, t, rfl, ho, ht, rfl⟩ := zsw_inv hs
    have hd := hg.1
    rw [he] at hd
    unfold zsideB at hside
    rw [he] at hside
    exact lv_lookup hx hb hd hside (Option.some.inj ho) ht (K ad H locs ls hag hP hD hS hl)
  · next he =>
    obtain ⟨v, r, rfl, hv, rfl⟩ := zdup_inv hs
    exact lv_dup hx hb (zdec hg he rfl) (by rw [ztv_cat]; exact hv) (K ad H locs ls hag hP hD hS hl)
  · next he =>
    obtain ⟨v, w, r, rfl, hv, hw, rfl⟩ := zdup2_inv hs
    exact lv_dup2_11 hx hb (zdec hg he rfl) (by rw [ztv_cat]; exact hv) (by rw [ztv_cat]; exact hw) (K ad H locs ls hag hP hD hS hl)
  · next he =>
    obtain ⟨v, r, rfl, hv, rfl⟩ := zpop_inv hs
    exact lv_pop hx hb (zdec hg he rfl) (by rw [ztv_cat]; exact hv) (K ad H locs ls hag hP hD hS hl)
  · next he =>
    obtain ⟨v, r, rfl, hv, rfl⟩ := zpop2_inv hs
    exact lv_pop2_2 hx hb (zdec hg he rfl) (by rw [ztv_cat]; exact hv) (K ad H locs ls hag hP hD hS hl)
  · next he =>
    rcases zald_inv hs with ⟨j, a, r, lc, v, rfl, h1, h2, h3, h4, rfl⟩ | ⟨j, a, r, rfl, h1, h2, h3, rfl⟩
    · have hv : .int (zi32 (lc.getD j.toNatClampNeg (.int 0))) = ztv ad fa v := by
        rw [List.getD_eq_getElem?_getD, h3]
        cases v <;> simp [zfit, zty] at h4 <;> rfl
      have K1 := K ad H locs ls hag hP hD hS hl
      rw [List.map_cons, ← hv] at K1
      exact va_iald hx hb hK hP a 0 (zws_get h1) rfl (zin_inv h2) (zdec hg he rfl) K1
    · exact va_ti hx hb (hT a h2) hS (zin_inv h3) rfl (zdec hg he rfl) (K ad H locs ls hag hP hD hS hl)
  · next he =>
    rcases zald_inv hs with ⟨j, a, r, lc, v, rfl, h1, h2, h3, h4, rfl⟩ | ⟨j, a, r, rfl, h1, h2, h3, rfl⟩
    · have hv : .long (zi64 (lc.getD j.toNatClampNeg (.long 0))) = ztv ad fa v := by
        rw [List.getD_eq_getElem?_getD, h3]
        cases v <;> simp [zfit, zty] at h4 <;> rfl
      have K1 := K ad H locs ls hag hP hD hS hl
      rw [List.map_cons, ← hv] at K1
      exact va_lald hx hb hK hP a 1 (zws_get h1) rfl (zin_inv h2) (zdec hg he rfl) K1
    · cases h1
  · next he =>
    rcases zald_inv hs with ⟨j, a, r, lc, v, rfl, h1, h2, h3, h4, rfl⟩ | ⟨j, a, r, rfl, h1, h2, h3, rfl⟩
    · have hv : .int (zi32 (lc.getD j.toNatClampNeg (.int 0))) = ztv ad fa v := by
        rw [List.getD_eq_getElem?_getD, h3]
        cases v <;> simp [zfit, zty] at h4 <;> rfl
      have K1 := K ad H locs ls hag hP hD hS hl
      rw [List.map_cons, ← hv] at K1
      exact va_zald hx hb hK hP a 2 (zws_get h1) rfl (zin_inv h2) (zdec hg he rfl) K1
    · cases h1
  · next he =>
    obtain ⟨j, a, r, t, lc, v, rfl, h1, h2, h3, h4, rfl⟩ := zaldq_inv hs
    have hc1 : H[ad a]? = some (vp_cell (dA t) (lc.length, .inr (.inr (.inr (.inr (fun j => zrf ad (lc.getD j .null))))))) := by
      have := hP a _ (zws_get h1)
      rw [zcv_q h2] at this
      exact this
    have hv : va_rf (zrf ad (lc.getD j.toNatClampNeg .null)) = ztv ad fa (.ref v) := by
      rw [List.getD_eq_getElem?_getD, h4]; rfl
    obtain ⟨t0, ty, ht0, hty⟩ : ∃ (t0 : Nat) (ty : FieldType), (ztys dA)[t0]? = some (dA t, ty) ∧ ty.isReference = true := by
      rcases h2 with rfl | rfl | rfl
      · exact ⟨3, _, rfl, rfl⟩
      · exact ⟨4, _, rfl, rfl⟩
      · exact ⟨5, _, rfl, rfl⟩
    have hlt := zin_lt h3
    rw [vp_cell_q] at hc1
    exact W.aald (v := ztv ad fa (.ref v)) hx hb hc1 ((hK.2 t0 _ ht0).1 _ _) hty (fun q => by cases q) (by rw [arrV_size]; exact zin_inv h3) (by rw [arrV_read _ _ hlt, hv]) rfl rfl (zdec hg he rfl) (K ad H locs ls hag hP hD hS hl)
  · next he =>
    obtain ⟨x, j, a, r, lc, rfl, h1, h2, rfl⟩ := zastI_inv hs
    have hz : zsz (h.set a (10, lc.set j.toNatClampNeg (.int x))) = zsz h := zsz_set h1 (by simp)
    have hn : (h.set a (10, lc.set j.toNatClampNeg (.int x))).length = h.length := List.length_set
    refine va_iast hx hb hK hP hD hS a 0 (zws_get h1) rfl (zin_inv h2) (zdec hg he rfl) (fun H1 locs1 hP1 hD1 hS1 => ?_)
    have hw : (zws ad fa dA h).set a (ad a, zcv ad fa dA (10, lc.set j.toNatClampNeg (.int x))) = zws ad fa dA (h.set a (10, lc.set j.toNatClampNeg (.int x))) := zws_set
    rw [zcv_i, List.length_set, zupd_i (zin_lt h2)] at hw
    have K1 := K ad H1 locs1 ls hag (by rw [← hw]; exact hP1) (by rw [← hw]; exact hD1) hS1 hl
    dsimp only at K1
    rw [hz, hn] at K1
    exact K1
  · next he =>
    obtain ⟨x, j, a, r, lc, rfl, h1, h2, rfl⟩ := zastZ_inv hs
    have hz : zsz (h.set a (12, lc.set j.toNatClampNeg (.int (vp_nar .boolean x)))) = zsz h := zsz_set h1 (by simp)
    have hn : (h.set a (12, lc.set j.toNatClampNeg (.int (vp_nar .boolean x)))).length = h.length := List.length_set
    refine va_zast hx hb hK hP hD hS a 2 (zws_get h1) rfl (zin_inv h2) (zdec hg he rfl) (fun H1 locs1 hP1 hD1 hS1 => ?_)
    have hw : (zws ad fa dA h).set a (ad a, zcv ad fa dA (12, lc.set j.toNatClampNeg (.int (vp_nar .boolean x)))) = zws ad fa dA (h.set a (12, lc.set j.toNatClampNeg (.int (vp_nar .boolean x)))) := zws_set
    rw [zcv_z, List.length_set, zupd_i (zin_lt h2)] at hw
    have K1 := K ad H1 locs1 ls hag (by rw [← hw]; exact hP1) (by rw [← hw]; exact hD1) hS1 hl
    dsimp only at K1
    rw [hz, hn] at K1
    exact K1
  · next he =>
    obtain ⟨x, j, a, r, lc, rfl, h1, h2, rfl⟩ := zastL_inv hs
    have hz : zsz (h.set a (11, lc.set j.toNatClampNeg (.long x))) = zsz h := zsz_set h1 (by simp)
    have hn : (h.set a (11, lc.set j.toNatClampNeg (.long x))).length = h.length := List.length_set
    refine va_last hx hb hK hP hD hS a 1 (zws_get h1) rfl (zin_inv h2) (zdec hg he rfl) (fun H1 locs1 hP1 hD1 hS1 => ?_)
    have hw : (zws ad fa dA h).set a (ad a, zcv ad fa dA (11, lc.set j.toNatClampNeg (.long x))) = zws ad fa dA (h.set a (11, lc.set j.toNatClampNeg (.long x))) := zws_set
    rw [zcv_l, List.length_set, zupd_l (zin_lt h2)] at hw
    have K1 := K ad H1 locs1 ls hag (by rw [← hw]; exact hP1) (by rw [← hw]; exact hD1) hS1 hl
    dsimp only at K1
    rw [hz, hn] at K1
    exact K1
  · next he =>
    obtain ⟨v, j, a, r, t, lc, tv, lw, rfl, h1, h2, h3, h4, rfl⟩ := zastQ_inv hs
    have hz : zsz (h.set a (t, lc.set j.toNatClampNeg (.ref v))) = zsz h := zsz_set h1 (by simp)
    have hn : (h.set a (t, lc.set j.toNatClampNeg (.ref v))).length = h.length := List.length_set
    have hw : (zws ad fa dA h).set a (ad a, zcv ad fa dA (t, lc.set j.toNatClampNeg (.ref v))) = zws ad fa dA (h.set a (t, lc.set j.toNatClampNeg (.ref v))) := zws_set
    have ht : t = 13 ∨ t = 14 ∨ t = 15 := by rcases h3 with ⟨q, -⟩ | ⟨q, -⟩ <;> simp [q]
    rw [zcv_q ht, List.length_set, zupd_q (zin_lt h4)] at hw
    have g1 := zws_get (ad := ad) (fa := fa) (dA := dA) h1
    rw [zcv_q ht] at g1
    have fin : ∀ (H1 : Heap) (locs1 : List Loc), va_P (dC, dI) vwCl ((zws ad fa dA h).set a (ad a, .inl (dA t, lc.length, .inr (.inr (.inr (.inr (va_up (fun j => zrf ad (lc.getD j .null)) j.toNatClampNeg (some (ad v))))))))) H1 → va_D A ((zws ad fa dA h).set a (ad a, .inl (dA t, lc.length, .inr (.inr (.inr (.inr (va_up (fun j => zrf ad (lc.getD j .null)) j.toNatClampNeg (some (ad v))))))))) → va_S A s.heap H1 locs1 → W p l e R s m args below meth c H1 locs1 (h.length - n0) (zsz h - z0) Q (F0 m (pc + 1) ls (r.map (ztv ad fa))) := by
      intro H1 locs1 hP1 hD1 hS1
      have K1 := K ad H1 locs1 ls hag (by rw [← hw]; exact hP1) (by rw [← hw]; exact hD1) hS1 hl
      dsimp only at K1
      rw [hz, hn] at K1
      exact K1
    rcases h3 with ⟨rfl, rfl⟩ | ⟨rfl, rfl⟩
    · exact va_astq (r := (RX3, TX3, 7)) hx hb hK hP hD hS a 3 v 3 g1 rfl ((zws_get h2).trans (by rw [zcv_obj (by omega)])) rfl (zin_inv h4) (zdec hg he rfl) fin
    · exact va_astq (r := (RX4, TX4, 3)) hx hb hK hP hD hS a 4 v 4 g1 rfl ((zws_get h2).trans (by rw [zcv_obj (by omega)])) rfl (zin_inv h4) (zdec hg he rfl) fin
  · next he =>
    rcases zalen_inv hs with ⟨a, r, t, lc, rfl, h1, h2, h3, rfl⟩ | ⟨a, r, rfl, h1, rfl⟩
    · have g1 := zws_get (ad := ad) (fa := fa) (dA := dA) h1
      have hcs : t = 10 ∨ t = 11 ∨ t = 12 ∨ t = 13 ∨ t = 14 ∨ t = 15 := by omega
      rcases hcs with rfl | rfl | rfl | rfl | rfl | rfl
      · exact va_alen hx hb hK hP a 0 g1 rfl rfl (zdec hg he rfl) (K ad H locs ls hag hP hD hS hl)
      · exact va_alen hx hb hK hP a 1 g1 rfl rfl (zdec hg he rfl) (K ad H locs ls hag hP hD hS hl)
      · exact va_alen hx hb hK hP a 2 g1 rfl rfl (zdec hg he rfl) (K ad H locs ls hag hP hD hS hl)
      · exact va_alen hx hb hK hP a 3 g1 rfl rfl (zdec hg he rfl) (K ad H locs ls hag hP hD hS hl)
      · exact va_alen hx hb hK hP a 4 g1 rfl rfl (zdec hg he rfl) (K ad H locs ls hag hP hD hS hl)
      · exact va_alen hx hb hK hP a 5 g1 rfl rfl (zdec hg he rfl) (K ad H locs ls hag hP hD hS hl)
    · exact va_tlen hx hb (hT a h1.1) hS rfl (zdec hg he rfl) (K ad H locs ls hag hP hD hS hl)
  · next idx he =>
    obtain ⟨a, r, lc, v, rfl, h1, h2, h3, rfl⟩ := zgetf_inv hs
    unfold zsideB at hside
    rw [he] at hside
    dsimp only at hside
    split at hside
    · next rr hr1 =>
      rw [Bool.and_eq_true, decide_eq_true_eq] at hside
      obtain ⟨w1, w2, w3, w4, w5, w6⟩ := zcl _ _ hr1
      have g1 := zws_get (ad := ad) (fa := fa) (dA := dA) h1
      rw [zcv_obj h2] at g1
      exact va_get (D := (dC, dI)) (C := rr.1) (T := rr.2.1) (N := rr.2.2) (v := ztv ad fa v) hx hb hts w1 hown hK hP a g1 hr1 en.2.2.2.1 hside.1 (hts _ (zTs_of hside.2 rfl)) (fun _ h9 => h9) (by rw [List.getElem?_map, h3]; rfl) (zdec hg he rfl) (K ad H locs ls hag hP hD hS hl)
    · cases hside
  · next idx he =>
    obtain ⟨v, a, r, lc, rfl, h1, h2, h3, h4, rfl⟩ := zputf_inv hs
    unfold zsideB at hside
    rw [he] at hside
    dsimp only at hside
    split at hside
    · next rr hr1 =>
      rw [Bool.and_eq_true, Bool.and_eq_true, Bool.and_eq_true, decide_eq_true_eq] at hside
      obtain ⟨⟨⟨s1, s2⟩, s3⟩, s4⟩ := hside
      obtain ⟨w1, w2, w3, w4, w5, w6⟩ := zcl _ _ hr1
      have g1 := zws_get (ad := ad) (fa := fa) (dA := dA) h1
      rw [zcv_obj h2] at g1
      obtain ⟨f1, f2⟩ := zfit_ok ad fa s4 h4
      have hz : zsz (h.set a (en.2.2.1 % 16, lc.set en.2.2.2.1 v)) = zsz h := zsz_set h1 (by simp)
      have hn : (h.set a (en.2.2.1 % 16, lc.set en.2.2.2.1 v)).length = h.length := List.length_set
      have hw : (zws ad fa dA h).set a (ad a, zcv ad fa dA (en.2.2.1 % 16, lc.set en.2.2.2.1 v)) = zws ad fa dA (h.set a (en.2.2.1 % 16, lc.set en.2.2.2.1 v)) := zws_set
      rw [zcv_obj h2, ← zmap_set] at hw
      have fin : ∀ (H1 : Heap) (locs1 : List Loc), va_P (dC, dI) vwCl ((zws ad fa dA h).set a (ad a, .inr (en.2.2.1 % 16, (lc.map (ztv ad fa)).set en.2.2.2.1 (ztv ad fa v)))) H1 → va_D A ((zws ad fa dA h).set a (ad a, .inr (en.2.2.1 % 16, (lc.map (ztv ad fa)).set en.2.2.2.1 (ztv ad fa v)))) → va_S A s.heap H1 locs1 → W p l e R s m args below meth c H1 locs1 (h.length - n0) (zsz h - z0) Q (F0 m (pc + 3) ls (r.map (ztv ad fa))) := by
        intro H1 locs1 hP1 hD1 hS1
        have K1 := K ad H1 locs1 ls hag (by rw [← hw]; exact hP1) (by rw [← hw]; exact hD1) hS1 hl
        dsimp only at K1
        rw [hz, hn] at K1
        exact K1
      cases hfn : (rr.2.1 en.2.2.2.1).2.2.2
      · exact va_put (D := (dC, dI)) (C := rr.1) (T := rr.2.1) (N := rr.2.2) (v := ztv ad fa v) hx hb hts w1 (ztyX (en.2.2.1 % 16)) w2 w3 hown hK hP hD hS a g1 hr1 en.2.2.2.1 s1 (hts _ (zTs_of s2 rfl)) (fun _ h9 => h9) hfn (w2 _ s1) f1 f2 (by simpa using h3) (zdec hg he rfl) fin
      · rw [hfn] at s3
        simp only [Bool.not_true, Bool.false_or, Bool.and_eq_true, decide_eq_true_eq] at s3
        exact va_putF (D := (dC, dI)) (C := rr.1) (T := rr.2.1) (N := rr.2.2) (v := ztv ad fa v) hx hb hts w1 (ztyX (en.2.2.1 % 16)) w2 w3 hown hK hP hD hS a g1 hr1 en.2.2.2.1 s1 (hts _ (zTs_of s2 rfl)) (fun _ h9 => h9) hfn (hnm s3.2) s3.1 (w2 _ s1) f1 f2 (by simpa using h3) (zdec hg he rfl) fin
    · cases hside
  · next idx he =>
    obtain rfl := (Option.some.inj hs).symm
    unfold zsideB at hside
    rw [he] at hside
    dsimp only at hside
    rw [Bool.and_eq_true, decide_eq_true_eq] at hside
    obtain ⟨s1, s2⟩ := hside
    split at s2
    · exact va_gets hx hb (hZ _ s1) hS hown (hts _ (zTs_of s2 rfl)) (fun _ h9 => h9) (zdec hg he rfl) (K ad H locs ls hag hP hD hS hl)
    · exact va_getsN hx hb (hZ _ s1) hS hown (hts _ (zTs_of s2 rfl)) (fun _ h9 => h9) (zdec hg he rfl) (K ad H locs ls hag hP hD hS hl)
  · next he => rw [he] at hpl; cases hpl
  · next he => rw [he] at hpl; cases hpl
  · next he => rw [he] at hpl; cases hpl
  · next he => rw [he] at hpl; cases hpl
  · next idx he =>
    obtain ⟨a, r, rfl, h1, rfl⟩ := zobji_inv hs
    unfold zcls at hc
    rw [he] at hc
    dsimp only at hc
    split at hc
    · next h900 =>
      unfold zsideB at hside
      rw [he] at hside
      dsimp only at hside
      rw [if_pos h900, Bool.and_eq_true, Bool.and_eq_true, decide_eq_true_eq, decide_eq_true_eq] at hside
      obtain ⟨⟨s1, s2⟩, s3⟩ := hside
      have hcat : ((r.map (ztv ad fa)).map fun v => v.category).sum ≤ 8 := by
        rw [List.map_map]
        have : (fun v : Value => v.category) ∘ ztv ad fa = fun v : Value => v.category := by funext v; exact ztv_cat ad fa v
        rw [this]; exact h1
      refine W.objInit hx hb hown (hts _ (zTs_of s1 rfl)) (hts _ zoi1) (hts _ zoi2) rfl (by rw [hml]; exact hl.1) rfl (zdec hg he rfl) (by omega) ?_ (K ad H locs ls hag hP hD hS hl)
      show 2 * 0 + _ + 12 ≤ R.locals
      omega
    · cases hc
  · next idx he =>
    unfold zcls at hc
    rw [he] at hc
    dsimp only at hc
    have hcat : ∀ r : List Value, zcat r ≤ 8 → ((r.map (ztv ad fa)).map fun v => v.category).sum ≤ 8 := by
      intro r h1
      rw [List.map_map]
      have : (fun v : Value => v.category) ∘ ztv ad fa = fun v : Value => v.category := by funext v; exact ztv_cat ad fa v
      rw [this]; exact h1
    unfold zsideB at hside
    rw [he] at hside
    dsimp only at hside
    split at hs
    · next h901 =>
      rw [if_neg (by rw [h901]; decide), if_neg (by rw [h901]; decide), if_pos h901, Bool.and_eq_true, Bool.and_eq_true, decide_eq_true_eq, decide_eq_true_eq] at hside
      obtain ⟨⟨s1, s2⟩, s3⟩ := hside
      obtain ⟨n, dp, a, sp, a0, r, l0, lc, rfl, h1, h2, q1, q2, q3, q4, q5, q6, rfl⟩ := zcopy_inv hs
      have hc8 := hcat r q6
      generalize hnew : (lc.take dp.toNatClampNeg ++ (l0.drop sp.toNatClampNeg).take n.toNatClampNeg) ++ lc.drop (dp.toNatClampNeg + n.toNatClampNeg) = nw at K
      have hlen : nw.length = lc.length := by rw [← hnew]; simp; omega
      have hz : zsz (h.set a (10, nw)) = zsz h := zsz_set h2 hlen
      have hn : (h.set a (10, nw)).length = h.length := List.length_set
      have hw : (zws ad fa dA h).set a (ad a, zcv ad fa dA (10, nw)) = zws ad fa dA (h.set a (10, nw)) := zws_set
      have hcp : (fun j => zi32 (nw.getD j (.int 0))) = va_cpy (fun j => zi32 (l0.getD j (.int 0))) (fun j => zi32 (lc.getD j (.int 0))) sp.toNatClampNeg dp.toNatClampNeg n.toNatClampNeg := by
        rw [← hnew]; exact zcpy q4 q5
      rw [zcv_i, hlen, hcp] at hw
      refine va_copyi hx hb (by rw [hml]; exact hl.1.symm) hown (hts _ (zTs_of s1 rfl)) (hts _ zac1) (hts _ zac2) (hts _ zac3) hK hP hD hS a0 a 0 0 (ty := .int) (zws_get h1) (zws_get h2) rfl rfl rfl q1 q2 q3 q4 q5 (fun _ _ => rfl) (by omega) (by omega) (zdec hg he rfl) (fun H1 locs1 hP1 hD1 hS1 => ?_)
      have K1 := K ad H1 locs1 ls hag (by rw [← hw]; exact hP1) (by rw [← hw]; exact hD1) hS1 hl
      dsimp only at K1
      rw [hz, hn] at K1
      exact K1
    · next h902 =>
      rw [if_pos h902, Bool.and_eq_true, Bool.and_eq_true, decide_eq_true_eq, decide_eq_true_eq] at hside
      obtain ⟨⟨s1, s2⟩, s3⟩ := hside
      obtain ⟨x, r, rfl, h1, rfl⟩ := zabsI_inv hs
      have hc8 := hcat r h1
      exact va_mabs hx hb (by rw [hml]; exact hl.1.symm) hown (hts _ (zTs_of s1 rfl)) (hts _ zma1) (hts _ zma2) (hts _ zma3) (by omega) (by omega) hcell hslot (zdec hg he rfl) (K ad H locs ls hag hP hD hS hl)
    · next h901 h902 =>
      obtain ⟨x, r, rfl, h1, rfl⟩ := zabsL_inv hs
      have hc8 := hcat r h1
      by_cases h903 : en.2.2.1 = 903
      · rw [if_neg (by rw [h903]; decide), if_pos h903, Bool.and_eq_true, Bool.and_eq_true, decide_eq_true_eq, decide_eq_true_eq] at hside
        obtain ⟨⟨s1, s2⟩, s3⟩ := hside
        exact va_mabs_long hx hb (by rw [hml]; exact hl.1.symm) hown (hts _ (zTs_of s1 rfl)) (hts _ zml1) (hts _ zma2) (hts _ zml3) (by omega) (by omega) hcell hslot (zdec hg he rfl) (K ad H locs ls hag hP hD hS hl)
      · rw [if_neg h902, if_neg h903, if_neg h901] at hside
        simp only [Bool.and_eq_true, decide_eq_true_eq] at hside
        rw [if_pos hside.1.1.1.1.1.1.1] at hc
        cases hc
  · cases hs
end ZST
