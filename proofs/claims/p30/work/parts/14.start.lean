/-! ===== from the law's entry to the interpreter's run of the law ===== -/
def zpx (i : Nat) : Int32 := [0, 1, 0, 2, 1, 0, 3, 2, 1, 0, 4, 3, 2, 1, 0, 5, 4, 3, 2, 1, 0, 6, 5, 4, 3, 2, 1, 0].getD i 0
def zpy (i : Nat) : Int32 := [0, 0, 1, 0, 1, 2, 0, 1, 2, 3, 0, 1, 2, 3, 4, 0, 1, 2, 3, 4, 5, 0, 1, 2, 3, 4, 5, 6].getD i 0
def zfc (i : Nat) : Int32 := [1, 1, 2, 6, 24, 120, 720, 5040, 40320].getD i 0
def zFF (L : Nat) (xs : Nat → Int32) : zF := fun j => match j with
  | 0 => (29, zpx)
  | 1 => (29, zpy)
  | 2 => (10, zfc)
  | _ => (L + 1, xs)
def zelB (nm : String) (N : Nat) (f : Nat → Int32) : Bool := (List.range N).all (fun j => decide (Cond.eq (.elem (.static "FewPlaces" nm "[I") (.int (Int32.ofNat j))) (.int (f j)) ∈ flatC (Jvm.Cond.and given_1 narrow_1)))
theorem zstat {args : Array Value} {s : State} {nm : String} {N : Nat} {f : Nat → Int32} {A : Nat → Prop} (hgv : (Jvm.Cond.and given_1 narrow_1).before args s = true) (hN : N < 2 ^ 31) (h1 : zelB nm N f = true) (h2 : Cond.eq (.length (.static "FewPlaces" nm "[I")) (.int (Int32.ofNat N)) ∈ flatC (Jvm.Cond.and given_1 narrow_1)) (h3 : Cond.arrayOf (.static "FewPlaces" nm "[I") .int ∈ flatC (Jvm.Cond.and given_1 narrow_1)) (hA : ∀ a : Nat, a < s.heap.size → ¬ A a)
    (hl : (Cond.laysStatic "FewPlaces" nm "[I").before args s = true) (hini : (Cond.initialized "FewPlaces").before args s = true) : ∃ t : Nat, va_T .int t N (fun i => .int (f i)) A s s.heap ∧ va_Z "FewPlaces" nm "[I" (.ref t) A s s.heap := by
  have hs := flat_of_before _ hgv
  obtain ⟨t, g1, g2⟩ := va_Tof (A := A) (f := fun i => .int (f i)) hN (hs _ h3) (by
    obtain ⟨w, e1, e2⟩ := Cond.eq_one (hs _ h2)
    rw [e1, ← e2]; rfl) (fun j hj => by
    have h4 := List.all_eq_true.mp h1 j (List.mem_range.mpr hj)
    obtain ⟨w, e1, e2⟩ := Cond.eq_one (hs _ (of_decide_eq_true h4))
    rw [e1, ← e2]; rfl) hA
  exact ⟨t, g2, va_Zof hl hini g1 hA⟩
theorem zarr {args : Array Value} {s : State} {ty : FieldType} (h : (Cond.arrayClass ty).before args s = true) (hty : ∀ C, ty ≠ .object C) : ∃ cA : ClassId, ArrOfT s cA ty ∧ va_RA s cA ty := by
  obtain ⟨cA, k, comp, h1, h2, h3⟩ := Cond.arrayClass_spec h
  refine ⟨cA, fun n z => ⟨fun k h => (by cases h), k, h2, comp, h3⟩, ?_⟩
  cases ty <;> first | exact absurd rfl (hty _) | exact h1
theorem zarrq {args : Array Value} {s : State} {C : String} (h : (Cond.arrayOver (.object C)).before args s = true) : ∃ cA : ClassId, ArrOfT s cA (.object C) ∧ va_RA s cA (.object C) := by
  obtain ⟨comp, cA, k, h1, h2, h3, h4, h5⟩ := Cond.arrayOver_spec h
  exact ⟨cA, fun n z => ⟨fun k h => (by cases h), k, h3, comp, h4⟩, k, comp, h3, h4, h1, h5⟩
theorem zarrm {args : Array Value} {s : State} (h : (Cond.arrayOver (.array .long)).before args s = true) : ∃ cA : ClassId, ArrOfT s cA (.array .long) ∧ va_RA s cA (.array .long) := by
  obtain ⟨comp, cA, k, h1, h2, h3, h4, h5⟩ := arrayOverA_spec h
  exact ⟨cA, fun n z => ⟨fun k h => (by cases h), k, h3, comp, h4⟩, h5⟩
theorem zlwb {i : Nat} {w : Cond} (h : zlw i w = true) : w ∈ lw_tbl := List.mem_of_getElem? (by unfold zlw at h; exact of_decide_eq_true h)
set_option maxHeartbeats 8000000 in
set_option maxRecDepth 100000 in
theorem zstart {p : Program} {e : Env} {s : State} {m : MethodId} {below : List Frame} {meth : Method} {c : Code} (l : Launch) {b L : Nat} {xs : Nat → Int32} (hL : L ≤ 65536) (C0 : lw_At p s m meth c b L xs) {n : Nat} {hE : zH} (hrun : zex zP (zFF L xs) n 166 0 [(0, .retAddr 3)] [] [] = some (some (.int 1), hE)) (hc1 : hE.length ≤ 600000) (hc2 : zsz hE ≤ 7302249) :
    W p l e room_1 s m #[Value.ref b] below meth c s.heap [] 0 0 (lw_Z below #[Value.ref b] s) (entryFrame m ([Value.ref b] : List Value).toArray 4) := by
  obtain ⟨hx, hb, hr, hml, hown, hts, hX, hbl, hlk, hgv⟩ := C0
  have hA : ∀ a : Nat, a < s.heap.size → ¬ (fun q => s.heap.size ≤ q) a := fun a h q => by have : s.heap.size ≤ a := q; omega
  have hini : (Cond.initialized "FewPlaces").before #[Value.ref b] s = true := hts _ (zlwb (i := 51) (by decide +kernel))
  obtain ⟨t0, g0, z0⟩ := zstat (A := fun q => s.heap.size ≤ q) (nm := "POWER_X") (N := 28) (f := zpx) hgv (by decide) (by decide +kernel) (by decide +kernel) (by decide +kernel) hA (hts _ (by decide +kernel)) hini
  obtain ⟨t1, g1, z1⟩ := zstat (A := fun q => s.heap.size ≤ q) (nm := "POWER_Y") (N := 28) (f := zpy) hgv (by decide) (by decide +kernel) (by decide +kernel) (by decide +kernel) hA (hts _ (by decide +kernel)) hini
  obtain ⟨t2, g2, z2⟩ := zstat (A := fun q => s.heap.size ≤ q) (nm := "FACTORIAL") (N := 9) (f := zfc) hgv (by decide) (by decide +kernel) (by decide +kernel) (by decide +kernel) hA (hts _ (by decide +kernel)) hini
  have g3 : va_T .int b L (fun i => .int (xs i)) (fun q => s.heap.size ≤ q) s s.heap := by
    obtain ⟨scr, h1, h2, h3, h4, h5⟩ := hX
    exact ⟨scr, h1, h2, h3, by omega, by rw [h4], h5, hA b hbl⟩
  have hTs : ∀ w ∈ zTs, w.before #[Value.ref b] s = true := fun w hw => hts w (List.mem_filter.mp hw).1
  obtain ⟨c10, k10⟩ := zarr (hTs _ zax1) (fun C h => by cases h)
  obtain ⟨c11, k11⟩ := zarr (hTs _ zax2) (fun C h => by cases h)
  obtain ⟨c12, k12⟩ := zarr (hTs _ zax3) (fun C h => by cases h)
  have o13 : (Cond.arrayOver (.object RX3)).before #[Value.ref b] s = true := hts _ (zlwb (i := 223) (by decide +kernel))
  have o14 : (Cond.arrayOver (.object RX4)).before #[Value.ref b] s = true := hts _ (zlwb (i := 225) (by decide +kernel))
  have o15 : (Cond.arrayOver (.array .long)).before #[Value.ref b] s = true := hts _ (zlwb (i := 137) (by decide +kernel))
  obtain ⟨c13, k13⟩ := zarrq o13
  obtain ⟨c14, k14⟩ := zarrq o14
  obtain ⟨c15, k15⟩ := zarrm o15
  let dA : Nat → ClassId := fun t => match t with
    | 10 => c10 | 11 => c11 | 12 => c12 | 13 => c13 | 14 => c14 | _ => c15
  let fa : Nat → Nat := fun j => match j with
    | 0 => t0 | 1 => t1 | 2 => t2 | _ => b
  have kn : ∀ (ci : Nat) (r : vw_C), vwCl[ci]? = some r → ∃ (cC : ClassId) (iS : Nat → Nat), u_Kn s r.1 r.2.1 r.2.2 cC iS := fun ci r hr1 => by
    obtain ⟨w1, w2, w3, w4, w5, w6⟩ := zcl ci r hr1
    exact u_known hTs w1 (hTs _ w4)
  have hKn : ∃ (dC : Nat → ClassId) (dI : Nat → Nat → Nat), ∀ (ci : Nat) (r : vw_C), vwCl[ci]? = some r → u_Kn s r.1 r.2.1 r.2.2 (dC ci) (dI ci) := by
    obtain ⟨a0, b0, q0⟩ := kn 0 _ rfl
    obtain ⟨a1, b1, q1⟩ := kn 1 _ rfl
    obtain ⟨a2, b2, q2⟩ := kn 2 _ rfl
    obtain ⟨a3, b3, q3⟩ := kn 3 _ rfl
    obtain ⟨a4, b4, q4⟩ := kn 4 _ rfl
    obtain ⟨a5, b5, q5⟩ := kn 5 _ rfl
    obtain ⟨a6, b6, q6⟩ := kn 6 _ rfl
    refine ⟨fun j => match j with | 0 => a0 | 1 => a1 | 2 => a2 | 3 => a3 | 4 => a4 | 5 => a5 | _ => a6, fun j => match j with | 0 => b0 | 1 => b1 | 2 => b2 | 3 => b3 | 4 => b4 | 5 => b5 | _ => b6, fun ci r hr1 => ?_⟩
    match ci, hr1 with
    | 0, h => cases h; exact q0
    | 1, h => cases h; exact q1
    | 2, h => cases h; exact q2
    | 3, h => cases h; exact q3
    | 4, h => cases h; exact q4
    | 5, h => cases h; exact q5
    | 6, h => cases h; exact q6
    | n + 7, h => simp [vwCl] at h
  obtain ⟨dC, dI, hKn⟩ := hKn
  have hK : va_K (dC, dI) vwCl (ztys dA) s := ⟨hKn, fun k q hk => by
    match k, hk with
    | 0, h => cases h; exact k10
    | 1, h => cases h; exact k11
    | 2, h => cases h; exact k12
    | 3, h => cases h; exact k13
    | 4, h => cases h; exact k14
    | 5, h => cases h; exact k15
    | n + 6, h => simp [ztys] at h⟩
  have hEnv : zEnv (zFF L xs) fa dA dC dI (fun q => s.heap.size ≤ q) s := ⟨hK, fun j hj => by
    match j, hj with
    | 0, _ => exact z0
    | 1, _ => exact z1
    | 2, _ => exact z2, fun j hj => by
    match j, hj with
    | 0, _ => exact g0
    | 1, _ => exact g1
    | 2, _ => exact g2
    | 3, _ => exact g3, o13, o14, o15⟩
  have hAm : zAm p room_1 s m #[Value.ref b] meth c (zmt 166) (zFF L xs) fa dA dC dI (fun q => s.heap.size ≤ q) := ⟨hx, hb, hml, hown, hr, hlk, fun h => absurd h (by decide +kernel), hTs, hEnv, ⟨by decide +kernel, by decide +kernel⟩, fun q h => h⟩
  have hgo := zsound (l := l) (F := zFF L xs) zhall zhmok n 166 0 [(0, .retAddr 3)] [] [] _ hE hrun p e room_1 s m #[Value.ref b] below meth c fa dA dC dI (fun q => s.heap.size ≤ q) (fun _ => 0) 0 0 (lw_Z below #[Value.ref b] s) hAm (Nat.le_refl _) (Nat.le_refl _) (by rw [Nat.sub_zero]; exact hc1) (by rw [Nat.sub_zero]; exact hc2) ?_
  · rw [lg_entry_eq]
    exact hgo (fun _ => 0) s.heap [] _ (fun _ _ => rfl) (fun k q hq => (by cases hq)) ⟨fun i j p q hp _ _ => (by cases hp), fun k q hq => (by cases hq)⟩ va_S.rf (lv_entry [Value.ref b] (n := 4) (Nat.le_of_ble_eq_true rfl))
  · intro ad' H locs ls pc i a st hag hP1 hD1 hS1 hdec hrt hret
    refine va_forget hS1.2.2 ?_
    refine W.widen (k := 600000) (n := 7302249) (by omega) (by omega) ?_
    unfold zret at hret
    split at hret
    · split at hret
      · split at hret
        · cases hret
        · cases hret
          exact lw_ret hx hb hr hlk hdec
      · cases hret
    · split at hret
      · cases hret
      · cases hret
    · split at hret
      · cases hret
      · cases hret
    · cases hret
