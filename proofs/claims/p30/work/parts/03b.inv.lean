/-! ===== what a step that came through says ===== -/
section ZI
variable {F : zF} {pc i k : Nat} {lv : zL} {st : List Value} {h : zH} {z : zS}
theorem zldI_inv (hs : zldI lv i pc st h = some z) : ∃ x, zget lv i = some (.int x) ∧ z = (pc, lv, .int x :: st, h) := by
  unfold zldI at hs; split at hs
  · exact ⟨_, by assumption, (Option.some.inj hs).symm⟩
  · cases hs
theorem zldL_inv (hs : zldL lv i pc st h = some z) : ∃ x, zget lv i = some (.long x) ∧ z = (pc, lv, .long x :: st, h) := by
  unfold zldL at hs; split at hs
  · exact ⟨_, by assumption, (Option.some.inj hs).symm⟩
  · cases hs
theorem zldA_inv (hs : zldA lv i pc st h = some z) : (∃ x, zget lv i = some (.ref x) ∧ z = (pc, lv, .ref x :: st, h)) ∨ ∃ x, zget lv i = some (.retAddr x) ∧ z = (pc, lv, .retAddr x :: st, h) := by
  unfold zldA at hs; split at hs
  · exact Or.inl ⟨_, by assumption, (Option.some.inj hs).symm⟩
  · exact Or.inr ⟨_, by assumption, (Option.some.inj hs).symm⟩
  · cases hs
theorem zsI_inv (hs : zsI lv i pc st h = some z) : ∃ x r, st = .int x :: r ∧ z = (pc, zst1 lv i (.int x), r, h) := by
  unfold zsI at hs; split at hs
  · exact ⟨_, _, rfl, (Option.some.inj hs).symm⟩
  · cases hs
theorem zsL_inv (hs : zsL lv i pc st h = some z) : ∃ x r, st = .long x :: r ∧ z = (pc, zst2 lv i (.long x), r, h) := by
  unfold zsL at hs; split at hs
  · exact ⟨_, _, rfl, (Option.some.inj hs).symm⟩
  · cases hs
theorem zsA_inv (hs : zsA lv i pc st h = some z) : ∃ x r, st = .ref x :: r ∧ z = (pc, zst1 lv i (.ref x), r, h) := by
  unfold zsA at hs; split at hs
  · exact ⟨_, _, rfl, (Option.some.inj hs).symm⟩
  · cases hs
theorem zII_inv {f : Int32 → Int32 → Int32} (hs : zII f pc lv st h = some z) : ∃ x y r, st = .int y :: .int x :: r ∧ z = (pc + 1, lv, .int (f x y) :: r, h) := by
  unfold zII at hs; split at hs
  · exact ⟨_, _, _, rfl, (Option.some.inj hs).symm⟩
  · cases hs
theorem zIIn_inv {f : Int32 → Int32 → Int32} (hs : zIIn f pc lv st h = some z) : ∃ x y r, st = .int y :: .int x :: r ∧ ¬ y = 0 ∧ z = (pc + 1, lv, .int (f x y) :: r, h) := by
  unfold zIIn at hs; split at hs
  · split at hs
    · cases hs
    · exact ⟨_, _, _, rfl, by assumption, (Option.some.inj hs).symm⟩
  · cases hs
theorem zLL_inv {f : Int64 → Int64 → Int64} (hs : zLL f pc lv st h = some z) : ∃ x y r, st = .long y :: .long x :: r ∧ z = (pc + 1, lv, .long (f x y) :: r, h) := by
  unfold zLL at hs; split at hs
  · exact ⟨_, _, _, rfl, (Option.some.inj hs).symm⟩
  · cases hs
theorem zLLn_inv {f : Int64 → Int64 → Int64} (hs : zLLn f pc lv st h = some z) : ∃ x y r, st = .long y :: .long x :: r ∧ ¬ y = 0 ∧ z = (pc + 1, lv, .long (f x y) :: r, h) := by
  unfold zLLn at hs; split at hs
  · split at hs
    · cases hs
    · exact ⟨_, _, _, rfl, by assumption, (Option.some.inj hs).symm⟩
  · cases hs
theorem zI_inv {f : Int32 → Value} (hs : zI f pc lv st h = some z) : ∃ x r, st = .int x :: r ∧ z = (pc + 1, lv, f x :: r, h) := by
  unfold zI at hs; split at hs
  · exact ⟨_, _, rfl, (Option.some.inj hs).symm⟩
  · cases hs
theorem zLo_inv {f : Int64 → Value} (hs : zLo f pc lv st h = some z) : ∃ x r, st = .long x :: r ∧ z = (pc + 1, lv, f x :: r, h) := by
  unfold zLo at hs; split at hs
  · exact ⟨_, _, rfl, (Option.some.inj hs).symm⟩
  · cases hs
theorem zlcmp_inv (hs : zlcmp pc lv st h = some z) : ∃ x y r, st = .long y :: .long x :: r ∧ z = (pc + 1, lv, .int (lg_cmp x y) :: r, h) := by
  unfold zlcmp at hs; split at hs
  · exact ⟨_, _, _, rfl, (Option.some.inj hs).symm⟩
  · cases hs
theorem zif2_inv {c : Jvm.ClassFile.Cond} {t : Nat} (hs : zif2 c t pc lv st h = some z) : ∃ x y r, st = .int y :: .int x :: r ∧ z = (bif zcB c x y then t else pc + 3, lv, r, h) := by
  unfold zif2 at hs; split at hs
  · exact ⟨_, _, _, rfl, (Option.some.inj hs).symm⟩
  · cases hs
theorem zif1_inv {c : Jvm.ClassFile.Cond} {t : Nat} (hs : zif1 c t pc lv st h = some z) : ∃ x r, st = .int x :: r ∧ z = (bif zcB c x 0 then t else pc + 3, lv, r, h) := by
  unfold zif1 at hs; split at hs
  · exact ⟨_, _, rfl, (Option.some.inj hs).symm⟩
  · cases hs
theorem ztgt_inv {off : Int} {t : Nat} (hs : ztgt pc off = some t) : (pc : Int) + off = (t : Int) := by
  unfold ztgt at hs; split at hs
  · have h1 := Option.some.inj hs
    omega
  · cases hs
theorem zsw_inv {o : Int32 → Option Int} (hs : zsw o pc lv st h = some z) : ∃ x r off, ∃ t : Nat, st = .int x :: r ∧ o x = some off ∧ (pc : Int) + off = (t : Int) ∧ z = (t, lv, r, h) := by
  unfold zsw at hs; split at hs
  · split at hs
    · split at hs
      · exact ⟨_, _, _, _, rfl, by assumption, ztgt_inv (by assumption), (Option.some.inj hs).symm⟩
      · cases hs
    · cases hs
  · cases hs
theorem zin_inv {j : Int32} {n : Nat} (hs : zin j n = true) : vp_in j n := by
  unfold zin at hs
  simp only [Bool.and_eq_true, Bool.not_eq_true', decide_eq_false_iff_not, decide_eq_true_eq] at hs
  exact fun q => q.elim hs.1 (fun h => by omega)
theorem zin_lt {j : Int32} {n : Nat} (hs : zin j n = true) : j.toNatClampNeg < n := by
  unfold zin at hs
  simp only [Bool.and_eq_true, Bool.not_eq_true', decide_eq_false_iff_not, decide_eq_true_eq] at hs
  exact hs.2
theorem zald_inv {tag kind : Nat} (hs : zald tag kind F pc lv st h = some z) : (∃ j a r l v, st = .int j :: .ref a :: r ∧ h[a]? = some (tag, l) ∧ zin j l.length = true ∧ l[j.toNatClampNeg]? = some v ∧ zfit (zty kind) v = true ∧ z = (pc + 1, lv, v :: r, h)) ∨ ∃ j a r, st = .int j :: .retAddr a :: r ∧ tag = 10 ∧ a < 4 ∧ zin j ((F a).1 - 1) = true ∧ z = (pc + 1, lv, .int ((F a).2 j.toNatClampNeg) :: r, h) := by
  unfold zald at hs; split at hs
  · split at hs
    · split at hs
      · next hc =>
        obtain ⟨h1, h2⟩ := hc
        subst h1
        split at hs
        · split at hs
          · exact Or.inl ⟨_, _, _, _, _, rfl, by assumption, h2, by assumption, by assumption, (Option.some.inj hs).symm⟩
          · cases hs
        · cases hs
      · cases hs
    · cases hs
  · split at hs
    · next hc => exact Or.inr ⟨_, _, _, rfl, hc.1, hc.2.1, hc.2.2, (Option.some.inj hs).symm⟩
    · cases hs
  · cases hs
theorem zaldq_inv (hs : zaldq pc lv st h = some z) : ∃ j a r t l v, st = .int j :: .ref a :: r ∧ h[a]? = some (t, l) ∧ (t = 13 ∨ t = 14 ∨ t = 15) ∧ zin j l.length = true ∧ l[j.toNatClampNeg]? = some (.ref v) ∧ z = (pc + 1, lv, .ref v :: r, h) := by
  unfold zaldq at hs; split at hs
  · split at hs
    · split at hs
      · next hc =>
        split at hs
        · exact ⟨_, _, _, _, _, _, rfl, by assumption, hc.1, hc.2, by assumption, (Option.some.inj hs).symm⟩
        · cases hs
      · cases hs
    · cases hs
  · cases hs
theorem zastI_inv (hs : zastI pc lv st h = some z) : ∃ x j a r l, st = .int x :: .int j :: .ref a :: r ∧ h[a]? = some (10, l) ∧ zin j l.length = true ∧ z = (pc + 1, lv, r, h.set a (10, l.set j.toNatClampNeg (.int x))) := by
  unfold zastI at hs; split at hs
  · split at hs
    · split at hs
      · next hc =>
        obtain ⟨h1, h2⟩ := hc
        subst h1
        exact ⟨_, _, _, _, _, rfl, by assumption, h2, (Option.some.inj hs).symm⟩
      · cases hs
    · cases hs
  · cases hs
theorem zastZ_inv (hs : zastZ pc lv st h = some z) : ∃ x j a r l, st = .int x :: .int j :: .ref a :: r ∧ h[a]? = some (12, l) ∧ zin j l.length = true ∧ z = (pc + 1, lv, r, h.set a (12, l.set j.toNatClampNeg (.int (vp_nar .boolean x)))) := by
  unfold zastZ at hs; split at hs
  · split at hs
    · split at hs
      · next hc =>
        obtain ⟨h1, h2⟩ := hc
        subst h1
        exact ⟨_, _, _, _, _, rfl, by assumption, h2, (Option.some.inj hs).symm⟩
      · cases hs
    · cases hs
  · cases hs
theorem zastL_inv (hs : zastL pc lv st h = some z) : ∃ x j a r l, st = .long x :: .int j :: .ref a :: r ∧ h[a]? = some (11, l) ∧ zin j l.length = true ∧ z = (pc + 1, lv, r, h.set a (11, l.set j.toNatClampNeg (.long x))) := by
  unfold zastL at hs; split at hs
  · split at hs
    · split at hs
      · next hc =>
        obtain ⟨h1, h2⟩ := hc
        subst h1
        exact ⟨_, _, _, _, _, rfl, by assumption, h2, (Option.some.inj hs).symm⟩
      · cases hs
    · cases hs
  · cases hs
theorem zastQ_inv (hs : zastQ pc lv st h = some z) : ∃ v j a r t l tv lw, st = .ref v :: .int j :: .ref a :: r ∧ h[a]? = some (t, l) ∧ h[v]? = some (tv, lw) ∧ ((t = 13 ∧ tv = 3) ∨ (t = 14 ∧ tv = 4)) ∧ zin j l.length = true ∧ z = (pc + 1, lv, r, h.set a (t, l.set j.toNatClampNeg (.ref v))) := by
  unfold zastQ at hs; split at hs
  · split at hs
    · split at hs
      · split at hs
        · next hc => exact ⟨_, _, _, _, _, _, _, _, rfl, by assumption, by assumption, hc.1, hc.2, (Option.some.inj hs).symm⟩
        · cases hs
      · cases hs
    · cases hs
  · cases hs
theorem zalen_inv (hs : zalen F pc lv st h = some z) : (∃ a r t l, st = .ref a :: r ∧ h[a]? = some (t, l) ∧ 10 ≤ t ∧ t ≤ 15 ∧ z = (pc + 1, lv, .int (Int32.ofNat l.length) :: r, h)) ∨ ∃ a r, st = .retAddr a :: r ∧ (a < 4 ∧ 0 < (F a).1) ∧ z = (pc + 1, lv, .int (Int32.ofNat ((F a).1 - 1)) :: r, h) := by
  unfold zalen at hs; split at hs
  · split at hs
    · split at hs
      · next hc => exact Or.inl ⟨_, _, _, _, rfl, by assumption, hc.1, hc.2, (Option.some.inj hs).symm⟩
      · cases hs
    · cases hs
  · split at hs
    · next hc => exact Or.inr ⟨_, _, rfl, hc, (Option.some.inj hs).symm⟩
    · cases hs
  · cases hs
theorem zgetf_inv {ci : Nat} (hs : zgetf ci k pc lv st h = some z) : ∃ a r l v, st = .ref a :: r ∧ h[a]? = some (ci, l) ∧ ci < 7 ∧ l[k]? = some v ∧ z = (pc + 3, lv, v :: r, h) := by
  unfold zgetf at hs; split at hs
  · split at hs
    · split at hs
      · next hc =>
        obtain ⟨h1, h2⟩ := hc
        subst h1
        split at hs
        · exact ⟨_, _, _, _, rfl, by assumption, h2, by assumption, (Option.some.inj hs).symm⟩
        · cases hs
      · cases hs
    · cases hs
  · cases hs
theorem zputf_inv {ci kind : Nat} (hs : zputf ci k kind pc lv st h = some z) : ∃ v a r l, st = v :: .ref a :: r ∧ h[a]? = some (ci, l) ∧ ci < 7 ∧ k < l.length ∧ zfit (zty kind) v = true ∧ z = (pc + 3, lv, r, h.set a (ci, l.set k v)) := by
  unfold zputf at hs; split at hs
  · split at hs
    · split at hs
      · next hc =>
        obtain ⟨h1, h2, h3, h4⟩ := hc
        subst h1
        exact ⟨_, _, _, _, rfl, by assumption, h2, h3, h4, (Option.some.inj hs).symm⟩
      · cases hs
    · cases hs
  · cases hs
theorem znew_inv {ci : Nat} (hs : znew ci pc lv st h = some z) : ci < 7 ∧ zwfall lv st h = true ∧ z = (pc + 3, lv, .ref h.length :: st, h ++ [(ci, zfresh ci)]) := by
  unfold znew at hs; split at hs
  · next hc => exact ⟨hc.1, hc.2, (Option.some.inj hs).symm⟩
  · cases hs
theorem znewa_inv {tag : Nat} {v : Value} (hs : znewa tag v pc lv st h = some z) : ∃ n r, st = .int n :: r ∧ ¬ n < 0 ∧ n.toNatClampNeg ≤ 1000 ∧ zwfall lv st h = true ∧ z = (pc, lv, .ref h.length :: r, h ++ [(tag, List.replicate n.toNatClampNeg v)]) := by
  unfold znewa at hs; split at hs
  · split at hs
    · next hc => exact ⟨_, _, rfl, hc.1, hc.2.1, hc.2.2, (Option.some.inj hs).symm⟩
    · cases hs
  · cases hs
theorem znewm_inv (hs : znewm pc lv st h = some z) : ∃ n k r, st = .int k :: .int n :: r ∧ ¬ n < 0 ∧ n.toNatClampNeg ≤ 1000 ∧ ¬ k < 0 ∧ k.toNatClampNeg ≤ 1000 ∧ zwfall lv st h = true ∧ z = (pc + 4, lv, .ref h.length :: r, (h ++ [(15, (List.range n.toNatClampNeg).map (fun i => .ref (h.length + 1 + i)))]) ++ List.replicate n.toNatClampNeg (11, List.replicate k.toNatClampNeg (.long 0))) := by
  unfold znewm at hs; split at hs
  · split at hs
    · next hc => exact ⟨_, _, _, rfl, hc.1, hc.2.1, hc.2.2.1, hc.2.2.2.1, hc.2.2.2.2, (Option.some.inj hs).symm⟩
    · cases hs
  · cases hs
theorem zcopy_inv (hs : zcopy pc lv st h = some z) : ∃ n dp a sp a0 r l0 l, st = .int n :: .int dp :: .ref a :: .int sp :: .ref a0 :: r ∧ h[a0]? = some (10, l0) ∧ h[a]? = some (10, l) ∧ ¬ sp < 0 ∧ ¬ dp < 0 ∧ ¬ n < 0 ∧ sp.toNatClampNeg + n.toNatClampNeg ≤ l0.length ∧ dp.toNatClampNeg + n.toNatClampNeg ≤ l.length ∧ zcat r ≤ 8 ∧
    z = (pc + 3, lv, r, h.set a (10, (l.take dp.toNatClampNeg ++ (l0.drop sp.toNatClampNeg).take n.toNatClampNeg) ++ l.drop (dp.toNatClampNeg + n.toNatClampNeg))) := by
  unfold zcopy at hs; split at hs
  · split at hs
    · split at hs
      · split at hs
        · next hc =>
          obtain ⟨h1, h2, h3⟩ := hc
          subst h1 h2
          exact ⟨_, _, _, _, _, _, _, _, rfl, by assumption, by assumption, h3.1, h3.2.1, h3.2.2.1, h3.2.2.2.1, h3.2.2.2.2.1, h3.2.2.2.2.2, (Option.some.inj hs).symm⟩
        · cases hs
      · cases hs
    · cases hs
  · cases hs
theorem zobji_inv (hs : zobji pc lv st h = some z) : ∃ a r, st = .ref a :: r ∧ zcat r ≤ 8 ∧ z = (pc + 3, lv, r, h) := by
  unfold zobji at hs; split at hs
  · split at hs
    · exact ⟨_, _, rfl, by assumption, (Option.some.inj hs).symm⟩
    · cases hs
  · cases hs
theorem zabsI_inv (hs : zabsI pc lv st h = some z) : ∃ x r, st = .int x :: r ∧ zcat r ≤ 8 ∧ z = (pc + 3, lv, .int (if 0 ≤ x then x else 0 - x) :: r, h) := by
  unfold zabsI at hs; split at hs
  · split at hs
    · exact ⟨_, _, rfl, by assumption, (Option.some.inj hs).symm⟩
    · cases hs
  · cases hs
theorem zabsL_inv (hs : zabsL pc lv st h = some z) : ∃ x r, st = .long x :: r ∧ zcat r ≤ 8 ∧ z = (pc + 3, lv, .long (if 0 < x then x else -x) :: r, h) := by
  unfold zabsL at hs; split at hs
  · split at hs
    · exact ⟨_, _, rfl, by assumption, (Option.some.inj hs).symm⟩
    · cases hs
  · cases hs
theorem zdup_inv (hs : zdup pc lv st h = some z) : ∃ v r, st = v :: r ∧ v.category = 1 ∧ z = (pc + 1, lv, v :: v :: r, h) := by
  unfold zdup at hs; split at hs
  · split at hs
    · exact ⟨_, _, rfl, by assumption, (Option.some.inj hs).symm⟩
    · cases hs
  · cases hs
theorem zdup2_inv (hs : zdup2 pc lv st h = some z) : ∃ v w r, st = v :: w :: r ∧ v.category = 1 ∧ w.category = 1 ∧ z = (pc + 1, lv, v :: w :: v :: w :: r, h) := by
  unfold zdup2 at hs; split at hs
  · split at hs
    · next hc => exact ⟨_, _, _, rfl, hc.1, hc.2, (Option.some.inj hs).symm⟩
    · cases hs
  · cases hs
theorem zpop_inv (hs : zpop pc lv st h = some z) : ∃ v r, st = v :: r ∧ v.category = 1 ∧ z = (pc + 1, lv, r, h) := by
  unfold zpop at hs; split at hs
  · split at hs
    · exact ⟨_, _, rfl, by assumption, (Option.some.inj hs).symm⟩
    · cases hs
  · cases hs
theorem zpop2_inv (hs : zpop2 pc lv st h = some z) : ∃ v r, st = v :: r ∧ v.category = 2 ∧ z = (pc + 1, lv, r, h) := by
  unfold zpop2 at hs; split at hs
  · split at hs
    · exact ⟨_, _, rfl, by assumption, (Option.some.inj hs).symm⟩
    · cases hs
  · cases hs
theorem ziinc_inv {n : Int} (hs : ziinc lv i n pc st h = some z) : ∃ x, zget lv i = some (.int x) ∧ z = (pc + 3, zst1 lv i (.int (x + Int32.ofInt n)), st, h) := by
  unfold ziinc at hs; split at hs
  · exact ⟨_, by assumption, (Option.some.inj hs).symm⟩
  · cases hs
end ZI
/-! ===== the world: cells of the interpreter as cells of the heap ===== -/
def ztv (ad fa : Nat → Nat) (v : Value) : Value := match v with
  | .ref k => .ref (ad k)
  | .retAddr j => .ref (fa j)
  | v => v
def zi32 (v : Value) : Int32 := match v with | .int x => x | _ => 0
def zi64 (v : Value) : Int64 := match v with | .long x => x | _ => 0
def zrf (ad : Nat → Nat) (v : Value) : Option Nat := match v with | .ref k => some (ad k) | _ => none
def zcv (ad fa : Nat → Nat) (dA : Nat → ClassId) (c : zC) : va_E :=
  if c.1 < 10 then .inr (c.1, c.2.map (ztv ad fa)) else if c.1 = 11 then .inl (dA 11, c.2.length, .inr (.inl (fun j => zi64 (c.2.getD j (.long 0))))) else if c.1 = 10 ∨ c.1 = 12 then .inl (dA c.1, c.2.length, .inl (fun j => zi32 (c.2.getD j (.int 0)))) else .inl (dA c.1, c.2.length, .inr (.inr (.inr (.inr (fun j => zrf ad (c.2.getD j .null))))))
def zws (ad fa : Nat → Nat) (dA : Nat → ClassId) (h : zH) : va_W := h.mapIdx (fun k c => (ad k, zcv ad fa dA c))
def ztys (dA : Nat → ClassId) : List (ClassId × FieldType) := [(dA 10, .int), (dA 11, .long), (dA 12, .boolean), (dA 13, .object RX3), (dA 14, .object RX4), (dA 15, .array .long)]
def zsz (h : zH) : Nat := (h.map (fun c => c.2.length)).sum
theorem ztv_cat (ad fa : Nat → Nat) (v : Value) : (ztv ad fa v).category = v.category := by cases v <;> rfl
theorem zws_get {ad fa : Nat → Nat} {dA : Nat → ClassId} {h : zH} {k : Nat} {c : zC} (hk : h[k]? = some c) : (zws ad fa dA h)[k]? = some (ad k, zcv ad fa dA c) := by
  unfold zws; rw [List.getElem?_mapIdx, hk]; rfl
theorem zws_set {ad fa : Nat → Nat} {dA : Nat → ClassId} {h : zH} {k : Nat} {c : zC} : (zws ad fa dA h).set k (ad k, zcv ad fa dA c) = zws ad fa dA (h.set k c) := by
  apply List.ext_getElem?
  intro j
  unfold zws
  rw [List.getElem?_mapIdx, List.getElem?_set, List.getElem?_set, List.length_mapIdx, List.getElem?_mapIdx]
  by_cases hkj : k = j
  · subst hkj
    by_cases hl : k < h.length <;> simp [hl]
  · simp [hkj]
theorem zws_app {ad fa : Nat → Nat} {dA : Nat → ClassId} {h : zH} {c : zC} : zws ad fa dA (h ++ [c]) = zws ad fa dA h ++ [(ad h.length, zcv ad fa dA c)] := by
  unfold zws; rw [List.mapIdx_concat]
theorem zcv_obj {ad fa : Nat → Nat} {dA : Nat → ClassId} {t : Nat} {l : List Value} (ht : t < 7) : zcv ad fa dA (t, l) = .inr (t, l.map (ztv ad fa)) := by
  unfold zcv; rw [if_pos (show (t, l).1 < 10 by show t < 10; omega)]
theorem zcv_i {ad fa : Nat → Nat} {dA : Nat → ClassId} {l : List Value} : zcv ad fa dA (10, l) = .inl (dA 10, l.length, .inl (fun j => zi32 (l.getD j (.int 0)))) := rfl
theorem zcv_z {ad fa : Nat → Nat} {dA : Nat → ClassId} {l : List Value} : zcv ad fa dA (12, l) = .inl (dA 12, l.length, .inl (fun j => zi32 (l.getD j (.int 0)))) := rfl
theorem zcv_l {ad fa : Nat → Nat} {dA : Nat → ClassId} {l : List Value} : zcv ad fa dA (11, l) = .inl (dA 11, l.length, .inr (.inl (fun j => zi64 (l.getD j (.long 0))))) := rfl
theorem zcv_q {ad fa : Nat → Nat} {dA : Nat → ClassId} {t : Nat} {l : List Value} (ht : t = 13 ∨ t = 14 ∨ t = 15) : zcv ad fa dA (t, l) = .inl (dA t, l.length, .inr (.inr (.inr (.inr (fun j => zrf ad (l.getD j .null)))))) := by
  rcases ht with rfl | rfl | rfl <;> rfl
theorem zget_mem {lv : zL} {i : Nat} {v : Value} (h : zget lv i = some v) : (i, v) ∈ lv := by
  induction lv with
  | nil => cases h
  | cons q r ih =>
    unfold zget at h
    split at h
    · next hq =>
      have : q = (i, v) := by cases q; simp at hq h; simp [hq, h]
      rw [this]; exact List.mem_cons_self
    · exact List.mem_cons_of_mem _ (ih h)
def ztl (ad fa : Nat → Nat) (lv : zL) : zL := lv.map (fun q => (q.1, ztv ad fa q.2))
theorem ztl_get {ad fa : Nat → Nat} {lv : zL} {i : Nat} {v : Value} (h : zget lv i = some v) : (i, ztv ad fa v) ∈ ztl ad fa lv := List.mem_map.mpr ⟨(i, v), zget_mem h, rfl⟩
theorem ztl_st1 {ad fa : Nat → Nat} {lv : zL} {i : Nat} {v : Value} : (i, ztv ad fa v) :: (ztl ad fa lv).filter (fun q => !(q.1 == i) && !(q.1 + 1 == i && q.2.category == 2)) = ztl ad fa (zst1 lv i v) := by
  unfold ztl zst1
  rw [List.map_cons, List.filter_map]
  congr 2
  apply List.filter_congr
  intro q _
  simp [Function.comp, ztv_cat]
theorem ztl_st2 {ad fa : Nat → Nat} {lv : zL} {i : Nat} {v : Value} : (i, ztv ad fa v) :: (ztl ad fa lv).filter (fun q => !(q.1 == i) && (!(q.1 == i + 1) && !(q.1 + 1 == i && q.2.category == 2))) = ztl ad fa (zst2 lv i v) := by
  unfold ztl zst2
  rw [List.map_cons, List.filter_map]
  congr 2
  apply List.filter_congr
  intro q _
  simp [Function.comp, ztv_cat]
theorem zupd_i {l : List Value} {i : Nat} {x : Int32} (hi : i < l.length) : (fun j => zi32 ((l.set i (.int x)).getD j (.int 0))) = upd (fun j => zi32 (l.getD j (.int 0))) i x := by
  funext j
  unfold upd
  by_cases hj : j = i
  · subst hj
    simp [List.getD, hi, zi32]
  · simp [List.getD, List.getElem?_set, Ne.symm hj, hj]
theorem zupd_l {l : List Value} {i : Nat} {x : Int64} (hi : i < l.length) : (fun j => zi64 ((l.set i (.long x)).getD j (.long 0))) = vp_updL (fun j => zi64 (l.getD j (.long 0))) i x := by
  funext j
  unfold vp_updL
  by_cases hj : j = i
  · subst hj
    simp [List.getD, hi, zi64]
  · simp [List.getD, List.getElem?_set, Ne.symm hj, hj]
theorem zupd_q {ad : Nat → Nat} {l : List Value} {i v : Nat} (hi : i < l.length) : (fun j => zrf ad ((l.set i (.ref v)).getD j .null)) = va_up (fun j => zrf ad (l.getD j .null)) i (some (ad v)) := by
  funext j
  unfold va_up
  by_cases hj : j = i
  · subst hj
    simp [List.getD, hi, zrf]
  · simp [List.getD, List.getElem?_set, Ne.symm hj, hj]
theorem zmap_set {ad fa : Nat → Nat} {l : List Value} {k : Nat} {v : Value} : (l.map (ztv ad fa)).set k (ztv ad fa v) = (l.set k v).map (ztv ad fa) := by
  rw [List.map_set]
