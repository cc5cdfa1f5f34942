/-! ===== the interpreter over numbers is the interpreter over cells ===== -/
/-- instructions that don't look at cells -/
def zdry (i : Instr) : Bool := match i with
  | .iaload => false
  | .laload => false
  | .baload => false
  | .aaload => false
  | .iastore => false
  | .bastore => false
  | .lastore => false
  | .aastore => false
  | .arraylength => false
  | .getfield _ => false
  | .putfield _ => false
  | .new _ => false
  | .newarray _ => false
  | .anewarray _ => false
  | .multianewarray _ _ => false
  | .invokestatic _ => false
  | _ => true
theorem zsw_heap {o : Int32 → Option Int} {pc : Nat} {lv : zL} {st : List Value} {h h' : zH} {z : zS} (hs : zsw o pc lv st h = some z) : zsw o pc lv st h' = some (z.1, z.2.1, z.2.2.1, h') := by
  unfold zsw at hs
  split at hs
  · next x r =>
    split at hs
    · next off ho =>
      split at hs
      · next t ht =>
        obtain rfl := (Option.some.inj hs).symm
        unfold zsw
        dsimp only
        rw [ho]
        dsimp only
        rw [ht]
      · cases hs
    · cases hs
  · cases hs
theorem zcd_10 {c : Nat × Nat × List Nat} (h : c.1 = 10) (i : Nat) : zcd c i = 0 := by
  obtain ⟨a, b⟩ := c
  subst h
  rfl
theorem zcd_11 {c : Nat × Nat × List Nat} (h : c.1 = 11) (i : Nat) : zcd c i = 1 := by
  obtain ⟨a, b⟩ := c
  subst h
  rfl
theorem zcd_12 {c : Nat × Nat × List Nat} (h : c.1 = 12) (i : Nat) : zcd c i = 0 := by
  obtain ⟨a, b⟩ := c
  subst h
  rfl
theorem zcd_q {c : Nat × Nat × List Nat} (h : c.1 = 13 ∨ c.1 = 14 ∨ c.1 = 15) (i : Nat) : zcd c i = c.2.2.getD i 0 := by
  obtain ⟨a, b⟩ := c
  rcases h with h | h | h <;> subst h <;> rfl
set_option maxHeartbeats 4000000 in
theorem zstep_dry {F : zF} {e : zE} {pc : Nat} {lv : zL} {st : List Value} {h h' : zH} {z : zS} (hd : zdry e.1 = true) (hs : zstep F e pc lv st h = some z) : zstep F e pc lv st h' = some (z.1, z.2.1, z.2.2.1, h') := by
  unfold zstep at hs ⊢
  cases hi : e.1 <;> rw [hi] at hs hd <;> dsimp only at hs ⊢ <;> first
    | (cases hd; done)
    | (cases hs; done)
    | (obtain rfl := (Option.some.inj hs).symm; rfl)
    | (obtain ⟨_, h1, rfl⟩ := zldI_inv hs; unfold zldI; rw [h1])
    | (obtain ⟨_, h1, rfl⟩ := zldL_inv hs; unfold zldL; rw [h1])
    | (rcases zldA_inv hs with ⟨_, h1, rfl⟩ | ⟨_, h1, rfl⟩ <;> (unfold zldA; rw [h1]))
    | (obtain ⟨_, _, rfl, rfl⟩ := zsI_inv hs; rfl)
    | (obtain ⟨_, _, rfl, rfl⟩ := zsL_inv hs; rfl)
    | (obtain ⟨_, _, rfl, rfl⟩ := zsA_inv hs; rfl)
    | (obtain ⟨_, h1, rfl⟩ := ziinc_inv hs; unfold ziinc; rw [h1])
    | (obtain ⟨_, _, _, rfl, rfl⟩ := zII_inv hs; rfl)
    | (obtain ⟨_, _, _, rfl, h1, rfl⟩ := zIIn_inv hs; unfold zIIn; dsimp only; rw [if_neg h1])
    | (obtain ⟨_, _, _, rfl, rfl⟩ := zLL_inv hs; rfl)
    | (obtain ⟨_, _, _, rfl, h1, rfl⟩ := zLLn_inv hs; unfold zLLn; dsimp only; rw [if_neg h1])
    | (obtain ⟨_, _, rfl, rfl⟩ := zI_inv hs; rfl)
    | (obtain ⟨_, _, rfl, rfl⟩ := zLo_inv hs; rfl)
    | (obtain ⟨_, _, _, rfl, rfl⟩ := zlcmp_inv hs; rfl)
    | (obtain ⟨_, _, _, rfl, rfl⟩ := zif2_inv hs; rfl)
    | (obtain ⟨_, _, rfl, rfl⟩ := zif1_inv hs; rfl)
    | exact zsw_heap hs
    | (obtain ⟨_, _, rfl, h1, rfl⟩ := zdup_inv hs; unfold zdup; dsimp only; rw [if_pos h1])
    | (obtain ⟨_, _, _, rfl, h1, h2, rfl⟩ := zdup2_inv hs; unfold zdup2; dsimp only; rw [if_pos ⟨h1, h2⟩])
    | (obtain ⟨_, _, rfl, h1, rfl⟩ := zpop_inv hs; unfold zpop; dsimp only; rw [if_pos h1])
    | (obtain ⟨_, _, rfl, h1, rfl⟩ := zpop2_inv hs; unfold zpop2; dsimp only; rw [if_pos h1])
    | (obtain ⟨_, _, rfl, h1, rfl⟩ := zobji_inv hs; unfold zobji; dsimp only; rw [if_pos h1])
theorem bif_some {α : Type} {b : Bool} {x z : α} (h : (bif b then some x else none) = some z) : b = true ∧ x = z := by
  cases b
  · cases h
  · exact ⟨rfl, Option.some.inj h⟩
section YOK
variable {F : zF} {pc : Nat} {lv : zL} {st : List Value} {M : zMm} {z : zT}
theorem yald_ok {tag kind : Nat} (hk : (tag = 10 ∧ kind = 0) ∨ (tag = 11 ∧ kind = 1) ∨ (tag = 12 ∧ kind = 0)) (hs : yald tag F pc lv st M = some z) : zald tag kind F pc lv st (zHo M) = some (z.1, z.2.1, z.2.2.1, zHo z.2.2.2) := by
  unfold yald at hs
  split at hs
  · next i a r =>
    split at hs
    · next c hc =>
      obtain ⟨hb, rfl⟩ := bif_some hs
      rw [Bool.and_eq_true] at hb
      have h1 : c.1 = tag := Nat.eq_of_beq_eq_true hb.1
      unfold zald
      dsimp only
      rw [zHo_get hc]
      show (if c.1 = tag ∧ zin i (zcell M a c).2.length = true then (match (zcell M a c).2[i.toNatClampNeg]? with | some v => if zfit (zty kind) v = true then some (pc + 1, lv, v :: r, zHo M) else none | none => none) else none) = _
      rw [zcell_len, if_pos ⟨h1, hb.2⟩, zcell_get (zin_lt hb.2)]
      dsimp only
      rcases hk with ⟨rfl, rfl⟩ | ⟨rfl, rfl⟩ | ⟨rfl, rfl⟩
      · rw [zcd_10 h1]; rfl
      · rw [zcd_11 h1]; rfl
      · rw [zcd_12 h1]; rfl
    · cases hs
  · next i a r =>
    obtain ⟨hb, rfl⟩ := bif_some hs
    rw [Bool.and_eq_true, Bool.and_eq_true] at hb
    unfold zald
    dsimp only
    rw [if_pos ⟨Nat.eq_of_beq_eq_true hb.1, Nat.le_of_ble_eq_true hb.2.1, hb.2.2⟩]
  · cases hs
theorem yaldq_ok (hs : yaldq pc lv st M = some z) : zaldq pc lv st (zHo M) = some (z.1, z.2.1, z.2.2.1, zHo z.2.2.2) := by
  unfold yaldq at hs
  split at hs
  · next i a r =>
    split at hs
    · next c hc =>
      cases hb : (Nat.beq c.1 13 || (Nat.beq c.1 14 || Nat.beq c.1 15)) && zin i c.2.1
      · rw [hb] at hs; cases hs
      · rw [hb] at hs
        simp only [cond_true] at hs
        rw [Bool.and_eq_true, Bool.or_eq_true, Bool.or_eq_true] at hb
        have h1 : c.1 = 13 ∨ c.1 = 14 ∨ c.1 = 15 := by
          rcases hb.1 with q | q | q
          · exact Or.inl (Nat.eq_of_beq_eq_true q)
          · exact Or.inr (Or.inl (Nat.eq_of_beq_eq_true q))
          · exact Or.inr (Or.inr (Nat.eq_of_beq_eq_true q))
        split at hs
        · next v hv =>
          obtain rfl := (Option.some.inj hs).symm
          unfold zaldq
          dsimp only
          rw [zHo_get hc]
          show (if (c.1 = 13 ∨ c.1 = 14 ∨ c.1 = 15) ∧ zin i (zcell M a c).2.length = true then (match (zcell M a c).2[i.toNatClampNeg]? with | some (.ref v) => some (pc + 1, lv, .ref v :: r, zHo M) | _ => none) else none) = _
          rw [zcell_len, if_pos ⟨h1, hb.2⟩, zcell_get (zin_lt hb.2)]
          have hcd : zcd c i.toNatClampNeg = v + 2 := (zcd_q h1 _).trans hv
          rw [hcd]
          rfl
        · cases hs
    · cases hs
  · cases hs
theorem yastI_ok (hs : yastI pc lv st M = some z) : zastI pc lv st (zHo M) = some (z.1, z.2.1, z.2.2.1, zHo z.2.2.2) := by
  unfold yastI at hs
  split at hs
  · next x i a r =>
    split at hs
    · next c hc =>
      obtain ⟨hb, rfl⟩ := bif_some hs
      rw [Bool.and_eq_true] at hb
      have h1 : c.1 = 10 := Nat.eq_of_beq_eq_true hb.1
      unfold zastI
      dsimp only
      rw [zHo_get hc]
      show (if c.1 = 10 ∧ zin i (zcell M a c).2.length = true then some (pc + 1, lv, r, (zHo M).set a (c.1, (zcell M a c).2.set i.toNatClampNeg (.int x))) else none) = _
      rw [zcell_len, if_pos ⟨h1, hb.2⟩, zset_up hc (zin_lt hb.2) (zcd_10 h1 _)]
    · cases hs
  · cases hs
theorem yastZ_ok (hs : yastZ pc lv st M = some z) : zastZ pc lv st (zHo M) = some (z.1, z.2.1, z.2.2.1, zHo z.2.2.2) := by
  unfold yastZ at hs
  split at hs
  · next x i a r =>
    split at hs
    · next c hc =>
      obtain ⟨hb, rfl⟩ := bif_some hs
      rw [Bool.and_eq_true] at hb
      have h1 : c.1 = 12 := Nat.eq_of_beq_eq_true hb.1
      unfold zastZ
      dsimp only
      rw [zHo_get hc]
      show (if c.1 = 12 ∧ zin i (zcell M a c).2.length = true then some (pc + 1, lv, r, (zHo M).set a (c.1, (zcell M a c).2.set i.toNatClampNeg (.int (vp_nar .boolean x)))) else none) = _
      rw [zcell_len, if_pos ⟨h1, hb.2⟩, zset_up hc (zin_lt hb.2) (zcd_12 h1 _)]
    · cases hs
  · cases hs
theorem yastL_ok (hs : yastL pc lv st M = some z) : zastL pc lv st (zHo M) = some (z.1, z.2.1, z.2.2.1, zHo z.2.2.2) := by
  unfold yastL at hs
  split at hs
  · next x i a r =>
    split at hs
    · next c hc =>
      obtain ⟨hb, rfl⟩ := bif_some hs
      rw [Bool.and_eq_true] at hb
      have h1 : c.1 = 11 := Nat.eq_of_beq_eq_true hb.1
      unfold zastL
      dsimp only
      rw [zHo_get hc]
      show (if c.1 = 11 ∧ zin i (zcell M a c).2.length = true then some (pc + 1, lv, r, (zHo M).set a (c.1, (zcell M a c).2.set i.toNatClampNeg (.long x))) else none) = _
      rw [zcell_len, if_pos ⟨h1, hb.2⟩, zset_upL hc (zin_lt hb.2) (zcd_11 h1 _)]
    · cases hs
  · cases hs
theorem yalen_ok (hs : yalen F pc lv st M = some z) : zalen F pc lv st (zHo M) = some (z.1, z.2.1, z.2.2.1, zHo z.2.2.2) := by
  unfold yalen at hs
  split at hs
  · next a r =>
    split at hs
    · next c hc =>
      obtain ⟨hb, rfl⟩ := bif_some hs
      rw [Bool.and_eq_true] at hb
      unfold zalen
      dsimp only
      rw [zHo_get hc]
      show (if 10 ≤ c.1 ∧ c.1 ≤ 15 then some (pc + 1, lv, .int (Int32.ofNat (zcell M a c).2.length) :: r, zHo M) else none) = _
      rw [zcell_len, if_pos ⟨Nat.le_of_ble_eq_true hb.1, Nat.le_of_ble_eq_true hb.2⟩]
    · cases hs
  · next a r =>
    obtain ⟨hb, rfl⟩ := bif_some hs
    rw [Bool.and_eq_true] at hb
    unfold zalen
    dsimp only
    rw [if_pos ⟨Nat.le_of_ble_eq_true hb.1, Nat.le_of_ble_eq_true hb.2⟩]
  · cases hs
theorem zcd_obj {c : Nat × Nat × List Nat} (h : c.1 < 7) (k : Nat) : zcd c k = c.2.2.getD k 0 := by
  unfold zcd
  split
  · omega
  · omega
  · omega
  · rfl
theorem ygetf_ok {ci k : Nat} (hs : ygetf ci k pc lv st M = some z) : zgetf ci k pc lv st (zHo M) = some (z.1, z.2.1, z.2.2.1, zHo z.2.2.2) := by
  unfold ygetf at hs
  split at hs
  · next a r =>
    split at hs
    · next c hc =>
      obtain ⟨hb, rfl⟩ := bif_some hs
      rw [Bool.and_eq_true, Bool.and_eq_true] at hb
      have h1 : c.1 = ci := Nat.eq_of_beq_eq_true hb.1
      have h2 : ci < 7 := Nat.le_of_ble_eq_true hb.2.1
      unfold zgetf
      dsimp only
      rw [zHo_get hc]
      show (if c.1 = ci ∧ c.1 < 7 then (match (zcell M a c).2[k]? with | some v => some (pc + 3, lv, v :: r, zHo M) | none => none) else none) = _
      rw [if_pos ⟨h1, by omega⟩, zcell_get (Nat.le_of_ble_eq_true hb.2.2), zcd_obj (by omega)]
    · cases hs
  · cases hs
theorem yputf_ok {ci k kind : Nat} (hs : yputf ci k kind pc lv st M = some z) : zputf ci k kind pc lv st (zHo M) = some (z.1, z.2.1, z.2.2.1, zHo z.2.2.2) := by
  unfold yputf at hs
  split at hs
  · next x a r =>
    split at hs
    · next c hc =>
      obtain ⟨hb, rfl⟩ := bif_some hs
      rw [Bool.and_eq_true, Bool.and_eq_true, Bool.and_eq_true, Bool.and_eq_true] at hb
      have h1 : c.1 = ci := Nat.eq_of_beq_eq_true hb.1
      have h2 : ci < 7 := Nat.le_of_ble_eq_true hb.2.1
      have h3 : k < c.2.1 := Nat.le_of_ble_eq_true hb.2.2.1
      have h4 : c.2.2.getD k 9 = 0 := Nat.eq_of_beq_eq_true hb.2.2.2.1
      have hkk : kind = 0 := Nat.eq_of_beq_eq_true hb.2.2.2.2
      subst hkk
      have h5 : c.2.2.getD k 0 = 0 := by
        rw [List.getD_eq_getElem?_getD] at h4 ⊢
        cases hq : c.2.2[k]? with
        | none => rfl
        | some v => rw [hq] at h4; exact h4
      unfold zputf
      dsimp only
      rw [zHo_get hc]
      show (if c.1 = ci ∧ c.1 < 7 ∧ k < (zcell M a c).2.length ∧ zfit (zty 0) (.int x) = true then some (pc + 3, lv, r, (zHo M).set a (c.1, (zcell M a c).2.set k (.int x))) else none) = _
      rw [zcell_len, if_pos ⟨h1, by omega, h3, rfl⟩, zset_up hc h3 (by rw [zcd_obj (by omega)]; exact h5)]
    · cases hs
  · next x a r =>
    split at hs
    · next c hc =>
      obtain ⟨hb, rfl⟩ := bif_some hs
      rw [Bool.and_eq_true, Bool.and_eq_true, Bool.and_eq_true, Bool.and_eq_true] at hb
      have h1 : c.1 = ci := Nat.eq_of_beq_eq_true hb.1
      have h2 : ci < 7 := Nat.le_of_ble_eq_true hb.2.1
      have h3 : k < c.2.1 := Nat.le_of_ble_eq_true hb.2.2.1
      have h4 : c.2.2.getD k 9 = 1 := Nat.eq_of_beq_eq_true hb.2.2.2.1
      have hkk : kind = 1 := Nat.eq_of_beq_eq_true hb.2.2.2.2
      subst hkk
      have h5 : c.2.2.getD k 0 = 1 := by
        rw [List.getD_eq_getElem?_getD] at h4 ⊢
        cases hq : c.2.2[k]? with
        | none => rw [hq] at h4; simp at h4
        | some v => rw [hq] at h4; exact h4
      unfold zputf
      dsimp only
      rw [zHo_get hc]
      show (if c.1 = ci ∧ c.1 < 7 ∧ k < (zcell M a c).2.length ∧ zfit (zty 1) (.long x) = true then some (pc + 3, lv, r, (zHo M).set a (c.1, (zcell M a c).2.set k (.long x))) else none) = _
      rw [zcell_len, if_pos ⟨h1, by omega, h3, rfl⟩, zset_upL hc h3 (by rw [zcd_obj (by omega)]; exact h5)]
    · cases hs
  · cases hs
theorem ycopy_ok (hs : ycopy pc lv st M = some z) : zcopy pc lv st (zHo M) = some (z.1, z.2.1, z.2.2.1, zHo z.2.2.2) := by
  unfold ycopy at hs
  split at hs
  · next n dp a sp a0 r =>
    split at hs
    · next c0 c hc0 hc =>
      split at hs
      · next hb =>
        obtain rfl := (Option.some.inj hs).symm
        obtain ⟨b1, b2, b3, b4, b5, b6, b7, b8⟩ := hb
        unfold zcopy
        dsimp only
        rw [zHo_get hc0, zHo_get hc]
        show (if c0.1 = 10 ∧ c.1 = 10 ∧ ¬ sp < 0 ∧ ¬ dp < 0 ∧ ¬ n < 0 ∧ sp.toNatClampNeg + n.toNatClampNeg ≤ (zcell M a0 c0).2.length ∧ dp.toNatClampNeg + n.toNatClampNeg ≤ (zcell M a c).2.length ∧ zcat r ≤ 8 then some (pc + 3, lv, r, (zHo M).set a (10, ((zcell M a c).2.take dp.toNatClampNeg ++ ((zcell M a0 c0).2.drop sp.toNatClampNeg).take n.toNatClampNeg) ++ (zcell M a c).2.drop (dp.toNatClampNeg + n.toNatClampNeg))) else none) = _
        rw [zcell_len, zcell_len, if_pos ⟨b1, b2, b3, b4, b5, b6, b7, b8⟩]
        have hset := zHo_set (M := M) (M' := zcpm M a0 sp.toNatClampNeg a dp.toNatClampNeg n.toNatClampNeg) (l := ((zcell M a c).2.take dp.toNatClampNeg ++ ((zcell M a0 c0).2.drop sp.toNatClampNeg).take n.toNatClampNeg) ++ (zcell M a c).2.drop (dp.toNatClampNeg + n.toNatClampNeg)) hc (by simp [zcell_len]; omega) (fun j hj => ?_) (fun a' i' k ha => ?_)
        · rw [b2] at hset
          rw [hset]
        · rw [zcd_10 b2]
          show _ = some (Value.int (if a = a ∧ dp.toNatClampNeg ≤ j ∧ j < dp.toNatClampNeg + n.toNatClampNeg then M.1 a0 (sp.toNatClampNeg + (j - dp.toNatClampNeg)) else M.1 a j))
          by_cases q1 : j < dp.toNatClampNeg
          · rw [if_neg (by omega), List.getElem?_append_left (by simp [zcell_len]; omega), List.getElem?_append_left (by simp [zcell_len]; omega), List.getElem?_take, if_pos q1, zcell_get hj, zcd_10 b2]
            rfl
          · by_cases q2 : j < dp.toNatClampNeg + n.toNatClampNeg
            · rw [if_pos ⟨rfl, by omega, q2⟩, List.getElem?_append_left (by simp [zcell_len]; omega), List.getElem?_append_right (by simp [zcell_len]; omega), List.getElem?_take, List.length_take, zcell_len, Nat.min_eq_left (by omega), if_pos (by omega), List.getElem?_drop, zcell_get (by omega), zcd_10 b1]
              rfl
            · rw [if_neg (by omega), List.getElem?_append_right (by simp [zcell_len]; omega), List.getElem?_drop]
              have e : dp.toNatClampNeg + n.toNatClampNeg + (j - ((zcell M a c).2.take dp.toNatClampNeg ++ ((zcell M a0 c0).2.drop sp.toNatClampNeg).take n.toNatClampNeg).length) = j := by
                simp [zcell_len]; omega
              rw [e, zcell_get hj, zcd_10 b2]
              rfl
        · unfold zvc zcpm
          split
          · simp [ha]
          · rfl
          · rfl
      · cases hs
    · cases hs
  · cases hs
end YOK
theorem ylift_inv {M : zMm} {x : Option zS} {z : zT} (h : ylift M x = some z) : ∃ y, x = some y ∧ z = (y.1, y.2.1, y.2.2.1, M) := by
  unfold ylift at h
  split at h
  · exact ⟨_, rfl, (Option.some.inj h).symm⟩
  · cases h
theorem ystep_ok {F : zF} {e : zE} {pc : Nat} {lv : zL} {st : List Value} {M : zMm} {z : zT} (hs : ystep F e pc lv st M = some z) : zstep F e pc lv st (zHo M) = some (z.1, z.2.1, z.2.2.1, zHo z.2.2.2) := by
  unfold ystep at hs
  split at hs
  · next hi => unfold zstep; rw [hi]; exact yald_ok (Or.inl ⟨rfl, rfl⟩) hs
  · next hi => unfold zstep; rw [hi]; exact yald_ok (Or.inr (Or.inl ⟨rfl, rfl⟩)) hs
  · next hi => unfold zstep; rw [hi]; exact yald_ok (Or.inr (Or.inr ⟨rfl, rfl⟩)) hs
  · next hi => unfold zstep; rw [hi]; exact yaldq_ok hs
  · next hi => unfold zstep; rw [hi]; exact yastI_ok hs
  · next hi => unfold zstep; rw [hi]; exact yastZ_ok hs
  · next hi => unfold zstep; rw [hi]; exact yastL_ok hs
  · cases hs
  · next hi => unfold zstep; rw [hi]; exact yalen_ok hs
  · next hi => unfold zstep; rw [hi]; exact ygetf_ok hs
  · next hi => unfold zstep; rw [hi]; exact yputf_ok hs
  · cases hs
  · cases hs
  · cases hs
  · cases hs
  · next hi =>
    unfold zstep; rw [hi]
    dsimp only
    split at hs
    · next h1 => rw [h1]; exact ycopy_ok hs
    · next h1 =>
      rw [h1]
      obtain ⟨y, h2, rfl⟩ := ylift_inv hs
      obtain ⟨x, r, rfl, h3, rfl⟩ := zabsI_inv h2
      unfold zabsI
      dsimp only
      rw [if_pos h3]
      rfl
    · next h1 h2 =>
      obtain ⟨y, h3, rfl⟩ := ylift_inv hs
      obtain ⟨x, r, rfl, h4, rfl⟩ := zabsL_inv h3
      split
      · next h5 => exact absurd h5 h1
      · next h5 => exact absurd h5 h2
      · unfold zabsL
        dsimp only
        rw [if_pos h4]
  · next n1 n2 n3 n4 n5 n6 n7 n8 n9 n10 n11 n12 n13 n14 n15 n16 =>
    obtain ⟨y, h2, rfl⟩ := ylift_inv hs
    refine zstep_dry ?_ h2
    cases hi : e.1 <;> first | rfl | (exfalso; first | exact n1 hi | exact n2 hi | exact n3 hi | exact n4 hi | exact n5 hi | exact n6 hi | exact n7 hi | exact n8 hi | exact n9 hi | exact n10 _ hi | exact n11 _ hi | exact n12 _ hi | exact n13 _ hi | exact n14 _ hi | exact n15 _ _ hi | exact n16 _ hi)
theorem yrecv_ok {e : zE} {vs : List Value} {M : zMm} (h : yrecv e vs = true) : zrecv e vs (zHo M) = true := by
  unfold yrecv at h
  unfold zrecv
  split at h
  · next hi =>
    split at h
    · next a r =>
      split at h
      · next c hc =>
        rw [Bool.and_eq_true] at h
        simp only [hi]
        rw [zHo_get hc]
        show (decide (c.1 = e.2.2.2.1 / 4096) && decide (c.1 < 7)) = true
        rw [decide_eq_true (Nat.eq_of_beq_eq_true h.1), decide_eq_true (show c.1 < 7 from Nat.le_of_ble_eq_true h.2)]
        rfl
      · cases h
    · cases h
  · next hi =>
    split at h
    · simp only [hi]
    · cases h
  · next h1 h2 =>
    split
    · next hi => exact absurd hi (h1 _)
    · next hi => exact absurd hi (h2 _)
    · rfl
theorem ycallB_ok {e : zE} {lv : zL} {st : List Value} {M : zMm} (h : ycallB e lv st = true) : zcallB e lv st (zHo M) = true := by
  unfold ycallB at h
  simp only [Bool.and_eq_true] at h
  obtain ⟨h1, h2, h3, h4, h5, h6⟩ := h
  unfold zcallB
  rw [zHo_len, h4, h5, yrecv_ok h6, decide_eq_true (Nat.le_of_ble_eq_true h1), decide_eq_true (Nat.le_of_ble_eq_true h2), decide_eq_true (Nat.le_of_ble_eq_true h3)]
  rfl
/-- the run over numbers is the run over cells -/
theorem yex_ok {P : Nat → Nat → Option zE} {F : zF} : ∀ (n k pc : Nat) (lv : zL) (st : List Value) (M : zMm) (r : Option Value) (M' : zMm), yex P F n k pc lv st M = some (r, M') → zex P F n k pc lv st (zHo M) = some (r, zHo M')
  | 0, _, _, _, _, _, _, _, hx => by cases hx
  | n + 1, k, pc, lv, st, M, r, M', hx => by
    unfold yex at hx
    unfold zex
    split at hx
    · cases hx
    · next e he =>
      rw [he]
      dsimp only
      split at hx
      · next hc =>
        rw [hc]
        cases hb : ycallB e lv st
        · rw [hb] at hx; cases hx
        · rw [hb] at hx
          rw [ycallB_ok hb]
          simp only [cond_true] at hx ⊢
          split at hx
          · next r1 M1 h1 =>
            rw [yex_ok n _ _ _ _ _ _ _ h1]
            exact yex_ok n _ _ _ _ _ _ _ hx
          · cases hx
      · next hc =>
        rw [hc]
        split at hx
        · next r1 h1 =>
          rw [h1]
          cases hx
          rfl
        · cases hx
      · next h0 h1 =>
        split at hx
        · next z hz =>
          split
          · next hc => exact absurd hc h0
          · next hc => exact absurd hc h1
          · have K := yex_ok n k z.1 z.2.1 z.2.2.1 z.2.2.2 r M' hx
            have e1 := ystep_ok hz
            generalize zHo M' = H2 at K ⊢
            generalize zHo z.2.2.2 = H1 at K e1
            rw [e1]
            exact K
        · cases hx
