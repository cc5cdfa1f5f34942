/-! ===== both classes ask the same of a pair ===== -/
def lpI (a b : Nat) : List zPt → Int
  | [] => 0
  | p :: r => p.1.toInt ^ a * p.2.toInt ^ b + lpI a b r
theorem lpI_app (a b : Nat) : ∀ L L' : List zPt, lpI a b (L ++ L') = lpI a b L + lpI a b L'
  | [], L' => by simp [lpI]
  | e :: r, L' => by
    show _ + lpI a b (r ++ L') = (_ + lpI a b r) + lpI a b L'
    rw [lpI_app a b r L']
    omega
theorem lsI_map (a b : Nat) (w : Int32) : ∀ l : List zPt, lsI a b (l.map (fun p => (p, w))) = w.toInt * lpI a b l
  | [] => by simp [lsI, lpI]
  | p :: r => by
    show w.toInt * p.1.toInt ^ a * p.2.toInt ^ b + lsI a b (r.map (fun p => (p, w))) = w.toInt * (p.1.toInt ^ a * p.2.toInt ^ b + lpI a b r)
    rw [lsI_map a b w r, Int.mul_add, Int.mul_assoc]
theorem zpp_ok {p : zPt} (hp : zgr p.1 ∧ zgr p.2) (t : Nat) (ht : t < 21) : (zpp p t).toInt = p.1.toInt ^ zpxN t * p.2.toInt ^ zpyN t ∧ (p.1.toInt ^ zpxN t * p.2.toInt ^ zpyN t).natAbs ≤ 24 ^ 6 := by
  have h6 := zpxN_5 t ht
  have h1 : 24 ^ zpxN t ≤ 24 ^ 6 := Nat.pow_le_pow_right (by omega) (by omega)
  have h2 : 24 ^ zpyN t ≤ 24 ^ 6 := Nat.pow_le_pow_right (by omega) (by omega)
  have h3 : 24 ^ zpxN t * 24 ^ zpyN t ≤ 24 ^ 6 := by rw [← Nat.pow_add]; exact Nat.pow_le_pow_right (by omega) (by omega)
  have g1 := hp.1
  have g2 := hp.2
  unfold zgr at g1 g2
  obtain ⟨p1, p2⟩ := zpw_ok (v := p.1.toInt64) (B := 24) (by omega) (by rw [Int32.toInt_toInt64]; omega) (zpxN t) (by omega)
  obtain ⟨q1, q2⟩ := zpw_ok (v := p.2.toInt64) (B := 24) (by omega) (by rw [Int32.toInt_toInt64]; omega) (zpyN t) (by omega)
  rw [Int32.toInt_toInt64] at p1 p2 q1 q2
  have m := zmul_ok (x := zpw p.1.toInt64 (zpxN t)) (y := zpw p.2.toInt64 (zpyN t)) (A := 24 ^ zpxN t) (B := 24 ^ zpyN t) (by rw [p1]; exact p2) (by rw [q1]; exact q2) (by omega)
  rw [p1, q1] at m
  exact ⟨m.1, Nat.le_trans m.2 h3⟩
theorem zps_ok (t : Nat) (ht : t < 21) (l : List zPt) (hl : l.length ≤ 8) (hg : ∀ p, p ∈ l → zgr p.1 ∧ zgr p.2) : ∀ n, n ≤ l.length → (zps (l.take n) t).toInt = lpI (zpxN t) (zpyN t) (l.take n) ∧ (lpI (zpxN t) (zpyN t) (l.take n)).natAbs ≤ n * 24 ^ 6
  | 0, _ => ⟨rfl, by simp [lpI]⟩
  | n + 1, hn => by
    obtain ⟨i1, i2⟩ := zps_ok t ht l hl hg n (by omega)
    have hgt := List.getElem?_eq_getElem (show n < l.length by omega)
    have hm := hg _ (List.mem_of_getElem? hgt)
    rw [ztake_s hgt, zps_app, lpI_app]
    obtain ⟨p1, p2⟩ := zpp_ok hm t ht
    have hb : n * 24 ^ 6 ≤ 8 * 24 ^ 6 := Nat.mul_le_mul_right _ (by omega)
    have s := zadd_ok (x := zps (l.take n) t) (y := zpp l[n] t) (A := n * 24 ^ 6) (B := 24 ^ 6) (by rw [i1]; exact i2) (by rw [p1]; exact p2) (by omega)
    rw [i1, p1] at s
    have e : lpI (zpxN t) (zpyN t) [l[n]] = l[n].1.toInt ^ zpxN t * l[n].2.toInt ^ zpyN t := by simp [lpI]
    rw [e]
    refine ⟨s.1, Nat.le_trans s.2 ?_⟩
    rw [Nat.succ_mul]
    exact Nat.le_refl _
theorem zps_all (t : Nat) (ht : t < 21) (l : List zPt) (hl : l.length ≤ 8) (hg : ∀ p, p ∈ l → zgr p.1 ∧ zgr p.2) : (zps l t).toInt = lpI (zpxN t) (zpyN t) l ∧ (lpI (zpxN t) (zpyN t) l).natAbs ≤ 8 * 24 ^ 6 := by
  obtain ⟨h1, h2⟩ := zps_ok t ht l hl hg l.length (Nat.le_refl _)
  rw [List.take_length] at h1 h2
  exact ⟨h1, Nat.le_trans h2 (Nat.mul_le_mul_right _ hl)⟩
theorem zcancel {S e m X mu md : Int} (he : 0 < e) (hmd : 0 < md) (h : m * md = mu * e) : S * e = m * X ↔ S * md = mu * X := by
  refine ⟨fun z => Int.eq_of_mul_eq_mul_right (Int.ne_of_gt he) ?_, fun z => Int.eq_of_mul_eq_mul_right (Int.ne_of_gt hmd) ?_⟩
  · rw [Int.mul_right_comm, z, Int.mul_right_comm m, h, Int.mul_right_comm]
  · rw [Int.mul_right_comm, z, Int.mul_right_comm mu, ← h, Int.mul_right_comm]
theorem zrt_iff {dom q i j : Nat} (hdom : dom < 3) (hq : 1 ≤ q ∧ q ≤ 6) (hij : i < j) (hj : j < (zreps dom q).length) (hok : zokP dom q (zfr dom q i) (zcnt dom q i) (zfr dom q j) (zcnt dom q j)) (t : Nat) (ht : t < 21) :
    zrt dom q (zp1 dom q (zfr dom q i) (zcnt dom q i) (zfr dom q j) (zcnt dom q j)) (zp2 dom q (zfr dom q i) (zcnt dom q i) (zfr dom q j) (zcnt dom q j)) (zpW dom q (zfr dom q i) (zcnt dom q i) (zfr dom q j) (zcnt dom q j)) (zorb dom q (zpt dom q i)) (zorb dom q (zpt dom q j)) t ↔
      zE0 dom q (zpW dom q (zfr dom q i) (zcnt dom q i) (zfr dom q j) (zcnt dom q j)).toInt (zpair dom q i j) (zpxN t) (zpyN t) := by
  have hi : i < (zreps dom q).length := by omega
  have ci : 1 ≤ zcnt dom q i ∧ zcnt dom q i ≤ 8 := zorb_len dom q (zpt dom q i)
  have cj : 1 ≤ zcnt dom q j ∧ zcnt dom q j ≤ 8 := zorb_len dom q (zpt dom q j)
  obtain ⟨bW, bw1, bw2⟩ := zp_b hdom hq (zfr_b hdom (by omega) hi) (zfr_b hdom (by omega) hj) ci cj hok
  unfold zrt zE0 zpair
  rw [lsI_app, lsI_map, lsI_map, zl2i bw1, zl2i bw2]
  generalize zp1 dom q (zfr dom q i) (zcnt dom q i) (zfr dom q j) (zcnt dom q j) = w1 at *
  generalize zp2 dom q (zfr dom q i) (zcnt dom q i) (zfr dom q j) (zcnt dom q j) = w2 at *
  generalize zpW dom q (zfr dom q i) (zcnt dom q i) (zfr dom q j) (zcnt dom q j) = W at *
  obtain ⟨a1, a2⟩ := zps_all t ht _ ci.2 (zorb_gr hdom (by omega) hi)
  obtain ⟨b1, b2⟩ := zps_all t ht _ cj.2 (zorb_gr hdom (by omega) hj)
  have h6 := zpxN_5 t ht
  have hmp := zmd_pos (dom := dom) (zpxN t) (by omega) (zpyN t) (by omega) (by omega)
  have hmb := zmd_b (dom := dom) (zpxN t) (by omega) (zpyN t) (by omega) (by omega)
  have hub := zmu_b (dom := dom) (zpxN t) (by omega) (zpyN t) (by omega) (by omega)
  have l3 := zfu_le (u := zmu dom (zpxN t) (zpyN t)) hmp
  have l4 := zfd_le (u := zmu dom (zpxN t) (zpyN t)) hmp
  have c2 := zf_cross (u := zmu dom (zpxN t) (zpyN t)) hmp
  have tq : (lI (q : Int)).toInt = q := lI_toInt (by omega)
  have h12 : 12 ^ (zpxN t + zpyN t) ≤ 12 ^ 6 := Nat.pow_le_pow_right (by omega) (by omega)
  obtain ⟨p1, p2⟩ := zpw_ok (v := lI (q : Int)) (B := 12) (by omega) (by omega) (zpxN t + zpyN t) (by omega)
  rw [tq] at p1 p2
  have m1 := zmul_ok (x := w1) (y := zps (zorb dom q (zpt dom q i)) t) (A := 10000) (B := 8 * 24 ^ 6) (by omega) (by rw [a1]; exact a2) (by decide)
  have m2 := zmul_ok (x := w2) (y := zps (zorb dom q (zpt dom q j)) t) (A := 10000) (B := 8 * 24 ^ 6) (by omega) (by rw [b1]; exact b2) (by decide)
  have s1 := zadd_ok (x := w1 * zps (zorb dom q (zpt dom q i)) t) (y := w2 * zps (zorb dom q (zpt dom q j)) t) (A := 10000 * (8 * 24 ^ 6)) (B := 10000 * (8 * 24 ^ 6)) (by rw [m1.1]; exact m1.2) (by rw [m2.1]; exact m2.2) (by decide)
  rw [m1.1, m2.1, a1, b1] at s1
  have m3 := zmul_ok (x := w1 * zps (zorb dom q (zpt dom q i)) t + w2 * zps (zorb dom q (zpt dom q j)) t) (y := zduL dom t) (A := 10000 * (8 * 24 ^ 6) + 10000 * (8 * 24 ^ 6)) (B := 65536) (by rw [s1.1]; exact s1.2) (by unfold zduL; omega) (by decide)
  have m4 := zmul_ok (x := zfu (zmu dom (zpxN t) (zpyN t)) (zmd dom (zpxN t) (zpyN t))) (y := zpw (lI (q : Int)) (zpxN t + zpyN t)) (A := 65536) (B := 12 ^ 6) (by omega) (by rw [p1]; omega) (by decide)
  have m5 := zmul_ok (x := zduU dom q t) (y := W) (A := 65536 * 12 ^ 6) (B := 10000) (by unfold zduU; rw [m4.1]; exact m4.2) (by omega) (by decide)
  rw [← Int64.toInt_inj, m3.1, m5.1, s1.1]
  unfold zduU zduL
  rw [m4.1, p1, Int.mul_assoc (zfu (zmu dom (zpxN t) (zpyN t)) (zmd dom (zpxN t) (zpyN t))).toInt, Int.mul_comm ((q : Int) ^ (zpxN t + zpyN t))]
  exact zcancel l4.1 hmp c2
theorem zt_all : ∀ d, d < 6 → (∀ t, t < (d + 1) * (d + 2) / 2 → zpxN t + zpyN t ≤ d) ∧ ∀ k, k ≤ d → ∀ a, a ≤ k → k * (k + 1) / 2 + (k - a) < (d + 1) * (d + 2) / 2 ∧ zpxN (k * (k + 1) / 2 + (k - a)) = a ∧ zpyN (k * (k + 1) / 2 + (k - a)) = k - a := by decide
theorem zterm_all {P : Nat → Nat → Prop} {d : Nat} (hd : d < 6) : (∀ t, t < (d + 1) * (d + 2) / 2 → P (zpxN t) (zpyN t)) ↔ ∀ k, k ≤ d → ∀ a, a ≤ k → P a (k - a) := by
  obtain ⟨h1, h2⟩ := zt_all d hd
  refine ⟨fun h k hk a ha => ?_, fun h t ht => ?_⟩
  · obtain ⟨g1, g2, g3⟩ := h2 k hk a ha
    have := h _ g1
    rwa [g2, g3] at this
  · have := h (zpxN t + zpyN t) (h1 t ht) (zpxN t) (by omega)
    rwa [show zpxN t + zpyN t - zpxN t = zpyN t by omega] at this
/-- what the reference asks is what the class asks -/
theorem zokQ_iff {dom q i j dg : Nat} (hdom : dom < 3) (hq : 1 ≤ q ∧ q ≤ 6) (hij : i < j) (hj : j < (zreps dom q).length) (hdg : dg < 6) : zokQ dom q dg i j ↔ zokP dom q (zfr dom q i) (zcnt dom q i) (zfr dom q j) (zcnt dom q j) ∧ ∀ k, k ≤ dg → ∀ a, a ≤ k → zE0 dom q (zpW dom q (zfr dom q i) (zcnt dom q i) (zfr dom q j) (zcnt dom q j)).toInt (zpair dom q i j) a (k - a) := by
  have h21 := (zterms dg hdg).2
  unfold zokQ
  refine and_congr_right (fun hok => ?_)
  rw [← zterm_all (P := fun a b => zE0 dom q (zpW dom q (zfr dom q i) (zcnt dom q i) (zfr dom q j) (zcnt dom q j)).toInt (zpair dom q i j) a b) hdg]
  exact ⟨fun h t ht => (zrt_iff hdom hq hij hj hok t (by omega)).mp (h t ht), fun h t ht => (zrt_iff hdom hq hij hj hok t (by omega)).mpr (h t ht)⟩
/-- the pair's places are places of a rule -/
theorem zpair_ok {dom q i j : Nat} (hdom : dom < 3) (hq : 1 ≤ q ∧ q ≤ 6) (hij : i < j) (hj : j < (zreps dom q).length) (hok : zokP dom q (zfr dom q i) (zcnt dom q i) (zfr dom q j) (zcnt dom q j)) : zLok (zpair dom q i j) := by
  have hi : i < (zreps dom q).length := by omega
  have ci : 1 ≤ zcnt dom q i ∧ zcnt dom q i ≤ 8 := zorb_len dom q (zpt dom q i)
  have cj : 1 ≤ zcnt dom q j ∧ zcnt dom q j ≤ 8 := zorb_len dom q (zpt dom q j)
  obtain ⟨bW, bw1, bw2⟩ := zp_b hdom hq (zfr_b hdom (by omega) hi) (zfr_b hdom (by omega) hj) ci cj hok
  intro e he
  unfold zpair at he
  rcases List.mem_append.mp he with h1 | h1
  · obtain ⟨p, hp, rfl⟩ := List.mem_map.mp h1
    exact ⟨(zorb_gr hdom (by omega) hi p hp).1, (zorb_gr hdom (by omega) hi p hp).2, by show zwr (Int64.toInt32 _).toInt; rw [zl2i bw1]; exact ⟨by omega, bw1.2⟩⟩
  · obtain ⟨p, hp, rfl⟩ := List.mem_map.mp h1
    exact ⟨(zorb_gr hdom (by omega) hj p hp).1, (zorb_gr hdom (by omega) hj p hp).2, by show zwr (Int64.toInt32 _).toInt; rw [zl2i bw2]; exact ⟨by omega, bw2.2⟩⟩
theorem zl2iI {x : Int64} (h : 1 ≤ x.toInt ∧ x.toInt ≤ 10000) : x.toInt32 = iI x.toInt := by rw [← iI_of x.toInt32, zl2i h]
