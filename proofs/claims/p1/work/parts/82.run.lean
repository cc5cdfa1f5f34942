/-! ===== the law's run ===== -/
theorem zand31 (x : Int32) : ∃ n, n < 32 ∧ x &&& 31 = nI n := by
  refine ⟨(x &&& 31).toBitVec.toNat, ?_, ?_⟩
  · have h : (x &&& 31).toBitVec = x.toBitVec &&& 31#32 := rfl
    rw [h, BitVec.toNat_and]
    have : x.toBitVec.toNat &&& (31#32).toNat ≤ (31#32).toNat := Nat.and_le_right
    have e : (31#32).toNat = 31 := rfl
    omega
  · apply Int32.toBitVec_inj.mp
    show (x &&& 31).toBitVec = BitVec.ofNat 32 (x &&& 31).toBitVec.toNat
    rw [BitVec.ofNat_toNat, BitVec.setWidth_eq]
theorem zlw_out {Q : Option Value → zMm → Prop} {L : Nat} {xs : Nat → Int32} {i : Nat} {M : zMm} (hL : L < 2 ^ 30) (hi : i < 2 ^ 30) (h : L < i + 5) (hQ : Q (some (.int 1)) M) : yRF (zFF L xs) 166 18 [(3, .int (nI i)), (2, .ref 93), (1, .ref 0), (0, .retAddr 3)] [] M Q := by
  refine yRF.adv 2 (pc' := 20) (lv' := [(3, .int (nI i)), (2, .ref 93), (1, .ref 0), (0, .retAddr 3)]) (st' := [.retAddr 3, .int (nI i)]) (M' := M) rfl ?_
  refine yRF.slen _ _ _ rfl ?_
  refine yRF.adv 2 (pc' := 23) (lv' := [(3, .int (nI i)), (2, .ref 93), (1, .ref 0), (0, .retAddr 3)]) (st' := [.int (nI L - 5), .int (nI i)]) (M' := M) rfl ?_
  refine yRF.if2 .gt _ _ _ _ rfl (fun q => ?_) (fun q => ?_)
  · refine yRF.adv 1 (pc' := 1075) (lv' := [(3, .int (nI i)), (2, .ref 93), (1, .ref 0), (0, .retAddr 3)]) (st' := [.int 1]) (M' := M) rfl ?_
    exact yRF.ret _ rfl rfl rfl hQ
  · exact absurd (show (L : Int) - 5 < i by omega) (zcF q (nI_toInt (by omega)) (by rw [nI_iI, show (5 : Int32) = iI 5 from rfl, iI_sub]; exact iI_toInt (by omega)))
theorem zlw_in {Q : Option Value → zMm → Prop} {L : Nat} {xs : Nat → Int32} {i : Nat} {M : zMm} (hL : L < 2 ^ 30) (h : i + 5 ≤ L) (K : yRF (zFF L xs) 166 32 [(3, .int (nI i)), (2, .ref 93), (1, .ref 0), (0, .retAddr 3)] [.int (xs i &&& 31)] M Q) : yRF (zFF L xs) 166 18 [(3, .int (nI i)), (2, .ref 93), (1, .ref 0), (0, .retAddr 3)] [] M Q := by
  refine yRF.adv 2 (pc' := 20) (lv' := [(3, .int (nI i)), (2, .ref 93), (1, .ref 0), (0, .retAddr 3)]) (st' := [.retAddr 3, .int (nI i)]) (M' := M) rfl ?_
  refine yRF.slen _ _ _ rfl ?_
  refine yRF.adv 2 (pc' := 23) (lv' := [(3, .int (nI i)), (2, .ref 93), (1, .ref 0), (0, .retAddr 3)]) (st' := [.int (nI L - 5), .int (nI i)]) (M' := M) rfl ?_
  refine yRF.if2 .gt _ _ _ _ rfl (fun q => ?_) (fun q => ?_)
  · exact absurd (zcT q (nI_toInt (by omega)) (by rw [nI_iI, show (5 : Int32) = iI 5 from rfl, iI_sub]; exact iI_toInt (by omega))) (show ¬ (L : Int) - 5 < i by omega)
  · refine yRF.adv 2 (pc' := 28) (lv' := [(3, .int (nI i)), (2, .ref 93), (1, .ref 0), (0, .retAddr 3)]) (st' := [.int (nI i), .retAddr 3]) (M' := M) rfl ?_
    refine yRF.sld i _ _ _ rfl (by omega) rfl (by omega) ?_
    refine yRF.adv 2 (pc' := 32) (lv' := [(3, .int (nI i)), (2, .ref 93), (1, .ref 0), (0, .retAddr 3)]) (st' := [.int (xs i &&& 31)]) (M' := M) rfl ?_
    exact K
theorem zlw_next {Q : Option Value → zMm → Prop} {L : Nat} {xs : Nat → Int32} {i : Nat} {M : zMm} (K : yRF (zFF L xs) 166 18 [(3, .int (nI (i + 5))), (2, .ref 93), (1, .ref 0), (0, .retAddr 3)] [] M Q) : yRF (zFF L xs) 166 1068 [(3, .int (nI i)), (2, .ref 93), (1, .ref 0), (0, .retAddr 3)] [] M Q := by
  refine yRF.adv 2 (pc' := 18) (lv' := [(3, .int (nI i + 5)), (2, .ref 93), (1, .ref 0), (0, .retAddr 3)]) (st' := []) (M' := M) rfl ?_
  rw [show nI i + 5 = nI (i + 5) from nI_add i 5]
  exact K
theorem zlaw_one (xs : Nat → Int32) : yRF (zFF 5 xs) 166 32 [(3, .int (nI 0)), (2, .ref 93), (1, .ref 0), (0, .retAddr 3)] [.int (xs 0 &&& 31)] zM0 (fun r _ => r = some (.int 1)) := by
  have fin : ∀ M : zMm, yRF (zFF 5 xs) 166 1068 [(3, .int (nI 0)), (2, .ref 93), (1, .ref 0), (0, .retAddr 3)] [] M (fun r _ => r = some (.int 1)) := fun M => zlw_next (zlw_out (by decide) (by decide) (by decide) rfl)
  obtain ⟨n, hn, e⟩ := zand31 (xs 0)
  rw [e]
  clear e
  rcases (show n = 0 ∨ n = 1 ∨ n = 2 ∨ n = 3 ∨ n = 4 ∨ n = 5 ∨ n = 6 ∨ n = 7 ∨ n = 8 ∨ n = 9 ∨ n = 10 ∨ n = 11 ∨ n = 12 ∨ n = 13 ∨ n = 14 ∨ n = 15 ∨ n = 16 ∨ n = 17 ∨ n = 18 ∨ n = 19 ∨ n = 20 ∨ n = 21 ∨ n = 22 ∨ n = 23 ∨ n = 24 ∨ n = 25 ∨ n = 26 ∨ n = 27 ∨ n = 28 ∨ n = 29 ∨ n = 30 ∨ n = 31 by omega) with rfl | rfl | rfl | rfl | rfl | rfl | rfl | rfl | rfl | rfl | rfl | rfl | rfl | rfl | rfl | rfl | rfl | rfl | rfl | rfl | rfl | rfl | rfl | rfl | rfl | rfl | rfl | rfl | rfl | rfl | rfl | rfl
  · refine yRF.tab _ _ _ _ _ _ _ _ rfl 132 164 rfl rfl ?_
    obtain ⟨v, M1, M2, h1, h2⟩ := zop0 (xs (0 + 1)) (xs (0 + 2)) (xs (0 + 3))
    exact zlw_0 (by decide) (by decide) h1 h2 rfl (fin M2)
  · refine yRF.tab _ _ _ _ _ _ _ _ rfl 175 207 rfl rfl ?_
    obtain ⟨v, M1, M2, h1, h2⟩ := zop1 (xs (0 + 1)) (xs (0 + 2)) (xs (0 + 3))
    exact zlw_1 (by decide) (by decide) h1 h2 rfl (fin M2)
  · refine yRF.tab _ _ _ _ _ _ _ _ rfl 219 251 rfl rfl ?_
    obtain ⟨v, M1, M2, h1, h2⟩ := zop2 (xs (0 + 1)) (xs (0 + 2)) (xs (0 + 3))
    exact zlw_2 (by decide) (by decide) h1 h2 rfl (fin M2)
  · refine yRF.tab _ _ _ _ _ _ _ _ rfl 262 294 rfl rfl ?_
    obtain ⟨v, M1, M2, h1, h2⟩ := zop3 (xs (0 + 1)) (xs (0 + 2)) (xs (0 + 3))
    exact zlw_3 (by decide) (by decide) h1 h2 rfl (fin M2)
  · refine yRF.tab _ _ _ _ _ _ _ _ rfl 305 337 rfl rfl ?_
    obtain ⟨v, M1, M2, h1, h2⟩ := zop4 (xs (0 + 1)) (xs (0 + 2)) (xs (0 + 3)) (xs (0 + 4))
    exact zlw_4 (by decide) (by decide) h1 h2 rfl (fin M2)
  · refine yRF.tab _ _ _ _ _ _ _ _ rfl 358 390 rfl rfl ?_
    obtain ⟨v, M1, M2, h1, h2⟩ := zop5 (xs (0 + 1))
    exact zlw_5 (by decide) (by decide) h1 h2 rfl (fin M2)
  · refine yRF.tab _ _ _ _ _ _ _ _ rfl 381 413 rfl rfl ?_
    obtain ⟨v, M1, M2, h1, h2⟩ := zop6 (xs (0 + 1)) (xs (0 + 2))
    exact zlw_6 (by decide) (by decide) h1 h2 rfl (fin M2)
  · refine yRF.tab _ _ _ _ _ _ _ _ rfl 414 446 rfl rfl ?_
    obtain ⟨v, M1, M2, h1, h2⟩ := zop7 (xs (0 + 1)) (xs (0 + 2)) (xs (0 + 3))
    exact zlw_7 (by decide) (by decide) h1 h2 rfl (fin M2)
  · refine yRF.tab _ _ _ _ _ _ _ _ rfl 458 490 rfl rfl ?_
    obtain ⟨v, M1, M2, h1, h2⟩ := zop8 (xs (0 + 1)) (xs (0 + 2)) (xs (0 + 3))
    exact zlw_8 (by decide) (by decide) h1 h2 rfl (fin M2)
  · refine yRF.tab _ _ _ _ _ _ _ _ rfl 502 534 rfl rfl ?_
    obtain ⟨v, M1, M2, h1, h2⟩ := zop9 
    exact zlw_9 (by decide) (by decide) h1 h2 rfl (fin M2)
  · refine yRF.tab _ _ _ _ _ _ _ _ rfl 515 547 rfl rfl ?_
    obtain ⟨v, M1, M2, h1, h2⟩ := zop10 (xs (0 + 1))
    exact zlw_10 (by decide) (by decide) h1 h2 rfl (fin M2)
  · refine yRF.tab _ _ _ _ _ _ _ _ rfl 538 570 rfl rfl ?_
    obtain ⟨v, M1, M2, h1, h2⟩ := zop11 (xs (0 + 1))
    exact zlw_11 (by decide) (by decide) h1 h2 rfl (fin M2)
  · refine yRF.tab _ _ _ _ _ _ _ _ rfl 561 593 rfl rfl ?_
    obtain ⟨v, M1, M2, h1, h2⟩ := zop12 (xs (0 + 1))
    exact zlw_12 (by decide) (by decide) h1 h2 rfl (fin M2)
  · refine yRF.tab _ _ _ _ _ _ _ _ rfl 584 616 rfl rfl ?_
    obtain ⟨v, M1, M2, h1, h2⟩ := zop13 (xs (0 + 1))
    exact zlw_13 (by decide) (by decide) h1 h2 rfl (fin M2)
  · refine yRF.tab _ _ _ _ _ _ _ _ rfl 607 639 rfl rfl ?_
    obtain ⟨v, M1, M2, h1, h2⟩ := zop14 (xs (0 + 1))
    exact zlw_14 (by decide) (by decide) h1 h2 rfl (fin M2)
  · refine yRF.tab _ _ _ _ _ _ _ _ rfl 630 662 rfl rfl ?_
    obtain ⟨v, M1, M2, h1, h2⟩ := zop15 (xs (0 + 1)) (xs (0 + 2))
    exact zlw_15 (by decide) (by decide) h1 h2 rfl (fin M2)
  · refine yRF.tab _ _ _ _ _ _ _ _ rfl 663 695 rfl rfl ?_
    obtain ⟨v, M1, M2, h1, h2⟩ := zop16 (xs (0 + 1)) (xs (0 + 2))
    exact zlw_16 (by decide) (by decide) h1 h2 rfl (fin M2)
  · refine yRF.tab _ _ _ _ _ _ _ _ rfl 697 729 rfl rfl ?_
    obtain ⟨v, M1, M2, h1, h2⟩ := zop17 (xs (0 + 1))
    exact zlw_17 (by decide) (by decide) h1 h2 rfl (fin M2)
  · refine yRF.tab _ _ _ _ _ _ _ _ rfl 721 753 rfl rfl ?_
    obtain ⟨v, M1, M2, h1, h2⟩ := zop18 (xs (0 + 1)) (xs (0 + 2))
    exact zlw_18 (by decide) (by decide) h1 h2 rfl (fin M2)
  · refine yRF.tab _ _ _ _ _ _ _ _ rfl 755 787 rfl rfl ?_
    obtain ⟨v, M1, M2, h1, h2⟩ := zop19 (xs (0 + 1)) (xs (0 + 2)) (xs (0 + 3))
    exact zlw_19 (by decide) (by decide) h1 h2 rfl (fin M2)
  · refine yRF.tab _ _ _ _ _ _ _ _ rfl 798 830 rfl rfl ?_
    obtain ⟨v, M1, M2, h1, h2⟩ := zop20 (xs (0 + 1))
    exact zlw_20 (by decide) (by decide) h1 h2 rfl (fin M2)
  · refine yRF.tab _ _ _ _ _ _ _ _ rfl 821 853 rfl rfl ?_
    obtain ⟨v, M1, M2, h1, h2⟩ := zop21 (xs (0 + 1)) (xs (0 + 2)) (xs (0 + 3))
    exact zlw_21 (by decide) (by decide) h1 h2 rfl (fin M2)
  · refine yRF.tab _ _ _ _ _ _ _ _ rfl 864 896 rfl rfl ?_
    obtain ⟨v, M1, M2, h1, h2⟩ := zop22 (xs (0 + 1)) (xs (0 + 2)) (xs (0 + 3))
    exact zlw_22 (by decide) (by decide) h1 h2 rfl (fin M2)
  · refine yRF.tab _ _ _ _ _ _ _ _ rfl 908 940 rfl rfl ?_
    obtain ⟨v, M1, M2, h1, h2⟩ := zop23 (xs (0 + 1))
    exact zlw_23 (by decide) (by decide) h1 h2 rfl (fin M2)
  · refine yRF.tab _ _ _ _ _ _ _ _ rfl 931 963 rfl rfl ?_
    obtain ⟨v, M1, M2, h1, h2⟩ := zop24 (xs (0 + 1))
    exact zlw_24 (by decide) (by decide) h1 h2 rfl (fin M2)
  · refine yRF.tab _ _ _ _ _ _ _ _ rfl 954 986 rfl rfl ?_
    obtain ⟨v, M1, M2, h1, h2⟩ := zop25 (xs (0 + 1)) (xs (0 + 2))
    exact zlw_25 (by decide) (by decide) h1 h2 rfl (fin M2)
  · refine yRF.tab _ _ _ _ _ _ _ _ rfl 987 1019 rfl rfl ?_
    obtain ⟨v, M1, M2, h1, h2⟩ := zop26 
    exact zlw_26 (by decide) (by decide) h1 h2 rfl (fin M2)
  · refine yRF.tab _ _ _ _ _ _ _ _ rfl 1000 1032 rfl rfl ?_
    obtain ⟨v, M1, M2, h1, h2⟩ := zop27 
    exact zlw_27 (by decide) (by decide) h1 h2 rfl (fin M2)
  · refine yRF.tab _ _ _ _ _ _ _ _ rfl 1013 1045 rfl rfl ?_
    obtain ⟨v, M1, M2, h1, h2⟩ := zop28 (xs (0 + 1))
    exact zlw_28 (by decide) (by decide) h1 h2 rfl (fin M2)
  · refine yRF.tab _ _ _ _ _ _ _ _ rfl 1036 1068 rfl rfl ?_
    exact fin zM0
  · refine yRF.tab _ _ _ _ _ _ _ _ rfl 1036 1068 rfl rfl ?_
    exact fin zM0
  · refine yRF.tab _ _ _ _ _ _ _ _ rfl 1036 1068 rfl rfl ?_
    exact fin zM0
theorem zlaw_yrf (L : Nat) (xs : Nat → Int32) (hL : L ≤ 5) : yRF (zFF L xs) 166 16 [(2, .ref 93), (1, .ref 0), (0, .retAddr 3)] [] zM0 (fun r _ => r = some (.int 1)) := by
  refine yRF.adv 2 (pc' := 18) (lv' := [(3, .int 0), (2, .ref 93), (1, .ref 0), (0, .retAddr 3)]) (st' := []) (M' := zM0) rfl ?_
  show yRF (zFF L xs) 166 18 [(3, .int (nI 0)), (2, .ref 93), (1, .ref 0), (0, .retAddr 3)] [] zM0 _
  by_cases h : L < 0 + 5
  · exact zlw_out (by omega) (by decide) h rfl
  · have e : L = 5 := by omega
    subst e
    exact zlw_in (by decide) (by decide) (zlaw_one xs)
theorem zlaw_run (L : Nat) (xs : Nat → Int32) (hL : L ≤ 5) : ∃ n hE, zex zP (zFF L xs) n 166 0 [(0, .retAddr 3)] [] [] = some (some (.int 1), hE) ∧ hE.length ≤ 600000 ∧ zsz hE ≤ 7302249 := by
  obtain ⟨n, r, N, h1, rfl⟩ := zlaw_yrf L xs hL
  obtain ⟨n', h2⟩ := zprefix (zFF_le L xs) ⟨n, yex_ok n 166 16 _ _ zM0 _ N h1⟩
  exact ⟨n', zHo N, h2, by rw [zHo_len]; decide, zsz_Ho N⟩
