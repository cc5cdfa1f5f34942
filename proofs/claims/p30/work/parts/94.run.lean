/-! ===== the law's run ===== -/
theorem zand31 (x : Int32) : ∃ n, n < 32 ∧ x &&& 31 = nI n := by
  refine ⟨(x &&& 31).toBitVec.toNat, ?_, ?_⟩
  · have h : (x &&& 31).toBitVec = x.toBitVec &&& 31#32 := rfl
    rw [h, BitVec.toNat_and]
    have : x.toBitVec.toNat &&& (31#32).toNat ≤ (31#32).toNat := Nat.and_le_right
    have e : (31#32).toNat = 31 := rfl
    omega
  · apply Int32.toBitVec_inj.mp
    show (x &&& 31).toBitVec = BitVec.ofNat 32 (x &&& 31).toBitVec.toNat
    rw [BitVec.ofNat_toNat, BitVec.setWidth_eq]
theorem zlw_out {Q : Option Value → zMm → Prop} {L : Nat} {xs : Nat → Int32} {i : Nat} {M : zMm} (hL : L < 2 ^ 30) (hi : i < 2 ^ 30) (h : L < i + 5) (hQ : Q (some (.int 1)) M) : yRF (zFF L xs) 166 18 [(3, .int (nI i)), (2, .ref 93), (1, .ref 0), (0, .retAddr 3)] [] M Q := by
  refine yRF.adv 2 (pc' := 20) (lv' := [(3, .int (nI i)), (2, .ref 93), (1, .ref 0), (0, .retAddr 3)]) (st' := [.retAddr 3, .int (nI i)]) (M' := M) rfl ?_
  refine yRF.slen _ _ _ rfl ?_
  refine yRF.adv 2 (pc' := 23) (lv' := [(3, .int (nI i)), (2, .ref 93), (1, .ref 0), (0, .retAddr 3)]) (st' := [.int (nI L - 5), .int (nI i)]) (M' := M) rfl ?_
  refine yRF.if2 .gt _ _ _ _ rfl (fun q => ?_) (fun q => ?_)
  · refine yRF.adv 1 (pc' := 1068) (lv' := [(3, .int (nI i)), (2, .ref 93), (1, .ref 0), (0, .retAddr 3)]) (st' := [.int 1]) (M' := M) rfl ?_
    exact yRF.ret _ rfl rfl rfl hQ
  · exact absurd (show (L : Int) - 5 < i by omega) (zcF q (nI_toInt (by omega)) (by rw [nI_iI, show (5 : Int32) = iI 5 from rfl, iI_sub]; exact iI_toInt (by omega)))
theorem zlw_in {Q : Option Value → zMm → Prop} {L : Nat} {xs : Nat → Int32} {i : Nat} {M : zMm} (hL : L < 2 ^ 30) (h : i + 5 ≤ L) (K : yRF (zFF L xs) 166 32 [(3, .int (nI i)), (2, .ref 93), (1, .ref 0), (0, .retAddr 3)] [.int (xs i &&& 31)] M Q) : yRF (zFF L xs) 166 18 [(3, .int (nI i)), (2, .ref 93), (1, .ref 0), (0, .retAddr 3)] [] M Q := by
  refine yRF.adv 2 (pc' := 20) (lv' := [(3, .int (nI i)), (2, .ref 93), (1, .ref 0), (0, .retAddr 3)]) (st' := [.retAddr 3, .int (nI i)]) (M' := M) rfl ?_
  refine yRF.slen _ _ _ rfl ?_
  refine yRF.adv 2 (pc' := 23) (lv' := [(3, .int (nI i)), (2, .ref 93), (1, .ref 0), (0, .retAddr 3)]) (st' := [.int (nI L - 5), .int (nI i)]) (M' := M) rfl ?_
  refine yRF.if2 .gt _ _ _ _ rfl (fun q => ?_) (fun q => ?_)
  · exact absurd (zcT q (nI_toInt (by omega)) (by rw [nI_iI, show (5 : Int32) = iI 5 from rfl, iI_sub]; exact iI_toInt (by omega))) (show ¬ (L : Int) - 5 < i by omega)
  · refine yRF.adv 2 (pc' := 28) (lv' := [(3, .int (nI i)), (2, .ref 93), (1, .ref 0), (0, .retAddr 3)]) (st' := [.int (nI i), .retAddr 3]) (M' := M) rfl ?_
    refine yRF.sld i _ _ _ rfl (by omega) rfl (by omega) ?_
    refine yRF.adv 2 (pc' := 32) (lv' := [(3, .int (nI i)), (2, .ref 93), (1, .ref 0), (0, .retAddr 3)]) (st' := [.int (xs i &&& 31)]) (M' := M) rfl ?_
    exact K
theorem zlw_next {Q : Option Value → zMm → Prop} {L : Nat} {xs : Nat → Int32} {i : Nat} {M : zMm} (K : yRF (zFF L xs) 166 18 [(3, .int (nI (i + 5))), (2, .ref 93), (1, .ref 0), (0, .retAddr 3)] [] M Q) : yRF (zFF L xs) 166 1061 [(3, .int (nI i)), (2, .ref 93), (1, .ref 0), (0, .retAddr 3)] [] M Q := by
  refine yRF.adv 2 (pc' := 18) (lv' := [(3, .int (nI i + 5)), (2, .ref 93), (1, .ref 0), (0, .retAddr 3)]) (st' := []) (M' := M) rfl ?_
  rw [show nI i + 5 = nI (i + 5) from nI_add i 5]
  exact K
theorem zlaw_at (L : Nat) (xs : Nat → Int32) (hL : L ≤ 2560) (i : Nat) (hi : i + 5 ≤ L) (M : zMm) (hI : zInv M) (fin : ∀ M : zMm, zInv M → yRF (zFF L xs) 166 1061 [(3, .int (nI i)), (2, .ref 93), (1, .ref 0), (0, .retAddr 3)] [] M (fun r _ => r = some (.int 1))) : yRF (zFF L xs) 166 32 [(3, .int (nI i)), (2, .ref 93), (1, .ref 0), (0, .retAddr 3)] [.int (xs i &&& 31)] M (fun r _ => r = some (.int 1)) := by
  obtain ⟨n, hn, e⟩ := zand31 (xs i)
  rw [e]
  clear e
  rcases (show n = 0 ∨ n = 1 ∨ n = 2 ∨ n = 3 ∨ n = 4 ∨ n = 5 ∨ n = 6 ∨ n = 7 ∨ n = 8 ∨ n = 9 ∨ n = 10 ∨ n = 11 ∨ n = 12 ∨ n = 13 ∨ n = 14 ∨ n = 15 ∨ n = 16 ∨ n = 17 ∨ n = 18 ∨ n = 19 ∨ n = 20 ∨ n = 21 ∨ n = 22 ∨ n = 23 ∨ n = 24 ∨ n = 25 ∨ n = 26 ∨ n = 27 ∨ n = 28 ∨ n = 29 ∨ n = 30 ∨ n = 31 by omega) with rfl | rfl | rfl | rfl | rfl | rfl | rfl | rfl | rfl | rfl | rfl | rfl | rfl | rfl | rfl | rfl | rfl | rfl | rfl | rfl | rfl | rfl | rfl | rfl | rfl | rfl | rfl | rfl | rfl | rfl | rfl | rfl
  · refine yRF.tab _ _ _ _ _ _ _ _ rfl 132 164 rfl rfl ?_
    obtain ⟨v, M1, M2, h1, h2, h3⟩ := zop0 M hI (xs (i + 1)) (xs (i + 2)) (xs (i + 3))
    exact zlw_0 (by omega) (by omega) h1 h2 (fin M2 h3)
  · refine yRF.tab _ _ _ _ _ _ _ _ rfl 175 207 rfl rfl ?_
    obtain ⟨v, M1, M2, h1, h2, h3⟩ := zop1 M hI (xs (i + 1)) (xs (i + 2)) (xs (i + 3))
    exact zlw_1 (by omega) (by omega) h1 h2 (fin M2 h3)
  · refine yRF.tab _ _ _ _ _ _ _ _ rfl 218 250 rfl rfl ?_
    obtain ⟨v, M1, M2, h1, h2, h3⟩ := zop2 M hI (xs (i + 1)) (xs (i + 2)) (xs (i + 3))
    exact zlw_2 (by omega) (by omega) h1 h2 (fin M2 h3)
  · refine yRF.tab _ _ _ _ _ _ _ _ rfl 261 293 rfl rfl ?_
    obtain ⟨v, M1, M2, h1, h2, h3⟩ := zop3 M hI (xs (i + 1)) (xs (i + 2)) (xs (i + 3))
    exact zlw_3 (by omega) (by omega) h1 h2 (fin M2 h3)
  · refine yRF.tab _ _ _ _ _ _ _ _ rfl 304 336 rfl rfl ?_
    obtain ⟨v1, v2, M1, M2, h1, h2, h3⟩ := zop4 M hI (xs (i + 1)) (xs (i + 2)) (xs (i + 3)) (xs (i + 4))
    exact zlw_4 (by omega) (by omega) h1 h2 (fin M2 h3)
  · refine yRF.tab _ _ _ _ _ _ _ _ rfl 357 389 rfl rfl ?_
    obtain ⟨v, M1, M2, h1, h2, h3⟩ := zop5 M hI (xs (i + 1))
    exact zlw_5 (by omega) (by omega) h1 h2 (fin M2 h3)
  · refine yRF.tab _ _ _ _ _ _ _ _ rfl 380 412 rfl rfl ?_
    obtain ⟨v, M1, M2, h1, h2, h3⟩ := zop6 M hI (xs (i + 1)) (xs (i + 2))
    exact zlw_6 (by omega) (by omega) h1 h2 (fin M2 h3)
  · refine yRF.tab _ _ _ _ _ _ _ _ rfl 413 445 rfl rfl ?_
    obtain ⟨v, M1, M2, h1, h2, h3⟩ := zop7 M hI (xs (i + 1)) (xs (i + 2)) (xs (i + 3))
    exact zlw_7 (by omega) (by omega) h1 h2 (fin M2 h3)
  · refine yRF.tab _ _ _ _ _ _ _ _ rfl 456 488 rfl rfl ?_
    obtain ⟨v, M1, M2, h1, h2, h3⟩ := zop8 M hI (xs (i + 1)) (xs (i + 2)) (xs (i + 3))
    exact zlw_8 (by omega) (by omega) h1 h2 (fin M2 h3)
  · refine yRF.tab _ _ _ _ _ _ _ _ rfl 499 531 rfl rfl ?_
    obtain ⟨v, M1, M2, h1, h2, h3⟩ := zop9 M hI 
    exact zlw_9 (by omega) (by omega) h1 h2 (fin M2 h3)
  · refine yRF.tab _ _ _ _ _ _ _ _ rfl 512 544 rfl rfl ?_
    obtain ⟨v, M1, M2, h1, h2, h3⟩ := zop10 M hI (xs (i + 1))
    exact zlw_10 (by omega) (by omega) h1 h2 (fin M2 h3)
  · refine yRF.tab _ _ _ _ _ _ _ _ rfl 535 567 rfl rfl ?_
    obtain ⟨v, M1, M2, h1, h2, h3⟩ := zop11 M hI (xs (i + 1))
    exact zlw_11 (by omega) (by omega) h1 h2 (fin M2 h3)
  · refine yRF.tab _ _ _ _ _ _ _ _ rfl 558 590 rfl rfl ?_
    obtain ⟨v, M1, M2, h1, h2, h3⟩ := zop12 M hI (xs (i + 1))
    exact zlw_12 (by omega) (by omega) h1 h2 (fin M2 h3)
  · refine yRF.tab _ _ _ _ _ _ _ _ rfl 581 613 rfl rfl ?_
    obtain ⟨v, M1, M2, h1, h2, h3⟩ := zop13 M hI (xs (i + 1))
    exact zlw_13 (by omega) (by omega) h1 h2 (fin M2 h3)
  · refine yRF.tab _ _ _ _ _ _ _ _ rfl 604 636 rfl rfl ?_
    obtain ⟨v, M1, M2, h1, h2, h3⟩ := zop14 M hI (xs (i + 1))
    exact zlw_14 (by omega) (by omega) h1 h2 (fin M2 h3)
  · refine yRF.tab _ _ _ _ _ _ _ _ rfl 627 659 rfl rfl ?_
    obtain ⟨v, M1, M2, h1, h2, h3⟩ := zop15 M hI (xs (i + 1)) (xs (i + 2))
    exact zlw_15 (by omega) (by omega) h1 h2 (fin M2 h3)
  · refine yRF.tab _ _ _ _ _ _ _ _ rfl 660 692 rfl rfl ?_
    obtain ⟨v, M1, M2, h1, h2, h3⟩ := zop16 M hI (xs (i + 1)) (xs (i + 2))
    exact zlw_16 (by omega) (by omega) h1 h2 (fin M2 h3)
  · refine yRF.tab _ _ _ _ _ _ _ _ rfl 693 725 rfl rfl ?_
    obtain ⟨v, M1, M2, h1, h2, h3⟩ := zop17 M hI (xs (i + 1))
    exact zlw_17 (by omega) (by omega) h1 h2 (fin M2 h3)
  · refine yRF.tab _ _ _ _ _ _ _ _ rfl 716 748 rfl rfl ?_
    obtain ⟨v, M1, M2, h1, h2, h3⟩ := zop18 M hI (xs (i + 1)) (xs (i + 2))
    exact zlw_18 (by omega) (by omega) h1 h2 (fin M2 h3)
  · refine yRF.tab _ _ _ _ _ _ _ _ rfl 749 781 rfl rfl ?_
    obtain ⟨v, M1, M2, h1, h2, h3⟩ := zop19 M hI (xs (i + 1)) (xs (i + 2)) (xs (i + 3))
    exact zlw_19 (by omega) (by omega) h1 h2 (fin M2 h3)
  · refine yRF.tab _ _ _ _ _ _ _ _ rfl 792 824 rfl rfl ?_
    obtain ⟨v, M1, M2, h1, h2, h3⟩ := zop20 M hI (xs (i + 1))
    exact zlw_20 (by omega) (by omega) h1 h2 (fin M2 h3)
  · refine yRF.tab _ _ _ _ _ _ _ _ rfl 815 847 rfl rfl ?_
    obtain ⟨v, M1, M2, h1, h2, h3⟩ := zop21 M hI (xs (i + 1)) (xs (i + 2)) (xs (i + 3))
    exact zlw_21 (by omega) (by omega) h1 h2 (fin M2 h3)
  · refine yRF.tab _ _ _ _ _ _ _ _ rfl 858 890 rfl rfl ?_
    obtain ⟨v, M1, M2, h1, h2, h3⟩ := zop22 M hI (xs (i + 1)) (xs (i + 2)) (xs (i + 3))
    exact zlw_22 (by omega) (by omega) h1 h2 (fin M2 h3)
  · refine yRF.tab _ _ _ _ _ _ _ _ rfl 901 933 rfl rfl ?_
    obtain ⟨v, M1, M2, h1, h2, h3⟩ := zop23 M hI (xs (i + 1))
    exact zlw_23 (by omega) (by omega) h1 h2 (fin M2 h3)
  · refine yRF.tab _ _ _ _ _ _ _ _ rfl 924 956 rfl rfl ?_
    obtain ⟨v, M1, M2, h1, h2, h3⟩ := zop24 M hI (xs (i + 1))
    exact zlw_24 (by omega) (by omega) h1 h2 (fin M2 h3)
  · refine yRF.tab _ _ _ _ _ _ _ _ rfl 947 979 rfl rfl ?_
    obtain ⟨v, M1, M2, h1, h2, h3⟩ := zop25 M hI (xs (i + 1)) (xs (i + 2))
    exact zlw_25 (by omega) (by omega) h1 h2 (fin M2 h3)
  · refine yRF.tab _ _ _ _ _ _ _ _ rfl 980 1012 rfl rfl ?_
    obtain ⟨v, M1, M2, h1, h2, h3⟩ := zop26 M hI 
    exact zlw_26 (by omega) (by omega) h1 h2 (fin M2 h3)
  · refine yRF.tab _ _ _ _ _ _ _ _ rfl 993 1025 rfl rfl ?_
    obtain ⟨v1, v2, M1, M2, h1, h2, h3⟩ := zop27 M hI 
    exact zlw_27 (by omega) (by omega) h1 h2 (fin M2 h3)
  · refine yRF.tab _ _ _ _ _ _ _ _ rfl 1006 1038 rfl rfl ?_
    obtain ⟨v, M1, M2, h1, h2, h3⟩ := zop28 M hI (xs (i + 1))
    exact zlw_28 (by omega) (by omega) h1 h2 rfl (fin M2 h3)
  · refine yRF.tab _ _ _ _ _ _ _ _ rfl 1029 1061 rfl rfl ?_
    exact fin M hI
  · refine yRF.tab _ _ _ _ _ _ _ _ rfl 1029 1061 rfl rfl ?_
    exact fin M hI
  · refine yRF.tab _ _ _ _ _ _ _ _ rfl 1029 1061 rfl rfl ?_
    exact fin M hI
theorem zlaw_loop (L : Nat) (xs : Nat → Int32) (hL : L ≤ 2560) : ∀ (d i : Nat) (M : zMm), L ≤ i + 5 * d → i ≤ L + 5 → zInv M → yRF (zFF L xs) 166 18 [(3, .int (nI i)), (2, .ref 93), (1, .ref 0), (0, .retAddr 3)] [] M (fun r _ => r = some (.int 1)) := by
  intro d
  induction d with
  | zero => intro i M h1 h2 hI; exact zlw_out (by omega) (by omega) (by omega) rfl
  | succ d ih =>
    intro i M h1 h2 hI
    by_cases h : L < i + 5
    · exact zlw_out (by omega) (by omega) h rfl
    · exact zlw_in (by omega) (by omega) (zlaw_at L xs hL i (by omega) M hI (fun M' h' => zlw_next (ih (i + 5) M' (by omega) (by omega) h')))
theorem zlaw_yrf (L : Nat) (xs : Nat → Int32) (hL : L ≤ 2560) : yRF (zFF L xs) 166 16 [(2, .ref 93), (1, .ref 0), (0, .retAddr 3)] [] zM0 (fun r _ => r = some (.int 1)) := by
  refine yRF.adv 2 (pc' := 18) (lv' := [(3, .int 0), (2, .ref 93), (1, .ref 0), (0, .retAddr 3)]) (st' := []) (M' := zM0) rfl ?_
  show yRF (zFF L xs) 166 18 [(3, .int (nI 0)), (2, .ref 93), (1, .ref 0), (0, .retAddr 3)] [] zM0 _
  exact zlaw_loop L xs hL 513 0 zM0 (by omega) (by omega) zInv_0
theorem zlaw_run (L : Nat) (xs : Nat → Int32) (hL : L ≤ 2560) : ∃ n hE, zex zP (zFF L xs) n 166 0 [(0, .retAddr 3)] [] [] = some (some (.int 1), hE) ∧ hE.length ≤ 600000 ∧ zsz hE ≤ 7302249 := by
  obtain ⟨n, r, N, h1, rfl⟩ := zlaw_yrf L xs hL
  obtain ⟨n', h2⟩ := zprefix (zFF_le L xs) ⟨n, yex_ok n 166 16 _ _ zM0 _ N h1⟩
  exact ⟨n', zHo N, h2, by rw [zHo_len]; decide, zsz_Ho N⟩
