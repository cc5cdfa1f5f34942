/-! ===== the law, call by call ===== -/
theorem zlw_0 {Q : Option Value → zMm → Prop} {L : Nat} {xs : Nat → Int32} {i : Nat} {M M1 M2 : zMm} {v1 v2 : Int32} (hL : L < 2 ^ 31) (hi : i + 5 ≤ L) (h1 : yOk 38 0 (lv_args 0 (.ref 0 :: [.int (xs (i + 1)), .int (xs (i + 2)), .int (xs (i + 3))])) [] M (some (.int v1)) M1) (h2 : yOk 110 0 (lv_args 0 (.ref 93 :: [.int (xs (i + 1)), .int (xs (i + 2)), .int (xs (i + 3))])) [] M1 (some (.int v2)) M2) (hv : v1 = v2) (K : yRF (zFF L xs) 166 1068 [(3, .int (nI i)), (2, .ref 93), (1, .ref 0), (0, .retAddr 3)] [] M2 Q) : yRF (zFF L xs) 166 164 [(3, .int (nI i)), (2, .ref 93), (1, .ref 0), (0, .retAddr 3)] [] M Q := by
  refine yRF.adv 5 (pc' := 169) (lv' := [(3, .int (nI i)), (2, .ref 93), (1, .ref 0), (0, .retAddr 3)]) (st' := [.int (nI i + 1), .retAddr 3, .ref 0]) (M' := M) rfl ?_
  refine yRF.sld (i + 1) _ _ _ rfl hL (nI_add i 1) (by omega) ?_
  show yRF (zFF L xs) 166 170 [(3, .int (nI i)), (2, .ref 93), (1, .ref 0), (0, .retAddr 3)] [.int (xs (i + 1)), .ref 0] M _
  refine yRF.adv 4 (pc' := 174) (lv' := [(3, .int (nI i)), (2, .ref 93), (1, .ref 0), (0, .retAddr 3)]) (st' := [.int (nI i + 2), .retAddr 3, .int (xs (i + 1)), .ref 0]) (M' := M) rfl ?_
  refine yRF.sld (i + 2) _ _ _ rfl hL (nI_add i 2) (by omega) ?_
  show yRF (zFF L xs) 166 175 [(3, .int (nI i)), (2, .ref 93), (1, .ref 0), (0, .retAddr 3)] [.int (xs (i + 2)), .int (xs (i + 1)), .ref 0] M _
  refine yRF.adv 4 (pc' := 179) (lv' := [(3, .int (nI i)), (2, .ref 93), (1, .ref 0), (0, .retAddr 3)]) (st' := [.int (nI i + 3), .retAddr 3, .int (xs (i + 2)), .int (xs (i + 1)), .ref 0]) (M' := M) rfl ?_
  refine yRF.sld (i + 3) _ _ _ rfl hL (nI_add i 3) (by omega) ?_
  show yRF (zFF L xs) 166 180 [(3, .int (nI i)), (2, .ref 93), (1, .ref 0), (0, .retAddr 3)] [.int (xs (i + 3)), .int (xs (i + 2)), .int (xs (i + 1)), .ref 0] M _
  refine yRF.call (zFF_le L xs) _ rfl rfl rfl rfl rfl h1 ?_
  show yRF (zFF L xs) 166 183 [(3, .int (nI i)), (2, .ref 93), (1, .ref 0), (0, .retAddr 3)] [.int v1] M1 _
  refine yRF.adv 5 (pc' := 188) (lv' := [(3, .int (nI i)), (2, .ref 93), (1, .ref 0), (0, .retAddr 3)]) (st' := [.int (nI i + 1), .retAddr 3, .ref 93, .int v1]) (M' := M1) rfl ?_
  refine yRF.sld (i + 1) _ _ _ rfl hL (nI_add i 1) (by omega) ?_
  show yRF (zFF L xs) 166 189 [(3, .int (nI i)), (2, .ref 93), (1, .ref 0), (0, .retAddr 3)] [.int (xs (i + 1)), .ref 93, .int v1] M1 _
  refine yRF.adv 4 (pc' := 193) (lv' := [(3, .int (nI i)), (2, .ref 93), (1, .ref 0), (0, .retAddr 3)]) (st' := [.int (nI i + 2), .retAddr 3, .int (xs (i + 1)), .ref 93, .int v1]) (M' := M1) rfl ?_
  refine yRF.sld (i + 2) _ _ _ rfl hL (nI_add i 2) (by omega) ?_
  show yRF (zFF L xs) 166 194 [(3, .int (nI i)), (2, .ref 93), (1, .ref 0), (0, .retAddr 3)] [.int (xs (i + 2)), .int (xs (i + 1)), .ref 93, .int v1] M1 _
  refine yRF.adv 4 (pc' := 198) (lv' := [(3, .int (nI i)), (2, .ref 93), (1, .ref 0), (0, .retAddr 3)]) (st' := [.int (nI i + 3), .retAddr 3, .int (xs (i + 2)), .int (xs (i + 1)), .ref 93, .int v1]) (M' := M1) rfl ?_
  refine yRF.sld (i + 3) _ _ _ rfl hL (nI_add i 3) (by omega) ?_
  show yRF (zFF L xs) 166 199 [(3, .int (nI i)), (2, .ref 93), (1, .ref 0), (0, .retAddr 3)] [.int (xs (i + 3)), .int (xs (i + 2)), .int (xs (i + 1)), .ref 93, .int v1] M1 _
  refine yRF.call (zFF_le L xs) _ rfl rfl rfl rfl rfl h2 ?_
  show yRF (zFF L xs) 166 202 [(3, .int (nI i)), (2, .ref 93), (1, .ref 0), (0, .retAddr 3)] [.int v2, .int v1] M2 _
  refine yRF.if2 .eq _ _ _ _ rfl (fun q => ?_) (fun q => absurd hv (zeq_f q))
  exact K
theorem zlw_1 {Q : Option Value → zMm → Prop} {L : Nat} {xs : Nat → Int32} {i : Nat} {M M1 M2 : zMm} {v1 v2 : Int64} (hL : L < 2 ^ 31) (hi : i + 5 ≤ L) (h1 : yOk 39 0 (lv_args 0 (.ref 0 :: [.int (xs (i + 1)), .int (xs (i + 2)), .int (xs (i + 3))])) [] M (some (.long v1)) M1) (h2 : yOk 115 0 (lv_args 0 (.ref 93 :: [.int (xs (i + 1)), .int (xs (i + 2)), .int (xs (i + 3))])) [] M1 (some (.long v2)) M2) (hv : v1 = v2) (K : yRF (zFF L xs) 166 1068 [(3, .int (nI i)), (2, .ref 93), (1, .ref 0), (0, .retAddr 3)] [] M2 Q) : yRF (zFF L xs) 166 207 [(3, .int (nI i)), (2, .ref 93), (1, .ref 0), (0, .retAddr 3)] [] M Q := by
  refine yRF.adv 5 (pc' := 212) (lv' := [(3, .int (nI i)), (2, .ref 93), (1, .ref 0), (0, .retAddr 3)]) (st' := [.int (nI i + 1), .retAddr 3, .ref 0]) (M' := M) rfl ?_
  refine yRF.sld (i + 1) _ _ _ rfl hL (nI_add i 1) (by omega) ?_
  show yRF (zFF L xs) 166 213 [(3, .int (nI i)), (2, .ref 93), (1, .ref 0), (0, .retAddr 3)] [.int (xs (i + 1)), .ref 0] M _
  refine yRF.adv 4 (pc' := 217) (lv' := [(3, .int (nI i)), (2, .ref 93), (1, .ref 0), (0, .retAddr 3)]) (st' := [.int (nI i + 2), .retAddr 3, .int (xs (i + 1)), .ref 0]) (M' := M) rfl ?_
  refine yRF.sld (i + 2) _ _ _ rfl hL (nI_add i 2) (by omega) ?_
  show yRF (zFF L xs) 166 218 [(3, .int (nI i)), (2, .ref 93), (1, .ref 0), (0, .retAddr 3)] [.int (xs (i + 2)), .int (xs (i + 1)), .ref 0] M _
  refine yRF.adv 4 (pc' := 222) (lv' := [(3, .int (nI i)), (2, .ref 93), (1, .ref 0), (0, .retAddr 3)]) (st' := [.int (nI i + 3), .retAddr 3, .int (xs (i + 2)), .int (xs (i + 1)), .ref 0]) (M' := M) rfl ?_
  refine yRF.sld (i + 3) _ _ _ rfl hL (nI_add i 3) (by omega) ?_
  show yRF (zFF L xs) 166 223 [(3, .int (nI i)), (2, .ref 93), (1, .ref 0), (0, .retAddr 3)] [.int (xs (i + 3)), .int (xs (i + 2)), .int (xs (i + 1)), .ref 0] M _
  refine yRF.call (zFF_le L xs) _ rfl rfl rfl rfl rfl h1 ?_
  show yRF (zFF L xs) 166 226 [(3, .int (nI i)), (2, .ref 93), (1, .ref 0), (0, .retAddr 3)] [.long v1] M1 _
  refine yRF.adv 5 (pc' := 231) (lv' := [(3, .int (nI i)), (2, .ref 93), (1, .ref 0), (0, .retAddr 3)]) (st' := [.int (nI i + 1), .retAddr 3, .ref 93, .long v1]) (M' := M1) rfl ?_
  refine yRF.sld (i + 1) _ _ _ rfl hL (nI_add i 1) (by omega) ?_
  show yRF (zFF L xs) 166 232 [(3, .int (nI i)), (2, .ref 93), (1, .ref 0), (0, .retAddr 3)] [.int (xs (i + 1)), .ref 93, .long v1] M1 _
  refine yRF.adv 4 (pc' := 236) (lv' := [(3, .int (nI i)), (2, .ref 93), (1, .ref 0), (0, .retAddr 3)]) (st' := [.int (nI i + 2), .retAddr 3, .int (xs (i + 1)), .ref 93, .long v1]) (M' := M1) rfl ?_
  refine yRF.sld (i + 2) _ _ _ rfl hL (nI_add i 2) (by omega) ?_
  show yRF (zFF L xs) 166 237 [(3, .int (nI i)), (2, .ref 93), (1, .ref 0), (0, .retAddr 3)] [.int (xs (i + 2)), .int (xs (i + 1)), .ref 93, .long v1] M1 _
  refine yRF.adv 4 (pc' := 241) (lv' := [(3, .int (nI i)), (2, .ref 93), (1, .ref 0), (0, .retAddr 3)]) (st' := [.int (nI i + 3), .retAddr 3, .int (xs (i + 2)), .int (xs (i + 1)), .ref 93, .long v1]) (M' := M1) rfl ?_
  refine yRF.sld (i + 3) _ _ _ rfl hL (nI_add i 3) (by omega) ?_
  show yRF (zFF L xs) 166 242 [(3, .int (nI i)), (2, .ref 93), (1, .ref 0), (0, .retAddr 3)] [.int (xs (i + 3)), .int (xs (i + 2)), .int (xs (i + 1)), .ref 93, .long v1] M1 _
  refine yRF.call (zFF_le L xs) _ rfl rfl rfl rfl rfl h2 ?_
  show yRF (zFF L xs) 166 245 [(3, .int (nI i)), (2, .ref 93), (1, .ref 0), (0, .retAddr 3)] [.long v2, .long v1] M2 _
  refine yRF.adv 1 (pc' := 246) (lv' := [(3, .int (nI i)), (2, .ref 93), (1, .ref 0), (0, .retAddr 3)]) (st' := [.int (lg_cmp v1 v2)]) (M' := M2) rfl ?_
  refine yRF.if1 .eq _ _ _ _ rfl (fun q => ?_) (fun q => absurd (congrArg Int64.toInt hv) (zlF q rfl rfl))
  exact K
theorem zlw_2 {Q : Option Value → zMm → Prop} {L : Nat} {xs : Nat → Int32} {i : Nat} {M M1 M2 : zMm} {v1 v2 : Int32} (hL : L < 2 ^ 31) (hi : i + 5 ≤ L) (h1 : yOk 40 0 (lv_args 0 (.ref 0 :: [.int (xs (i + 1)), .int (xs (i + 2)), .int (xs (i + 3))])) [] M (some (.int v1)) M1) (h2 : yOk 126 0 (lv_args 0 (.ref 93 :: [.int (xs (i + 1)), .int (xs (i + 2)), .int (xs (i + 3))])) [] M1 (some (.int v2)) M2) (hv : v1 = v2) (K : yRF (zFF L xs) 166 1068 [(3, .int (nI i)), (2, .ref 93), (1, .ref 0), (0, .retAddr 3)] [] M2 Q) : yRF (zFF L xs) 166 251 [(3, .int (nI i)), (2, .ref 93), (1, .ref 0), (0, .retAddr 3)] [] M Q := by
  refine yRF.adv 5 (pc' := 256) (lv' := [(3, .int (nI i)), (2, .ref 93), (1, .ref 0), (0, .retAddr 3)]) (st' := [.int (nI i + 1), .retAddr 3, .ref 0]) (M' := M) rfl ?_
  refine yRF.sld (i + 1) _ _ _ rfl hL (nI_add i 1) (by omega) ?_
  show yRF (zFF L xs) 166 257 [(3, .int (nI i)), (2, .ref 93), (1, .ref 0), (0, .retAddr 3)] [.int (xs (i + 1)), .ref 0] M _
  refine yRF.adv 4 (pc' := 261) (lv' := [(3, .int (nI i)), (2, .ref 93), (1, .ref 0), (0, .retAddr 3)]) (st' := [.int (nI i + 2), .retAddr 3, .int (xs (i + 1)), .ref 0]) (M' := M) rfl ?_
  refine yRF.sld (i + 2) _ _ _ rfl hL (nI_add i 2) (by omega) ?_
  show yRF (zFF L xs) 166 262 [(3, .int (nI i)), (2, .ref 93), (1, .ref 0), (0, .retAddr 3)] [.int (xs (i + 2)), .int (xs (i + 1)), .ref 0] M _
  refine yRF.adv 4 (pc' := 266) (lv' := [(3, .int (nI i)), (2, .ref 93), (1, .ref 0), (0, .retAddr 3)]) (st' := [.int (nI i + 3), .retAddr 3, .int (xs (i + 2)), .int (xs (i + 1)), .ref 0]) (M' := M) rfl ?_
  refine yRF.sld (i + 3) _ _ _ rfl hL (nI_add i 3) (by omega) ?_
  show yRF (zFF L xs) 166 267 [(3, .int (nI i)), (2, .ref 93), (1, .ref 0), (0, .retAddr 3)] [.int (xs (i + 3)), .int (xs (i + 2)), .int (xs (i + 1)), .ref 0] M _
  refine yRF.call (zFF_le L xs) _ rfl rfl rfl rfl rfl h1 ?_
  show yRF (zFF L xs) 166 270 [(3, .int (nI i)), (2, .ref 93), (1, .ref 0), (0, .retAddr 3)] [.int v1] M1 _
  refine yRF.adv 5 (pc' := 275) (lv' := [(3, .int (nI i)), (2, .ref 93), (1, .ref 0), (0, .retAddr 3)]) (st' := [.int (nI i + 1), .retAddr 3, .ref 93, .int v1]) (M' := M1) rfl ?_
  refine yRF.sld (i + 1) _ _ _ rfl hL (nI_add i 1) (by omega) ?_
  show yRF (zFF L xs) 166 276 [(3, .int (nI i)), (2, .ref 93), (1, .ref 0), (0, .retAddr 3)] [.int (xs (i + 1)), .ref 93, .int v1] M1 _
  refine yRF.adv 4 (pc' := 280) (lv' := [(3, .int (nI i)), (2, .ref 93), (1, .ref 0), (0, .retAddr 3)]) (st' := [.int (nI i + 2), .retAddr 3, .int (xs (i + 1)), .ref 93, .int v1]) (M' := M1) rfl ?_
  refine yRF.sld (i + 2) _ _ _ rfl hL (nI_add i 2) (by omega) ?_
  show yRF (zFF L xs) 166 281 [(3, .int (nI i)), (2, .ref 93), (1, .ref 0), (0, .retAddr 3)] [.int (xs (i + 2)), .int (xs (i + 1)), .ref 93, .int v1] M1 _
  refine yRF.adv 4 (pc' := 285) (lv' := [(3, .int (nI i)), (2, .ref 93), (1, .ref 0), (0, .retAddr 3)]) (st' := [.int (nI i + 3), .retAddr 3, .int (xs (i + 2)), .int (xs (i + 1)), .ref 93, .int v1]) (M' := M1) rfl ?_
  refine yRF.sld (i + 3) _ _ _ rfl hL (nI_add i 3) (by omega) ?_
  show yRF (zFF L xs) 166 286 [(3, .int (nI i)), (2, .ref 93), (1, .ref 0), (0, .retAddr 3)] [.int (xs (i + 3)), .int (xs (i + 2)), .int (xs (i + 1)), .ref 93, .int v1] M1 _
  refine yRF.call (zFF_le L xs) _ rfl rfl rfl rfl rfl h2 ?_
  show yRF (zFF L xs) 166 289 [(3, .int (nI i)), (2, .ref 93), (1, .ref 0), (0, .retAddr 3)] [.int v2, .int v1] M2 _
  refine yRF.if2 .eq _ _ _ _ rfl (fun q => ?_) (fun q => absurd hv (zeq_f q))
  exact K
theorem zlw_3 {Q : Option Value → zMm → Prop} {L : Nat} {xs : Nat → Int32} {i : Nat} {M M1 M2 : zMm} {v1 v2 : Int32} (hL : L < 2 ^ 31) (hi : i + 5 ≤ L) (h1 : yOk 41 0 (lv_args 0 (.ref 0 :: [.int (xs (i + 1)), .int (xs (i + 2)), .int (xs (i + 3))])) [] M (some (.int v1)) M1) (h2 : yOk 127 0 (lv_args 0 (.ref 93 :: [.int (xs (i + 1)), .int (xs (i + 2)), .int (xs (i + 3))])) [] M1 (some (.int v2)) M2) (hv : v1 = v2) (K : yRF (zFF L xs) 166 1068 [(3, .int (nI i)), (2, .ref 93), (1, .ref 0), (0, .retAddr 3)] [] M2 Q) : yRF (zFF L xs) 166 294 [(3, .int (nI i)), (2, .ref 93), (1, .ref 0), (0, .retAddr 3)] [] M Q := by
  refine yRF.adv 5 (pc' := 299) (lv' := [(3, .int (nI i)), (2, .ref 93), (1, .ref 0), (0, .retAddr 3)]) (st' := [.int (nI i + 1), .retAddr 3, .ref 0]) (M' := M) rfl ?_
  refine yRF.sld (i + 1) _ _ _ rfl hL (nI_add i 1) (by omega) ?_
  show yRF (zFF L xs) 166 300 [(3, .int (nI i)), (2, .ref 93), (1, .ref 0), (0, .retAddr 3)] [.int (xs (i + 1)), .ref 0] M _
  refine yRF.adv 4 (pc' := 304) (lv' := [(3, .int (nI i)), (2, .ref 93), (1, .ref 0), (0, .retAddr 3)]) (st' := [.int (nI i + 2), .retAddr 3, .int (xs (i + 1)), .ref 0]) (M' := M) rfl ?_
  refine yRF.sld (i + 2) _ _ _ rfl hL (nI_add i 2) (by omega) ?_
  show yRF (zFF L xs) 166 305 [(3, .int (nI i)), (2, .ref 93), (1, .ref 0), (0, .retAddr 3)] [.int (xs (i + 2)), .int (xs (i + 1)), .ref 0] M _
  refine yRF.adv 4 (pc' := 309) (lv' := [(3, .int (nI i)), (2, .ref 93), (1, .ref 0), (0, .retAddr 3)]) (st' := [.int (nI i + 3), .retAddr 3, .int (xs (i + 2)), .int (xs (i + 1)), .ref 0]) (M' := M) rfl ?_
  refine yRF.sld (i + 3) _ _ _ rfl hL (nI_add i 3) (by omega) ?_
  show yRF (zFF L xs) 166 310 [(3, .int (nI i)), (2, .ref 93), (1, .ref 0), (0, .retAddr 3)] [.int (xs (i + 3)), .int (xs (i + 2)), .int (xs (i + 1)), .ref 0] M _
  refine yRF.call (zFF_le L xs) _ rfl rfl rfl rfl rfl h1 ?_
  show yRF (zFF L xs) 166 313 [(3, .int (nI i)), (2, .ref 93), (1, .ref 0), (0, .retAddr 3)] [.int v1] M1 _
  refine yRF.adv 5 (pc' := 318) (lv' := [(3, .int (nI i)), (2, .ref 93), (1, .ref 0), (0, .retAddr 3)]) (st' := [.int (nI i + 1), .retAddr 3, .ref 93, .int v1]) (M' := M1) rfl ?_
  refine yRF.sld (i + 1) _ _ _ rfl hL (nI_add i 1) (by omega) ?_
  show yRF (zFF L xs) 166 319 [(3, .int (nI i)), (2, .ref 93), (1, .ref 0), (0, .retAddr 3)] [.int (xs (i + 1)), .ref 93, .int v1] M1 _
  refine yRF.adv 4 (pc' := 323) (lv' := [(3, .int (nI i)), (2, .ref 93), (1, .ref 0), (0, .retAddr 3)]) (st' := [.int (nI i + 2), .retAddr 3, .int (xs (i + 1)), .ref 93, .int v1]) (M' := M1) rfl ?_
  refine yRF.sld (i + 2) _ _ _ rfl hL (nI_add i 2) (by omega) ?_
  show yRF (zFF L xs) 166 324 [(3, .int (nI i)), (2, .ref 93), (1, .ref 0), (0, .retAddr 3)] [.int (xs (i + 2)), .int (xs (i + 1)), .ref 93, .int v1] M1 _
  refine yRF.adv 4 (pc' := 328) (lv' := [(3, .int (nI i)), (2, .ref 93), (1, .ref 0), (0, .retAddr 3)]) (st' := [.int (nI i + 3), .retAddr 3, .int (xs (i + 2)), .int (xs (i + 1)), .ref 93, .int v1]) (M' := M1) rfl ?_
  refine yRF.sld (i + 3) _ _ _ rfl hL (nI_add i 3) (by omega) ?_
  show yRF (zFF L xs) 166 329 [(3, .int (nI i)), (2, .ref 93), (1, .ref 0), (0, .retAddr 3)] [.int (xs (i + 3)), .int (xs (i + 2)), .int (xs (i + 1)), .ref 93, .int v1] M1 _
  refine yRF.call (zFF_le L xs) _ rfl rfl rfl rfl rfl h2 ?_
  show yRF (zFF L xs) 166 332 [(3, .int (nI i)), (2, .ref 93), (1, .ref 0), (0, .retAddr 3)] [.int v2, .int v1] M2 _
  refine yRF.if2 .eq _ _ _ _ rfl (fun q => ?_) (fun q => absurd hv (zeq_f q))
  exact K
theorem zlw_4 {Q : Option Value → zMm → Prop} {L : Nat} {xs : Nat → Int32} {i : Nat} {M M1 M2 : zMm} {v1 v2 : Int32} (hL : L < 2 ^ 31) (hi : i + 5 ≤ L) (h1 : yOk 42 0 (lv_args 0 (.ref 0 :: [.int (xs (i + 1)), .int (xs (i + 2)), .int (xs (i + 3)), .int (xs (i + 4))])) [] M (some (.int v1)) M1) (h2 : yOk 128 0 (lv_args 0 (.ref 93 :: [.int (xs (i + 1)), .int (xs (i + 2)), .int (xs (i + 3)), .int (xs (i + 4))])) [] M1 (some (.int v2)) M2) (hv : v1 = v2) (K : yRF (zFF L xs) 166 1068 [(3, .int (nI i)), (2, .ref 93), (1, .ref 0), (0, .retAddr 3)] [] M2 Q) : yRF (zFF L xs) 166 337 [(3, .int (nI i)), (2, .ref 93), (1, .ref 0), (0, .retAddr 3)] [] M Q := by
  refine yRF.adv 5 (pc' := 342) (lv' := [(3, .int (nI i)), (2, .ref 93), (1, .ref 0), (0, .retAddr 3)]) (st' := [.int (nI i + 1), .retAddr 3, .ref 0]) (M' := M) rfl ?_
  refine yRF.sld (i + 1) _ _ _ rfl hL (nI_add i 1) (by omega) ?_
  show yRF (zFF L xs) 166 343 [(3, .int (nI i)), (2, .ref 93), (1, .ref 0), (0, .retAddr 3)] [.int (xs (i + 1)), .ref 0] M _
  refine yRF.adv 4 (pc' := 347) (lv' := [(3, .int (nI i)), (2, .ref 93), (1, .ref 0), (0, .retAddr 3)]) (st' := [.int (nI i + 2), .retAddr 3, .int (xs (i + 1)), .ref 0]) (M' := M) rfl ?_
  refine yRF.sld (i + 2) _ _ _ rfl hL (nI_add i 2) (by omega) ?_
  show yRF (zFF L xs) 166 348 [(3, .int (nI i)), (2, .ref 93), (1, .ref 0), (0, .retAddr 3)] [.int (xs (i + 2)), .int (xs (i + 1)), .ref 0] M _
  refine yRF.adv 4 (pc' := 352) (lv' := [(3, .int (nI i)), (2, .ref 93), (1, .ref 0), (0, .retAddr 3)]) (st' := [.int (nI i + 3), .retAddr 3, .int (xs (i + 2)), .int (xs (i + 1)), .ref 0]) (M' := M) rfl ?_
  refine yRF.sld (i + 3) _ _ _ rfl hL (nI_add i 3) (by omega) ?_
  show yRF (zFF L xs) 166 353 [(3, .int (nI i)), (2, .ref 93), (1, .ref 0), (0, .retAddr 3)] [.int (xs (i + 3)), .int (xs (i + 2)), .int (xs (i + 1)), .ref 0] M _
  refine yRF.adv 4 (pc' := 357) (lv' := [(3, .int (nI i)), (2, .ref 93), (1, .ref 0), (0, .retAddr 3)]) (st' := [.int (nI i + 4), .retAddr 3, .int (xs (i + 3)), .int (xs (i + 2)), .int (xs (i + 1)), .ref 0]) (M' := M) rfl ?_
  refine yRF.sld (i + 4) _ _ _ rfl hL (nI_add i 4) (by omega) ?_
  show yRF (zFF L xs) 166 358 [(3, .int (nI i)), (2, .ref 93), (1, .ref 0), (0, .retAddr 3)] [.int (xs (i + 4)), .int (xs (i + 3)), .int (xs (i + 2)), .int (xs (i + 1)), .ref 0] M _
  refine yRF.call (zFF_le L xs) _ rfl rfl rfl rfl rfl h1 ?_
  show yRF (zFF L xs) 166 361 [(3, .int (nI i)), (2, .ref 93), (1, .ref 0), (0, .retAddr 3)] [.int v1] M1 _
  refine yRF.adv 5 (pc' := 366) (lv' := [(3, .int (nI i)), (2, .ref 93), (1, .ref 0), (0, .retAddr 3)]) (st' := [.int (nI i + 1), .retAddr 3, .ref 93, .int v1]) (M' := M1) rfl ?_
  refine yRF.sld (i + 1) _ _ _ rfl hL (nI_add i 1) (by omega) ?_
  show yRF (zFF L xs) 166 367 [(3, .int (nI i)), (2, .ref 93), (1, .ref 0), (0, .retAddr 3)] [.int (xs (i + 1)), .ref 93, .int v1] M1 _
  refine yRF.adv 4 (pc' := 371) (lv' := [(3, .int (nI i)), (2, .ref 93), (1, .ref 0), (0, .retAddr 3)]) (st' := [.int (nI i + 2), .retAddr 3, .int (xs (i + 1)), .ref 93, .int v1]) (M' := M1) rfl ?_
  refine yRF.sld (i + 2) _ _ _ rfl hL (nI_add i 2) (by omega) ?_
  show yRF (zFF L xs) 166 372 [(3, .int (nI i)), (2, .ref 93), (1, .ref 0), (0, .retAddr 3)] [.int (xs (i + 2)), .int (xs (i + 1)), .ref 93, .int v1] M1 _
  refine yRF.adv 4 (pc' := 376) (lv' := [(3, .int (nI i)), (2, .ref 93), (1, .ref 0), (0, .retAddr 3)]) (st' := [.int (nI i + 3), .retAddr 3, .int (xs (i + 2)), .int (xs (i + 1)), .ref 93, .int v1]) (M' := M1) rfl ?_
  refine yRF.sld (i + 3) _ _ _ rfl hL (nI_add i 3) (by omega) ?_
  show yRF (zFF L xs) 166 377 [(3, .int (nI i)), (2, .ref 93), (1, .ref 0), (0, .retAddr 3)] [.int (xs (i + 3)), .int (xs (i + 2)), .int (xs (i + 1)), .ref 93, .int v1] M1 _
  refine yRF.adv 4 (pc' := 381) (lv' := [(3, .int (nI i)), (2, .ref 93), (1, .ref 0), (0, .retAddr 3)]) (st' := [.int (nI i + 4), .retAddr 3, .int (xs (i + 3)), .int (xs (i + 2)), .int (xs (i + 1)), .ref 93, .int v1]) (M' := M1) rfl ?_
  refine yRF.sld (i + 4) _ _ _ rfl hL (nI_add i 4) (by omega) ?_
  show yRF (zFF L xs) 166 382 [(3, .int (nI i)), (2, .ref 93), (1, .ref 0), (0, .retAddr 3)] [.int (xs (i + 4)), .int (xs (i + 3)), .int (xs (i + 2)), .int (xs (i + 1)), .ref 93, .int v1] M1 _
  refine yRF.call (zFF_le L xs) _ rfl rfl rfl rfl rfl h2 ?_
  show yRF (zFF L xs) 166 385 [(3, .int (nI i)), (2, .ref 93), (1, .ref 0), (0, .retAddr 3)] [.int v2, .int v1] M2 _
  refine yRF.if2 .eq _ _ _ _ rfl (fun q => ?_) (fun q => absurd hv (zeq_f q))
  exact K
theorem zlw_5 {Q : Option Value → zMm → Prop} {L : Nat} {xs : Nat → Int32} {i : Nat} {M M1 M2 : zMm} {v1 v2 : Int32} (hL : L < 2 ^ 31) (hi : i + 5 ≤ L) (h1 : yOk 43 0 (lv_args 0 (.ref 0 :: [.int (xs (i + 1))])) [] M (some (.int v1)) M1) (h2 : yOk 129 0 (lv_args 0 (.ref 93 :: [.int (xs (i + 1))])) [] M1 (some (.int v2)) M2) (hv : v1 = v2) (K : yRF (zFF L xs) 166 1068 [(3, .int (nI i)), (2, .ref 93), (1, .ref 0), (0, .retAddr 3)] [] M2 Q) : yRF (zFF L xs) 166 390 [(3, .int (nI i)), (2, .ref 93), (1, .ref 0), (0, .retAddr 3)] [] M Q := by
  refine yRF.adv 5 (pc' := 395) (lv' := [(3, .int (nI i)), (2, .ref 93), (1, .ref 0), (0, .retAddr 3)]) (st' := [.int (nI i + 1), .retAddr 3, .ref 0]) (M' := M) rfl ?_
  refine yRF.sld (i + 1) _ _ _ rfl hL (nI_add i 1) (by omega) ?_
  show yRF (zFF L xs) 166 396 [(3, .int (nI i)), (2, .ref 93), (1, .ref 0), (0, .retAddr 3)] [.int (xs (i + 1)), .ref 0] M _
  refine yRF.call (zFF_le L xs) _ rfl rfl rfl rfl rfl h1 ?_
  show yRF (zFF L xs) 166 399 [(3, .int (nI i)), (2, .ref 93), (1, .ref 0), (0, .retAddr 3)] [.int v1] M1 _
  refine yRF.adv 5 (pc' := 404) (lv' := [(3, .int (nI i)), (2, .ref 93), (1, .ref 0), (0, .retAddr 3)]) (st' := [.int (nI i + 1), .retAddr 3, .ref 93, .int v1]) (M' := M1) rfl ?_
  refine yRF.sld (i + 1) _ _ _ rfl hL (nI_add i 1) (by omega) ?_
  show yRF (zFF L xs) 166 405 [(3, .int (nI i)), (2, .ref 93), (1, .ref 0), (0, .retAddr 3)] [.int (xs (i + 1)), .ref 93, .int v1] M1 _
  refine yRF.call (zFF_le L xs) _ rfl rfl rfl rfl rfl h2 ?_
  show yRF (zFF L xs) 166 408 [(3, .int (nI i)), (2, .ref 93), (1, .ref 0), (0, .retAddr 3)] [.int v2, .int v1] M2 _
  refine yRF.if2 .eq _ _ _ _ rfl (fun q => ?_) (fun q => absurd hv (zeq_f q))
  exact K
theorem zlw_6 {Q : Option Value → zMm → Prop} {L : Nat} {xs : Nat → Int32} {i : Nat} {M M1 M2 : zMm} {v1 v2 : Int32} (hL : L < 2 ^ 31) (hi : i + 5 ≤ L) (h1 : yOk 44 0 (lv_args 0 (.ref 0 :: [.int (xs (i + 1)), .int (xs (i + 2))])) [] M (some (.int v1)) M1) (h2 : yOk 132 0 (lv_args 0 (.ref 93 :: [.int (xs (i + 1)), .int (xs (i + 2))])) [] M1 (some (.int v2)) M2) (hv : v1 = v2) (K : yRF (zFF L xs) 166 1068 [(3, .int (nI i)), (2, .ref 93), (1, .ref 0), (0, .retAddr 3)] [] M2 Q) : yRF (zFF L xs) 166 413 [(3, .int (nI i)), (2, .ref 93), (1, .ref 0), (0, .retAddr 3)] [] M Q := by
  refine yRF.adv 5 (pc' := 418) (lv' := [(3, .int (nI i)), (2, .ref 93), (1, .ref 0), (0, .retAddr 3)]) (st' := [.int (nI i + 1), .retAddr 3, .ref 0]) (M' := M) rfl ?_
  refine yRF.sld (i + 1) _ _ _ rfl hL (nI_add i 1) (by omega) ?_
  show yRF (zFF L xs) 166 419 [(3, .int (nI i)), (2, .ref 93), (1, .ref 0), (0, .retAddr 3)] [.int (xs (i + 1)), .ref 0] M _
  refine yRF.adv 4 (pc' := 423) (lv' := [(3, .int (nI i)), (2, .ref 93), (1, .ref 0), (0, .retAddr 3)]) (st' := [.int (nI i + 2), .retAddr 3, .int (xs (i + 1)), .ref 0]) (M' := M) rfl ?_
  refine yRF.sld (i + 2) _ _ _ rfl hL (nI_add i 2) (by omega) ?_
  show yRF (zFF L xs) 166 424 [(3, .int (nI i)), (2, .ref 93), (1, .ref 0), (0, .retAddr 3)] [.int (xs (i + 2)), .int (xs (i + 1)), .ref 0] M _
  refine yRF.call (zFF_le L xs) _ rfl rfl rfl rfl rfl h1 ?_
  show yRF (zFF L xs) 166 427 [(3, .int (nI i)), (2, .ref 93), (1, .ref 0), (0, .retAddr 3)] [.int v1] M1 _
  refine yRF.adv 5 (pc' := 432) (lv' := [(3, .int (nI i)), (2, .ref 93), (1, .ref 0), (0, .retAddr 3)]) (st' := [.int (nI i + 1), .retAddr 3, .ref 93, .int v1]) (M' := M1) rfl ?_
  refine yRF.sld (i + 1) _ _ _ rfl hL (nI_add i 1) (by omega) ?_
  show yRF (zFF L xs) 166 433 [(3, .int (nI i)), (2, .ref 93), (1, .ref 0), (0, .retAddr 3)] [.int (xs (i + 1)), .ref 93, .int v1] M1 _
  refine yRF.adv 4 (pc' := 437) (lv' := [(3, .int (nI i)), (2, .ref 93), (1, .ref 0), (0, .retAddr 3)]) (st' := [.int (nI i + 2), .retAddr 3, .int (xs (i + 1)), .ref 93, .int v1]) (M' := M1) rfl ?_
  refine yRF.sld (i + 2) _ _ _ rfl hL (nI_add i 2) (by omega) ?_
  show yRF (zFF L xs) 166 438 [(3, .int (nI i)), (2, .ref 93), (1, .ref 0), (0, .retAddr 3)] [.int (xs (i + 2)), .int (xs (i + 1)), .ref 93, .int v1] M1 _
  refine yRF.call (zFF_le L xs) _ rfl rfl rfl rfl rfl h2 ?_
  show yRF (zFF L xs) 166 441 [(3, .int (nI i)), (2, .ref 93), (1, .ref 0), (0, .retAddr 3)] [.int v2, .int v1] M2 _
  refine yRF.if2 .eq _ _ _ _ rfl (fun q => ?_) (fun q => absurd hv (zeq_f q))
  exact K
theorem zlw_7 {Q : Option Value → zMm → Prop} {L : Nat} {xs : Nat → Int32} {i : Nat} {M M1 M2 : zMm} {v1 v2 : Int64} (hL : L < 2 ^ 31) (hi : i + 5 ≤ L) (h1 : yOk 45 0 (lv_args 0 (.ref 0 :: [.int (xs (i + 1)), .int (xs (i + 2)), .int (xs (i + 3))])) [] M (some (.long v1)) M1) (h2 : yOk 116 0 (lv_args 0 (.ref 93 :: [.int (xs (i + 1)), .int (xs (i + 2)), .int (xs (i + 3))])) [] M1 (some (.long v2)) M2) (hv : v1 = v2) (K : yRF (zFF L xs) 166 1068 [(3, .int (nI i)), (2, .ref 93), (1, .ref 0), (0, .retAddr 3)] [] M2 Q) : yRF (zFF L xs) 166 446 [(3, .int (nI i)), (2, .ref 93), (1, .ref 0), (0, .retAddr 3)] [] M Q := by
  refine yRF.adv 5 (pc' := 451) (lv' := [(3, .int (nI i)), (2, .ref 93), (1, .ref 0), (0, .retAddr 3)]) (st' := [.int (nI i + 1), .retAddr 3, .ref 0]) (M' := M) rfl ?_
  refine yRF.sld (i + 1) _ _ _ rfl hL (nI_add i 1) (by omega) ?_
  show yRF (zFF L xs) 166 452 [(3, .int (nI i)), (2, .ref 93), (1, .ref 0), (0, .retAddr 3)] [.int (xs (i + 1)), .ref 0] M _
  refine yRF.adv 4 (pc' := 456) (lv' := [(3, .int (nI i)), (2, .ref 93), (1, .ref 0), (0, .retAddr 3)]) (st' := [.int (nI i + 2), .retAddr 3, .int (xs (i + 1)), .ref 0]) (M' := M) rfl ?_
  refine yRF.sld (i + 2) _ _ _ rfl hL (nI_add i 2) (by omega) ?_
  show yRF (zFF L xs) 166 457 [(3, .int (nI i)), (2, .ref 93), (1, .ref 0), (0, .retAddr 3)] [.int (xs (i + 2)), .int (xs (i + 1)), .ref 0] M _
  refine yRF.adv 4 (pc' := 461) (lv' := [(3, .int (nI i)), (2, .ref 93), (1, .ref 0), (0, .retAddr 3)]) (st' := [.int (nI i + 3), .retAddr 3, .int (xs (i + 2)), .int (xs (i + 1)), .ref 0]) (M' := M) rfl ?_
  refine yRF.sld (i + 3) _ _ _ rfl hL (nI_add i 3) (by omega) ?_
  show yRF (zFF L xs) 166 462 [(3, .int (nI i)), (2, .ref 93), (1, .ref 0), (0, .retAddr 3)] [.int (xs (i + 3)), .int (xs (i + 2)), .int (xs (i + 1)), .ref 0] M _
  refine yRF.call (zFF_le L xs) _ rfl rfl rfl rfl rfl h1 ?_
  show yRF (zFF L xs) 166 465 [(3, .int (nI i)), (2, .ref 93), (1, .ref 0), (0, .retAddr 3)] [.long v1] M1 _
  refine yRF.adv 5 (pc' := 470) (lv' := [(3, .int (nI i)), (2, .ref 93), (1, .ref 0), (0, .retAddr 3)]) (st' := [.int (nI i + 1), .retAddr 3, .ref 93, .long v1]) (M' := M1) rfl ?_
  refine yRF.sld (i + 1) _ _ _ rfl hL (nI_add i 1) (by omega) ?_
  show yRF (zFF L xs) 166 471 [(3, .int (nI i)), (2, .ref 93), (1, .ref 0), (0, .retAddr 3)] [.int (xs (i + 1)), .ref 93, .long v1] M1 _
  refine yRF.adv 4 (pc' := 475) (lv' := [(3, .int (nI i)), (2, .ref 93), (1, .ref 0), (0, .retAddr 3)]) (st' := [.int (nI i + 2), .retAddr 3, .int (xs (i + 1)), .ref 93, .long v1]) (M' := M1) rfl ?_
  refine yRF.sld (i + 2) _ _ _ rfl hL (nI_add i 2) (by omega) ?_
  show yRF (zFF L xs) 166 476 [(3, .int (nI i)), (2, .ref 93), (1, .ref 0), (0, .retAddr 3)] [.int (xs (i + 2)), .int (xs (i + 1)), .ref 93, .long v1] M1 _
  refine yRF.adv 4 (pc' := 480) (lv' := [(3, .int (nI i)), (2, .ref 93), (1, .ref 0), (0, .retAddr 3)]) (st' := [.int (nI i + 3), .retAddr 3, .int (xs (i + 2)), .int (xs (i + 1)), .ref 93, .long v1]) (M' := M1) rfl ?_
  refine yRF.sld (i + 3) _ _ _ rfl hL (nI_add i 3) (by omega) ?_
  show yRF (zFF L xs) 166 481 [(3, .int (nI i)), (2, .ref 93), (1, .ref 0), (0, .retAddr 3)] [.int (xs (i + 3)), .int (xs (i + 2)), .int (xs (i + 1)), .ref 93, .long v1] M1 _
  refine yRF.call (zFF_le L xs) _ rfl rfl rfl rfl rfl h2 ?_
  show yRF (zFF L xs) 166 484 [(3, .int (nI i)), (2, .ref 93), (1, .ref 0), (0, .retAddr 3)] [.long v2, .long v1] M2 _
  refine yRF.adv 1 (pc' := 485) (lv' := [(3, .int (nI i)), (2, .ref 93), (1, .ref 0), (0, .retAddr 3)]) (st' := [.int (lg_cmp v1 v2)]) (M' := M2) rfl ?_
  refine yRF.if1 .eq _ _ _ _ rfl (fun q => ?_) (fun q => absurd (congrArg Int64.toInt hv) (zlF q rfl rfl))
  exact K
theorem zlw_8 {Q : Option Value → zMm → Prop} {L : Nat} {xs : Nat → Int32} {i : Nat} {M M1 M2 : zMm} {v1 v2 : Int64} (hL : L < 2 ^ 31) (hi : i + 5 ≤ L) (h1 : yOk 46 0 (lv_args 0 (.ref 0 :: [.int (xs (i + 1)), .int (xs (i + 2)), .int (xs (i + 3))])) [] M (some (.long v1)) M1) (h2 : yOk 117 0 (lv_args 0 (.ref 93 :: [.int (xs (i + 1)), .int (xs (i + 2)), .int (xs (i + 3))])) [] M1 (some (.long v2)) M2) (hv : v1 = v2) (K : yRF (zFF L xs) 166 1068 [(3, .int (nI i)), (2, .ref 93), (1, .ref 0), (0, .retAddr 3)] [] M2 Q) : yRF (zFF L xs) 166 490 [(3, .int (nI i)), (2, .ref 93), (1, .ref 0), (0, .retAddr 3)] [] M Q := by
  refine yRF.adv 5 (pc' := 495) (lv' := [(3, .int (nI i)), (2, .ref 93), (1, .ref 0), (0, .retAddr 3)]) (st' := [.int (nI i + 1), .retAddr 3, .ref 0]) (M' := M) rfl ?_
  refine yRF.sld (i + 1) _ _ _ rfl hL (nI_add i 1) (by omega) ?_
  show yRF (zFF L xs) 166 496 [(3, .int (nI i)), (2, .ref 93), (1, .ref 0), (0, .retAddr 3)] [.int (xs (i + 1)), .ref 0] M _
  refine yRF.adv 4 (pc' := 500) (lv' := [(3, .int (nI i)), (2, .ref 93), (1, .ref 0), (0, .retAddr 3)]) (st' := [.int (nI i + 2), .retAddr 3, .int (xs (i + 1)), .ref 0]) (M' := M) rfl ?_
  refine yRF.sld (i + 2) _ _ _ rfl hL (nI_add i 2) (by omega) ?_
  show yRF (zFF L xs) 166 501 [(3, .int (nI i)), (2, .ref 93), (1, .ref 0), (0, .retAddr 3)] [.int (xs (i + 2)), .int (xs (i + 1)), .ref 0] M _
  refine yRF.adv 4 (pc' := 505) (lv' := [(3, .int (nI i)), (2, .ref 93), (1, .ref 0), (0, .retAddr 3)]) (st' := [.int (nI i + 3), .retAddr 3, .int (xs (i + 2)), .int (xs (i + 1)), .ref 0]) (M' := M) rfl ?_
  refine yRF.sld (i + 3) _ _ _ rfl hL (nI_add i 3) (by omega) ?_
  show yRF (zFF L xs) 166 506 [(3, .int (nI i)), (2, .ref 93), (1, .ref 0), (0, .retAddr 3)] [.int (xs (i + 3)), .int (xs (i + 2)), .int (xs (i + 1)), .ref 0] M _
  refine yRF.call (zFF_le L xs) _ rfl rfl rfl rfl rfl h1 ?_
  show yRF (zFF L xs) 166 509 [(3, .int (nI i)), (2, .ref 93), (1, .ref 0), (0, .retAddr 3)] [.long v1] M1 _
  refine yRF.adv 5 (pc' := 514) (lv' := [(3, .int (nI i)), (2, .ref 93), (1, .ref 0), (0, .retAddr 3)]) (st' := [.int (nI i + 1), .retAddr 3, .ref 93, .long v1]) (M' := M1) rfl ?_
  refine yRF.sld (i + 1) _ _ _ rfl hL (nI_add i 1) (by omega) ?_
  show yRF (zFF L xs) 166 515 [(3, .int (nI i)), (2, .ref 93), (1, .ref 0), (0, .retAddr 3)] [.int (xs (i + 1)), .ref 93, .long v1] M1 _
  refine yRF.adv 4 (pc' := 519) (lv' := [(3, .int (nI i)), (2, .ref 93), (1, .ref 0), (0, .retAddr 3)]) (st' := [.int (nI i + 2), .retAddr 3, .int (xs (i + 1)), .ref 93, .long v1]) (M' := M1) rfl ?_
  refine yRF.sld (i + 2) _ _ _ rfl hL (nI_add i 2) (by omega) ?_
  show yRF (zFF L xs) 166 520 [(3, .int (nI i)), (2, .ref 93), (1, .ref 0), (0, .retAddr 3)] [.int (xs (i + 2)), .int (xs (i + 1)), .ref 93, .long v1] M1 _
  refine yRF.adv 4 (pc' := 524) (lv' := [(3, .int (nI i)), (2, .ref 93), (1, .ref 0), (0, .retAddr 3)]) (st' := [.int (nI i + 3), .retAddr 3, .int (xs (i + 2)), .int (xs (i + 1)), .ref 93, .long v1]) (M' := M1) rfl ?_
  refine yRF.sld (i + 3) _ _ _ rfl hL (nI_add i 3) (by omega) ?_
  show yRF (zFF L xs) 166 525 [(3, .int (nI i)), (2, .ref 93), (1, .ref 0), (0, .retAddr 3)] [.int (xs (i + 3)), .int (xs (i + 2)), .int (xs (i + 1)), .ref 93, .long v1] M1 _
  refine yRF.call (zFF_le L xs) _ rfl rfl rfl rfl rfl h2 ?_
  show yRF (zFF L xs) 166 528 [(3, .int (nI i)), (2, .ref 93), (1, .ref 0), (0, .retAddr 3)] [.long v2, .long v1] M2 _
  refine yRF.adv 1 (pc' := 529) (lv' := [(3, .int (nI i)), (2, .ref 93), (1, .ref 0), (0, .retAddr 3)]) (st' := [.int (lg_cmp v1 v2)]) (M' := M2) rfl ?_
  refine yRF.if1 .eq _ _ _ _ rfl (fun q => ?_) (fun q => absurd (congrArg Int64.toInt hv) (zlF q rfl rfl))
  exact K
theorem zlw_9 {Q : Option Value → zMm → Prop} {L : Nat} {xs : Nat → Int32} {i : Nat} {M M1 M2 : zMm} {v1 v2 : Int32} (hL : L < 2 ^ 31) (hi : i + 5 ≤ L) (h1 : yOk 47 0 (lv_args 0 (.ref 0 :: [])) [] M (some (.int v1)) M1) (h2 : yOk 134 0 (lv_args 0 (.ref 93 :: [])) [] M1 (some (.int v2)) M2) (hv : v1 = v2) (K : yRF (zFF L xs) 166 1068 [(3, .int (nI i)), (2, .ref 93), (1, .ref 0), (0, .retAddr 3)] [] M2 Q) : yRF (zFF L xs) 166 534 [(3, .int (nI i)), (2, .ref 93), (1, .ref 0), (0, .retAddr 3)] [] M Q := by
  refine yRF.adv 1 (pc' := 535) (lv' := [(3, .int (nI i)), (2, .ref 93), (1, .ref 0), (0, .retAddr 3)]) (st' := [.ref 0]) (M' := M) rfl ?_
  refine yRF.call (zFF_le L xs) _ rfl rfl rfl rfl rfl h1 ?_
  show yRF (zFF L xs) 166 538 [(3, .int (nI i)), (2, .ref 93), (1, .ref 0), (0, .retAddr 3)] [.int v1] M1 _
  refine yRF.adv 1 (pc' := 539) (lv' := [(3, .int (nI i)), (2, .ref 93), (1, .ref 0), (0, .retAddr 3)]) (st' := [.ref 93, .int v1]) (M' := M1) rfl ?_
  refine yRF.call (zFF_le L xs) _ rfl rfl rfl rfl rfl h2 ?_
  show yRF (zFF L xs) 166 542 [(3, .int (nI i)), (2, .ref 93), (1, .ref 0), (0, .retAddr 3)] [.int v2, .int v1] M2 _
  refine yRF.if2 .eq _ _ _ _ rfl (fun q => ?_) (fun q => absurd hv (zeq_f q))
  exact K
theorem zlw_10 {Q : Option Value → zMm → Prop} {L : Nat} {xs : Nat → Int32} {i : Nat} {M M1 M2 : zMm} {v1 v2 : Int32} (hL : L < 2 ^ 31) (hi : i + 5 ≤ L) (h1 : yOk 48 0 (lv_args 0 (.ref 0 :: [.int (xs (i + 1))])) [] M (some (.int v1)) M1) (h2 : yOk 135 0 (lv_args 0 (.ref 93 :: [.int (xs (i + 1))])) [] M1 (some (.int v2)) M2) (hv : v1 = v2) (K : yRF (zFF L xs) 166 1068 [(3, .int (nI i)), (2, .ref 93), (1, .ref 0), (0, .retAddr 3)] [] M2 Q) : yRF (zFF L xs) 166 547 [(3, .int (nI i)), (2, .ref 93), (1, .ref 0), (0, .retAddr 3)] [] M Q := by
  refine yRF.adv 5 (pc' := 552) (lv' := [(3, .int (nI i)), (2, .ref 93), (1, .ref 0), (0, .retAddr 3)]) (st' := [.int (nI i + 1), .retAddr 3, .ref 0]) (M' := M) rfl ?_
  refine yRF.sld (i + 1) _ _ _ rfl hL (nI_add i 1) (by omega) ?_
  show yRF (zFF L xs) 166 553 [(3, .int (nI i)), (2, .ref 93), (1, .ref 0), (0, .retAddr 3)] [.int (xs (i + 1)), .ref 0] M _
  refine yRF.call (zFF_le L xs) _ rfl rfl rfl rfl rfl h1 ?_
  show yRF (zFF L xs) 166 556 [(3, .int (nI i)), (2, .ref 93), (1, .ref 0), (0, .retAddr 3)] [.int v1] M1 _
  refine yRF.adv 5 (pc' := 561) (lv' := [(3, .int (nI i)), (2, .ref 93), (1, .ref 0), (0, .retAddr 3)]) (st' := [.int (nI i + 1), .retAddr 3, .ref 93, .int v1]) (M' := M1) rfl ?_
  refine yRF.sld (i + 1) _ _ _ rfl hL (nI_add i 1) (by omega) ?_
  show yRF (zFF L xs) 166 562 [(3, .int (nI i)), (2, .ref 93), (1, .ref 0), (0, .retAddr 3)] [.int (xs (i + 1)), .ref 93, .int v1] M1 _
  refine yRF.call (zFF_le L xs) _ rfl rfl rfl rfl rfl h2 ?_
  show yRF (zFF L xs) 166 565 [(3, .int (nI i)), (2, .ref 93), (1, .ref 0), (0, .retAddr 3)] [.int v2, .int v1] M2 _
  refine yRF.if2 .eq _ _ _ _ rfl (fun q => ?_) (fun q => absurd hv (zeq_f q))
  exact K
theorem zlw_11 {Q : Option Value → zMm → Prop} {L : Nat} {xs : Nat → Int32} {i : Nat} {M M1 M2 : zMm} {v1 v2 : Int32} (hL : L < 2 ^ 31) (hi : i + 5 ≤ L) (h1 : yOk 49 0 (lv_args 0 (.ref 0 :: [.int (xs (i + 1))])) [] M (some (.int v1)) M1) (h2 : yOk 137 0 (lv_args 0 (.ref 93 :: [.int (xs (i + 1))])) [] M1 (some (.int v2)) M2) (hv : v1 = v2) (K : yRF (zFF L xs) 166 1068 [(3, .int (nI i)), (2, .ref 93), (1, .ref 0), (0, .retAddr 3)] [] M2 Q) : yRF (zFF L xs) 166 570 [(3, .int (nI i)), (2, .ref 93), (1, .ref 0), (0, .retAddr 3)] [] M Q := by
  refine yRF.adv 5 (pc' := 575) (lv' := [(3, .int (nI i)), (2, .ref 93), (1, .ref 0), (0, .retAddr 3)]) (st' := [.int (nI i + 1), .retAddr 3, .ref 0]) (M' := M) rfl ?_
  refine yRF.sld (i + 1) _ _ _ rfl hL (nI_add i 1) (by omega) ?_
  show yRF (zFF L xs) 166 576 [(3, .int (nI i)), (2, .ref 93), (1, .ref 0), (0, .retAddr 3)] [.int (xs (i + 1)), .ref 0] M _
  refine yRF.call (zFF_le L xs) _ rfl rfl rfl rfl rfl h1 ?_
  show yRF (zFF L xs) 166 579 [(3, .int (nI i)), (2, .ref 93), (1, .ref 0), (0, .retAddr 3)] [.int v1] M1 _
  refine yRF.adv 5 (pc' := 584) (lv' := [(3, .int (nI i)), (2, .ref 93), (1, .ref 0), (0, .retAddr 3)]) (st' := [.int (nI i + 1), .retAddr 3, .ref 93, .int v1]) (M' := M1) rfl ?_
  refine yRF.sld (i + 1) _ _ _ rfl hL (nI_add i 1) (by omega) ?_
  show yRF (zFF L xs) 166 585 [(3, .int (nI i)), (2, .ref 93), (1, .ref 0), (0, .retAddr 3)] [.int (xs (i + 1)), .ref 93, .int v1] M1 _
  refine yRF.call (zFF_le L xs) _ rfl rfl rfl rfl rfl h2 ?_
  show yRF (zFF L xs) 166 588 [(3, .int (nI i)), (2, .ref 93), (1, .ref 0), (0, .retAddr 3)] [.int v2, .int v1] M2 _
  refine yRF.if2 .eq _ _ _ _ rfl (fun q => ?_) (fun q => absurd hv (zeq_f q))
  exact K
theorem zlw_12 {Q : Option Value → zMm → Prop} {L : Nat} {xs : Nat → Int32} {i : Nat} {M M1 M2 : zMm} {v1 v2 : Int32} (hL : L < 2 ^ 31) (hi : i + 5 ≤ L) (h1 : yOk 50 0 (lv_args 0 (.ref 0 :: [.int (xs (i + 1))])) [] M (some (.int v1)) M1) (h2 : yOk 138 0 (lv_args 0 (.ref 93 :: [.int (xs (i + 1))])) [] M1 (some (.int v2)) M2) (hv : v1 = v2) (K : yRF (zFF L xs) 166 1068 [(3, .int (nI i)), (2, .ref 93), (1, .ref 0), (0, .retAddr 3)] [] M2 Q) : yRF (zFF L xs) 166 593 [(3, .int (nI i)), (2, .ref 93), (1, .ref 0), (0, .retAddr 3)] [] M Q := by
  refine yRF.adv 5 (pc' := 598) (lv' := [(3, .int (nI i)), (2, .ref 93), (1, .ref 0), (0, .retAddr 3)]) (st' := [.int (nI i + 1), .retAddr 3, .ref 0]) (M' := M) rfl ?_
  refine yRF.sld (i + 1) _ _ _ rfl hL (nI_add i 1) (by omega) ?_
  show yRF (zFF L xs) 166 599 [(3, .int (nI i)), (2, .ref 93), (1, .ref 0), (0, .retAddr 3)] [.int (xs (i + 1)), .ref 0] M _
  refine yRF.call (zFF_le L xs) _ rfl rfl rfl rfl rfl h1 ?_
  show yRF (zFF L xs) 166 602 [(3, .int (nI i)), (2, .ref 93), (1, .ref 0), (0, .retAddr 3)] [.int v1] M1 _
  refine yRF.adv 5 (pc' := 607) (lv' := [(3, .int (nI i)), (2, .ref 93), (1, .ref 0), (0, .retAddr 3)]) (st' := [.int (nI i + 1), .retAddr 3, .ref 93, .int v1]) (M' := M1) rfl ?_
  refine yRF.sld (i + 1) _ _ _ rfl hL (nI_add i 1) (by omega) ?_
  show yRF (zFF L xs) 166 608 [(3, .int (nI i)), (2, .ref 93), (1, .ref 0), (0, .retAddr 3)] [.int (xs (i + 1)), .ref 93, .int v1] M1 _
  refine yRF.call (zFF_le L xs) _ rfl rfl rfl rfl rfl h2 ?_
  show yRF (zFF L xs) 166 611 [(3, .int (nI i)), (2, .ref 93), (1, .ref 0), (0, .retAddr 3)] [.int v2, .int v1] M2 _
  refine yRF.if2 .eq _ _ _ _ rfl (fun q => ?_) (fun q => absurd hv (zeq_f q))
  exact K
theorem zlw_13 {Q : Option Value → zMm → Prop} {L : Nat} {xs : Nat → Int32} {i : Nat} {M M1 M2 : zMm} {v1 v2 : Int32} (hL : L < 2 ^ 31) (hi : i + 5 ≤ L) (h1 : yOk 51 0 (lv_args 0 (.ref 0 :: [.int (xs (i + 1))])) [] M (some (.int v1)) M1) (h2 : yOk 139 0 (lv_args 0 (.ref 93 :: [.int (xs (i + 1))])) [] M1 (some (.int v2)) M2) (hv : v1 = v2) (K : yRF (zFF L xs) 166 1068 [(3, .int (nI i)), (2, .ref 93), (1, .ref 0), (0, .retAddr 3)] [] M2 Q) : yRF (zFF L xs) 166 616 [(3, .int (nI i)), (2, .ref 93), (1, .ref 0), (0, .retAddr 3)] [] M Q := by
  refine yRF.adv 5 (pc' := 621) (lv' := [(3, .int (nI i)), (2, .ref 93), (1, .ref 0), (0, .retAddr 3)]) (st' := [.int (nI i + 1), .retAddr 3, .ref 0]) (M' := M) rfl ?_
  refine yRF.sld (i + 1) _ _ _ rfl hL (nI_add i 1) (by omega) ?_
  show yRF (zFF L xs) 166 622 [(3, .int (nI i)), (2, .ref 93), (1, .ref 0), (0, .retAddr 3)] [.int (xs (i + 1)), .ref 0] M _
  refine yRF.call (zFF_le L xs) _ rfl rfl rfl rfl rfl h1 ?_
  show yRF (zFF L xs) 166 625 [(3, .int (nI i)), (2, .ref 93), (1, .ref 0), (0, .retAddr 3)] [.int v1] M1 _
  refine yRF.adv 5 (pc' := 630) (lv' := [(3, .int (nI i)), (2, .ref 93), (1, .ref 0), (0, .retAddr 3)]) (st' := [.int (nI i + 1), .retAddr 3, .ref 93, .int v1]) (M' := M1) rfl ?_
  refine yRF.sld (i + 1) _ _ _ rfl hL (nI_add i 1) (by omega) ?_
  show yRF (zFF L xs) 166 631 [(3, .int (nI i)), (2, .ref 93), (1, .ref 0), (0, .retAddr 3)] [.int (xs (i + 1)), .ref 93, .int v1] M1 _
  refine yRF.call (zFF_le L xs) _ rfl rfl rfl rfl rfl h2 ?_
  show yRF (zFF L xs) 166 634 [(3, .int (nI i)), (2, .ref 93), (1, .ref 0), (0, .retAddr 3)] [.int v2, .int v1] M2 _
  refine yRF.if2 .eq _ _ _ _ rfl (fun q => ?_) (fun q => absurd hv (zeq_f q))
  exact K
theorem zlw_14 {Q : Option Value → zMm → Prop} {L : Nat} {xs : Nat → Int32} {i : Nat} {M M1 M2 : zMm} {v1 v2 : Int32} (hL : L < 2 ^ 31) (hi : i + 5 ≤ L) (h1 : yOk 52 0 (lv_args 0 (.ref 0 :: [.int (xs (i + 1))])) [] M (some (.int v1)) M1) (h2 : yOk 140 0 (lv_args 0 (.ref 93 :: [.int (xs (i + 1))])) [] M1 (some (.int v2)) M2) (hv : v1 = v2) (K : yRF (zFF L xs) 166 1068 [(3, .int (nI i)), (2, .ref 93), (1, .ref 0), (0, .retAddr 3)] [] M2 Q) : yRF (zFF L xs) 166 639 [(3, .int (nI i)), (2, .ref 93), (1, .ref 0), (0, .retAddr 3)] [] M Q := by
  refine yRF.adv 5 (pc' := 644) (lv' := [(3, .int (nI i)), (2, .ref 93), (1, .ref 0), (0, .retAddr 3)]) (st' := [.int (nI i + 1), .retAddr 3, .ref 0]) (M' := M) rfl ?_
  refine yRF.sld (i + 1) _ _ _ rfl hL (nI_add i 1) (by omega) ?_
  show yRF (zFF L xs) 166 645 [(3, .int (nI i)), (2, .ref 93), (1, .ref 0), (0, .retAddr 3)] [.int (xs (i + 1)), .ref 0] M _
  refine yRF.call (zFF_le L xs) _ rfl rfl rfl rfl rfl h1 ?_
  show yRF (zFF L xs) 166 648 [(3, .int (nI i)), (2, .ref 93), (1, .ref 0), (0, .retAddr 3)] [.int v1] M1 _
  refine yRF.adv 5 (pc' := 653) (lv' := [(3, .int (nI i)), (2, .ref 93), (1, .ref 0), (0, .retAddr 3)]) (st' := [.int (nI i + 1), .retAddr 3, .ref 93, .int v1]) (M' := M1) rfl ?_
  refine yRF.sld (i + 1) _ _ _ rfl hL (nI_add i 1) (by omega) ?_
  show yRF (zFF L xs) 166 654 [(3, .int (nI i)), (2, .ref 93), (1, .ref 0), (0, .retAddr 3)] [.int (xs (i + 1)), .ref 93, .int v1] M1 _
  refine yRF.call (zFF_le L xs) _ rfl rfl rfl rfl rfl h2 ?_
  show yRF (zFF L xs) 166 657 [(3, .int (nI i)), (2, .ref 93), (1, .ref 0), (0, .retAddr 3)] [.int v2, .int v1] M2 _
  refine yRF.if2 .eq _ _ _ _ rfl (fun q => ?_) (fun q => absurd hv (zeq_f q))
  exact K
theorem zlw_15 {Q : Option Value → zMm → Prop} {L : Nat} {xs : Nat → Int32} {i : Nat} {M M1 M2 : zMm} {v1 v2 : Int32} (hL : L < 2 ^ 31) (hi : i + 5 ≤ L) (h1 : yOk 53 0 (lv_args 0 (.ref 0 :: [.int (xs (i + 1)), .int (xs (i + 2))])) [] M (some (.int v1)) M1) (h2 : yOk 147 0 (lv_args 0 (.ref 93 :: [.int (xs (i + 1)), .int (xs (i + 2))])) [] M1 (some (.int v2)) M2) (hv : v1 = v2) (K : yRF (zFF L xs) 166 1068 [(3, .int (nI i)), (2, .ref 93), (1, .ref 0), (0, .retAddr 3)] [] M2 Q) : yRF (zFF L xs) 166 662 [(3, .int (nI i)), (2, .ref 93), (1, .ref 0), (0, .retAddr 3)] [] M Q := by
  refine yRF.adv 5 (pc' := 667) (lv' := [(3, .int (nI i)), (2, .ref 93), (1, .ref 0), (0, .retAddr 3)]) (st' := [.int (nI i + 1), .retAddr 3, .ref 0]) (M' := M) rfl ?_
  refine yRF.sld (i + 1) _ _ _ rfl hL (nI_add i 1) (by omega) ?_
  show yRF (zFF L xs) 166 668 [(3, .int (nI i)), (2, .ref 93), (1, .ref 0), (0, .retAddr 3)] [.int (xs (i + 1)), .ref 0] M _
  refine yRF.adv 4 (pc' := 672) (lv' := [(3, .int (nI i)), (2, .ref 93), (1, .ref 0), (0, .retAddr 3)]) (st' := [.int (nI i + 2), .retAddr 3, .int (xs (i + 1)), .ref 0]) (M' := M) rfl ?_
  refine yRF.sld (i + 2) _ _ _ rfl hL (nI_add i 2) (by omega) ?_
  show yRF (zFF L xs) 166 673 [(3, .int (nI i)), (2, .ref 93), (1, .ref 0), (0, .retAddr 3)] [.int (xs (i + 2)), .int (xs (i + 1)), .ref 0] M _
  refine yRF.call (zFF_le L xs) _ rfl rfl rfl rfl rfl h1 ?_
  show yRF (zFF L xs) 166 676 [(3, .int (nI i)), (2, .ref 93), (1, .ref 0), (0, .retAddr 3)] [.int v1] M1 _
  refine yRF.adv 5 (pc' := 681) (lv' := [(3, .int (nI i)), (2, .ref 93), (1, .ref 0), (0, .retAddr 3)]) (st' := [.int (nI i + 1), .retAddr 3, .ref 93, .int v1]) (M' := M1) rfl ?_
  refine yRF.sld (i + 1) _ _ _ rfl hL (nI_add i 1) (by omega) ?_
  show yRF (zFF L xs) 166 682 [(3, .int (nI i)), (2, .ref 93), (1, .ref 0), (0, .retAddr 3)] [.int (xs (i + 1)), .ref 93, .int v1] M1 _
  refine yRF.adv 4 (pc' := 686) (lv' := [(3, .int (nI i)), (2, .ref 93), (1, .ref 0), (0, .retAddr 3)]) (st' := [.int (nI i + 2), .retAddr 3, .int (xs (i + 1)), .ref 93, .int v1]) (M' := M1) rfl ?_
  refine yRF.sld (i + 2) _ _ _ rfl hL (nI_add i 2) (by omega) ?_
  show yRF (zFF L xs) 166 687 [(3, .int (nI i)), (2, .ref 93), (1, .ref 0), (0, .retAddr 3)] [.int (xs (i + 2)), .int (xs (i + 1)), .ref 93, .int v1] M1 _
  refine yRF.call (zFF_le L xs) _ rfl rfl rfl rfl rfl h2 ?_
  show yRF (zFF L xs) 166 690 [(3, .int (nI i)), (2, .ref 93), (1, .ref 0), (0, .retAddr 3)] [.int v2, .int v1] M2 _
  refine yRF.if2 .eq _ _ _ _ rfl (fun q => ?_) (fun q => absurd hv (zeq_f q))
  exact K
theorem zlw_16 {Q : Option Value → zMm → Prop} {L : Nat} {xs : Nat → Int32} {i : Nat} {M M1 M2 : zMm} {v1 v2 : Int64} (hL : L < 2 ^ 31) (hi : i + 5 ≤ L) (h1 : yOk 54 0 (lv_args 0 (.ref 0 :: [.int (xs (i + 1)), .int (xs (i + 2))])) [] M (some (.long v1)) M1) (h2 : yOk 148 0 (lv_args 0 (.ref 93 :: [.int (xs (i + 1)), .int (xs (i + 2))])) [] M1 (some (.long v2)) M2) (hv : v1 = v2) (K : yRF (zFF L xs) 166 1068 [(3, .int (nI i)), (2, .ref 93), (1, .ref 0), (0, .retAddr 3)] [] M2 Q) : yRF (zFF L xs) 166 695 [(3, .int (nI i)), (2, .ref 93), (1, .ref 0), (0, .retAddr 3)] [] M Q := by
  refine yRF.adv 5 (pc' := 700) (lv' := [(3, .int (nI i)), (2, .ref 93), (1, .ref 0), (0, .retAddr 3)]) (st' := [.int (nI i + 1), .retAddr 3, .ref 0]) (M' := M) rfl ?_
  refine yRF.sld (i + 1) _ _ _ rfl hL (nI_add i 1) (by omega) ?_
  show yRF (zFF L xs) 166 701 [(3, .int (nI i)), (2, .ref 93), (1, .ref 0), (0, .retAddr 3)] [.int (xs (i + 1)), .ref 0] M _
  refine yRF.adv 4 (pc' := 705) (lv' := [(3, .int (nI i)), (2, .ref 93), (1, .ref 0), (0, .retAddr 3)]) (st' := [.int (nI i + 2), .retAddr 3, .int (xs (i + 1)), .ref 0]) (M' := M) rfl ?_
  refine yRF.sld (i + 2) _ _ _ rfl hL (nI_add i 2) (by omega) ?_
  show yRF (zFF L xs) 166 706 [(3, .int (nI i)), (2, .ref 93), (1, .ref 0), (0, .retAddr 3)] [.int (xs (i + 2)), .int (xs (i + 1)), .ref 0] M _
  refine yRF.call (zFF_le L xs) _ rfl rfl rfl rfl rfl h1 ?_
  show yRF (zFF L xs) 166 709 [(3, .int (nI i)), (2, .ref 93), (1, .ref 0), (0, .retAddr 3)] [.long v1] M1 _
  refine yRF.adv 5 (pc' := 714) (lv' := [(3, .int (nI i)), (2, .ref 93), (1, .ref 0), (0, .retAddr 3)]) (st' := [.int (nI i + 1), .retAddr 3, .ref 93, .long v1]) (M' := M1) rfl ?_
  refine yRF.sld (i + 1) _ _ _ rfl hL (nI_add i 1) (by omega) ?_
  show yRF (zFF L xs) 166 715 [(3, .int (nI i)), (2, .ref 93), (1, .ref 0), (0, .retAddr 3)] [.int (xs (i + 1)), .ref 93, .long v1] M1 _
  refine yRF.adv 4 (pc' := 719) (lv' := [(3, .int (nI i)), (2, .ref 93), (1, .ref 0), (0, .retAddr 3)]) (st' := [.int (nI i + 2), .retAddr 3, .int (xs (i + 1)), .ref 93, .long v1]) (M' := M1) rfl ?_
  refine yRF.sld (i + 2) _ _ _ rfl hL (nI_add i 2) (by omega) ?_
  show yRF (zFF L xs) 166 720 [(3, .int (nI i)), (2, .ref 93), (1, .ref 0), (0, .retAddr 3)] [.int (xs (i + 2)), .int (xs (i + 1)), .ref 93, .long v1] M1 _
  refine yRF.call (zFF_le L xs) _ rfl rfl rfl rfl rfl h2 ?_
  show yRF (zFF L xs) 166 723 [(3, .int (nI i)), (2, .ref 93), (1, .ref 0), (0, .retAddr 3)] [.long v2, .long v1] M2 _
  refine yRF.adv 1 (pc' := 724) (lv' := [(3, .int (nI i)), (2, .ref 93), (1, .ref 0), (0, .retAddr 3)]) (st' := [.int (lg_cmp v1 v2)]) (M' := M2) rfl ?_
  refine yRF.if1 .eq _ _ _ _ rfl (fun q => ?_) (fun q => absurd (congrArg Int64.toInt hv) (zlF q rfl rfl))
  exact K
theorem zlw_17 {Q : Option Value → zMm → Prop} {L : Nat} {xs : Nat → Int32} {i : Nat} {M M1 M2 : zMm} {v1 v2 : Int64} (hL : L < 2 ^ 31) (hi : i + 5 ≤ L) (h1 : yOk 55 0 (lv_args 0 (.ref 0 :: [.int (xs (i + 1))])) [] M (some (.long v1)) M1) (h2 : yOk 150 0 (lv_args 0 (.ref 93 :: [.int (xs (i + 1))])) [] M1 (some (.long v2)) M2) (hv : v1 = v2) (K : yRF (zFF L xs) 166 1068 [(3, .int (nI i)), (2, .ref 93), (1, .ref 0), (0, .retAddr 3)] [] M2 Q) : yRF (zFF L xs) 166 729 [(3, .int (nI i)), (2, .ref 93), (1, .ref 0), (0, .retAddr 3)] [] M Q := by
  refine yRF.adv 5 (pc' := 734) (lv' := [(3, .int (nI i)), (2, .ref 93), (1, .ref 0), (0, .retAddr 3)]) (st' := [.int (nI i + 1), .retAddr 3, .ref 0]) (M' := M) rfl ?_
  refine yRF.sld (i + 1) _ _ _ rfl hL (nI_add i 1) (by omega) ?_
  show yRF (zFF L xs) 166 735 [(3, .int (nI i)), (2, .ref 93), (1, .ref 0), (0, .retAddr 3)] [.int (xs (i + 1)), .ref 0] M _
  refine yRF.call (zFF_le L xs) _ rfl rfl rfl rfl rfl h1 ?_
  show yRF (zFF L xs) 166 738 [(3, .int (nI i)), (2, .ref 93), (1, .ref 0), (0, .retAddr 3)] [.long v1] M1 _
  refine yRF.adv 5 (pc' := 743) (lv' := [(3, .int (nI i)), (2, .ref 93), (1, .ref 0), (0, .retAddr 3)]) (st' := [.int (nI i + 1), .retAddr 3, .ref 93, .long v1]) (M' := M1) rfl ?_
  refine yRF.sld (i + 1) _ _ _ rfl hL (nI_add i 1) (by omega) ?_
  show yRF (zFF L xs) 166 744 [(3, .int (nI i)), (2, .ref 93), (1, .ref 0), (0, .retAddr 3)] [.int (xs (i + 1)), .ref 93, .long v1] M1 _
  refine yRF.call (zFF_le L xs) _ rfl rfl rfl rfl rfl h2 ?_
  show yRF (zFF L xs) 166 747 [(3, .int (nI i)), (2, .ref 93), (1, .ref 0), (0, .retAddr 3)] [.long v2, .long v1] M2 _
  refine yRF.adv 1 (pc' := 748) (lv' := [(3, .int (nI i)), (2, .ref 93), (1, .ref 0), (0, .retAddr 3)]) (st' := [.int (lg_cmp v1 v2)]) (M' := M2) rfl ?_
  refine yRF.if1 .eq _ _ _ _ rfl (fun q => ?_) (fun q => absurd (congrArg Int64.toInt hv) (zlF q rfl rfl))
  exact K
theorem zlw_18 {Q : Option Value → zMm → Prop} {L : Nat} {xs : Nat → Int32} {i : Nat} {M M1 M2 : zMm} {v1 v2 : Int64} (hL : L < 2 ^ 31) (hi : i + 5 ≤ L) (h1 : yOk 56 0 (lv_args 0 (.ref 0 :: [.int (xs (i + 1)), .int (xs (i + 2))])) [] M (some (.long v1)) M1) (h2 : yOk 152 0 (lv_args 0 (.ref 93 :: [.int (xs (i + 1)), .int (xs (i + 2))])) [] M1 (some (.long v2)) M2) (hv : v1 = v2) (K : yRF (zFF L xs) 166 1068 [(3, .int (nI i)), (2, .ref 93), (1, .ref 0), (0, .retAddr 3)] [] M2 Q) : yRF (zFF L xs) 166 753 [(3, .int (nI i)), (2, .ref 93), (1, .ref 0), (0, .retAddr 3)] [] M Q := by
  refine yRF.adv 5 (pc' := 758) (lv' := [(3, .int (nI i)), (2, .ref 93), (1, .ref 0), (0, .retAddr 3)]) (st' := [.int (nI i + 1), .retAddr 3, .ref 0]) (M' := M) rfl ?_
  refine yRF.sld (i + 1) _ _ _ rfl hL (nI_add i 1) (by omega) ?_
  show yRF (zFF L xs) 166 759 [(3, .int (nI i)), (2, .ref 93), (1, .ref 0), (0, .retAddr 3)] [.int (xs (i + 1)), .ref 0] M _
  refine yRF.adv 4 (pc' := 763) (lv' := [(3, .int (nI i)), (2, .ref 93), (1, .ref 0), (0, .retAddr 3)]) (st' := [.int (nI i + 2), .retAddr 3, .int (xs (i + 1)), .ref 0]) (M' := M) rfl ?_
  refine yRF.sld (i + 2) _ _ _ rfl hL (nI_add i 2) (by omega) ?_
  show yRF (zFF L xs) 166 764 [(3, .int (nI i)), (2, .ref 93), (1, .ref 0), (0, .retAddr 3)] [.int (xs (i + 2)), .int (xs (i + 1)), .ref 0] M _
  refine yRF.call (zFF_le L xs) _ rfl rfl rfl rfl rfl h1 ?_
  show yRF (zFF L xs) 166 767 [(3, .int (nI i)), (2, .ref 93), (1, .ref 0), (0, .retAddr 3)] [.long v1] M1 _
  refine yRF.adv 5 (pc' := 772) (lv' := [(3, .int (nI i)), (2, .ref 93), (1, .ref 0), (0, .retAddr 3)]) (st' := [.int (nI i + 1), .retAddr 3, .ref 93, .long v1]) (M' := M1) rfl ?_
  refine yRF.sld (i + 1) _ _ _ rfl hL (nI_add i 1) (by omega) ?_
  show yRF (zFF L xs) 166 773 [(3, .int (nI i)), (2, .ref 93), (1, .ref 0), (0, .retAddr 3)] [.int (xs (i + 1)), .ref 93, .long v1] M1 _
  refine yRF.adv 4 (pc' := 777) (lv' := [(3, .int (nI i)), (2, .ref 93), (1, .ref 0), (0, .retAddr 3)]) (st' := [.int (nI i + 2), .retAddr 3, .int (xs (i + 1)), .ref 93, .long v1]) (M' := M1) rfl ?_
  refine yRF.sld (i + 2) _ _ _ rfl hL (nI_add i 2) (by omega) ?_
  show yRF (zFF L xs) 166 778 [(3, .int (nI i)), (2, .ref 93), (1, .ref 0), (0, .retAddr 3)] [.int (xs (i + 2)), .int (xs (i + 1)), .ref 93, .long v1] M1 _
  refine yRF.call (zFF_le L xs) _ rfl rfl rfl rfl rfl h2 ?_
  show yRF (zFF L xs) 166 781 [(3, .int (nI i)), (2, .ref 93), (1, .ref 0), (0, .retAddr 3)] [.long v2, .long v1] M2 _
  refine yRF.adv 1 (pc' := 782) (lv' := [(3, .int (nI i)), (2, .ref 93), (1, .ref 0), (0, .retAddr 3)]) (st' := [.int (lg_cmp v1 v2)]) (M' := M2) rfl ?_
  refine yRF.if1 .eq _ _ _ _ rfl (fun q => ?_) (fun q => absurd (congrArg Int64.toInt hv) (zlF q rfl rfl))
  exact K
theorem zlw_19 {Q : Option Value → zMm → Prop} {L : Nat} {xs : Nat → Int32} {i : Nat} {M M1 M2 : zMm} {v1 v2 : Int32} (hL : L < 2 ^ 31) (hi : i + 5 ≤ L) (h1 : yOk 57 0 (lv_args 0 (.ref 0 :: [.int (xs (i + 1)), .int (xs (i + 2)), .int (xs (i + 3))])) [] M (some (.int v1)) M1) (h2 : yOk 153 0 (lv_args 0 (.ref 93 :: [.int (xs (i + 1)), .int (xs (i + 2)), .int (xs (i + 3))])) [] M1 (some (.int v2)) M2) (hv : v1 = v2) (K : yRF (zFF L xs) 166 1068 [(3, .int (nI i)), (2, .ref 93), (1, .ref 0), (0, .retAddr 3)] [] M2 Q) : yRF (zFF L xs) 166 787 [(3, .int (nI i)), (2, .ref 93), (1, .ref 0), (0, .retAddr 3)] [] M Q := by
  refine yRF.adv 5 (pc' := 792) (lv' := [(3, .int (nI i)), (2, .ref 93), (1, .ref 0), (0, .retAddr 3)]) (st' := [.int (nI i + 1), .retAddr 3, .ref 0]) (M' := M) rfl ?_
  refine yRF.sld (i + 1) _ _ _ rfl hL (nI_add i 1) (by omega) ?_
  show yRF (zFF L xs) 166 793 [(3, .int (nI i)), (2, .ref 93), (1, .ref 0), (0, .retAddr 3)] [.int (xs (i + 1)), .ref 0] M _
  refine yRF.adv 4 (pc' := 797) (lv' := [(3, .int (nI i)), (2, .ref 93), (1, .ref 0), (0, .retAddr 3)]) (st' := [.int (nI i + 2), .retAddr 3, .int (xs (i + 1)), .ref 0]) (M' := M) rfl ?_
  refine yRF.sld (i + 2) _ _ _ rfl hL (nI_add i 2) (by omega) ?_
  show yRF (zFF L xs) 166 798 [(3, .int (nI i)), (2, .ref 93), (1, .ref 0), (0, .retAddr 3)] [.int (xs (i + 2)), .int (xs (i + 1)), .ref 0] M _
  refine yRF.adv 4 (pc' := 802) (lv' := [(3, .int (nI i)), (2, .ref 93), (1, .ref 0), (0, .retAddr 3)]) (st' := [.int (nI i + 3), .retAddr 3, .int (xs (i + 2)), .int (xs (i + 1)), .ref 0]) (M' := M) rfl ?_
  refine yRF.sld (i + 3) _ _ _ rfl hL (nI_add i 3) (by omega) ?_
  show yRF (zFF L xs) 166 803 [(3, .int (nI i)), (2, .ref 93), (1, .ref 0), (0, .retAddr 3)] [.int (xs (i + 3)), .int (xs (i + 2)), .int (xs (i + 1)), .ref 0] M _
  refine yRF.call (zFF_le L xs) _ rfl rfl rfl rfl rfl h1 ?_
  show yRF (zFF L xs) 166 806 [(3, .int (nI i)), (2, .ref 93), (1, .ref 0), (0, .retAddr 3)] [.int v1] M1 _
  refine yRF.adv 5 (pc' := 811) (lv' := [(3, .int (nI i)), (2, .ref 93), (1, .ref 0), (0, .retAddr 3)]) (st' := [.int (nI i + 1), .retAddr 3, .ref 93, .int v1]) (M' := M1) rfl ?_
  refine yRF.sld (i + 1) _ _ _ rfl hL (nI_add i 1) (by omega) ?_
  show yRF (zFF L xs) 166 812 [(3, .int (nI i)), (2, .ref 93), (1, .ref 0), (0, .retAddr 3)] [.int (xs (i + 1)), .ref 93, .int v1] M1 _
  refine yRF.adv 4 (pc' := 816) (lv' := [(3, .int (nI i)), (2, .ref 93), (1, .ref 0), (0, .retAddr 3)]) (st' := [.int (nI i + 2), .retAddr 3, .int (xs (i + 1)), .ref 93, .int v1]) (M' := M1) rfl ?_
  refine yRF.sld (i + 2) _ _ _ rfl hL (nI_add i 2) (by omega) ?_
  show yRF (zFF L xs) 166 817 [(3, .int (nI i)), (2, .ref 93), (1, .ref 0), (0, .retAddr 3)] [.int (xs (i + 2)), .int (xs (i + 1)), .ref 93, .int v1] M1 _
  refine yRF.adv 4 (pc' := 821) (lv' := [(3, .int (nI i)), (2, .ref 93), (1, .ref 0), (0, .retAddr 3)]) (st' := [.int (nI i + 3), .retAddr 3, .int (xs (i + 2)), .int (xs (i + 1)), .ref 93, .int v1]) (M' := M1) rfl ?_
  refine yRF.sld (i + 3) _ _ _ rfl hL (nI_add i 3) (by omega) ?_
  show yRF (zFF L xs) 166 822 [(3, .int (nI i)), (2, .ref 93), (1, .ref 0), (0, .retAddr 3)] [.int (xs (i + 3)), .int (xs (i + 2)), .int (xs (i + 1)), .ref 93, .int v1] M1 _
  refine yRF.call (zFF_le L xs) _ rfl rfl rfl rfl rfl h2 ?_
  show yRF (zFF L xs) 166 825 [(3, .int (nI i)), (2, .ref 93), (1, .ref 0), (0, .retAddr 3)] [.int v2, .int v1] M2 _
  refine yRF.if2 .eq _ _ _ _ rfl (fun q => ?_) (fun q => absurd hv (zeq_f q))
  exact K
theorem zlw_20 {Q : Option Value → zMm → Prop} {L : Nat} {xs : Nat → Int32} {i : Nat} {M M1 M2 : zMm} {v1 v2 : Int32} (hL : L < 2 ^ 31) (hi : i + 5 ≤ L) (h1 : yOk 58 0 (lv_args 0 (.ref 0 :: [.int (xs (i + 1))])) [] M (some (.int v1)) M1) (h2 : yOk 154 0 (lv_args 0 (.ref 93 :: [.int (xs (i + 1))])) [] M1 (some (.int v2)) M2) (hv : v1 = v2) (K : yRF (zFF L xs) 166 1068 [(3, .int (nI i)), (2, .ref 93), (1, .ref 0), (0, .retAddr 3)] [] M2 Q) : yRF (zFF L xs) 166 830 [(3, .int (nI i)), (2, .ref 93), (1, .ref 0), (0, .retAddr 3)] [] M Q := by
  refine yRF.adv 5 (pc' := 835) (lv' := [(3, .int (nI i)), (2, .ref 93), (1, .ref 0), (0, .retAddr 3)]) (st' := [.int (nI i + 1), .retAddr 3, .ref 0]) (M' := M) rfl ?_
  refine yRF.sld (i + 1) _ _ _ rfl hL (nI_add i 1) (by omega) ?_
  show yRF (zFF L xs) 166 836 [(3, .int (nI i)), (2, .ref 93), (1, .ref 0), (0, .retAddr 3)] [.int (xs (i + 1)), .ref 0] M _
  refine yRF.call (zFF_le L xs) _ rfl rfl rfl rfl rfl h1 ?_
  show yRF (zFF L xs) 166 839 [(3, .int (nI i)), (2, .ref 93), (1, .ref 0), (0, .retAddr 3)] [.int v1] M1 _
  refine yRF.adv 5 (pc' := 844) (lv' := [(3, .int (nI i)), (2, .ref 93), (1, .ref 0), (0, .retAddr 3)]) (st' := [.int (nI i + 1), .retAddr 3, .ref 93, .int v1]) (M' := M1) rfl ?_
  refine yRF.sld (i + 1) _ _ _ rfl hL (nI_add i 1) (by omega) ?_
  show yRF (zFF L xs) 166 845 [(3, .int (nI i)), (2, .ref 93), (1, .ref 0), (0, .retAddr 3)] [.int (xs (i + 1)), .ref 93, .int v1] M1 _
  refine yRF.call (zFF_le L xs) _ rfl rfl rfl rfl rfl h2 ?_
  show yRF (zFF L xs) 166 848 [(3, .int (nI i)), (2, .ref 93), (1, .ref 0), (0, .retAddr 3)] [.int v2, .int v1] M2 _
  refine yRF.if2 .eq _ _ _ _ rfl (fun q => ?_) (fun q => absurd hv (zeq_f q))
  exact K
theorem zlw_21 {Q : Option Value → zMm → Prop} {L : Nat} {xs : Nat → Int32} {i : Nat} {M M1 M2 : zMm} {v1 v2 : Int32} (hL : L < 2 ^ 31) (hi : i + 5 ≤ L) (h1 : yOk 59 0 (lv_args 0 (.ref 0 :: [.int (xs (i + 1)), .int (xs (i + 2)), .int (xs (i + 3))])) [] M (some (.int v1)) M1) (h2 : yOk 155 0 (lv_args 0 (.ref 93 :: [.int (xs (i + 1)), .int (xs (i + 2)), .int (xs (i + 3))])) [] M1 (some (.int v2)) M2) (hv : v1 = v2) (K : yRF (zFF L xs) 166 1068 [(3, .int (nI i)), (2, .ref 93), (1, .ref 0), (0, .retAddr 3)] [] M2 Q) : yRF (zFF L xs) 166 853 [(3, .int (nI i)), (2, .ref 93), (1, .ref 0), (0, .retAddr 3)] [] M Q := by
  refine yRF.adv 5 (pc' := 858) (lv' := [(3, .int (nI i)), (2, .ref 93), (1, .ref 0), (0, .retAddr 3)]) (st' := [.int (nI i + 1), .retAddr 3, .ref 0]) (M' := M) rfl ?_
  refine yRF.sld (i + 1) _ _ _ rfl hL (nI_add i 1) (by omega) ?_
  show yRF (zFF L xs) 166 859 [(3, .int (nI i)), (2, .ref 93), (1, .ref 0), (0, .retAddr 3)] [.int (xs (i + 1)), .ref 0] M _
  refine yRF.adv 4 (pc' := 863) (lv' := [(3, .int (nI i)), (2, .ref 93), (1, .ref 0), (0, .retAddr 3)]) (st' := [.int (nI i + 2), .retAddr 3, .int (xs (i + 1)), .ref 0]) (M' := M) rfl ?_
  refine yRF.sld (i + 2) _ _ _ rfl hL (nI_add i 2) (by omega) ?_
  show yRF (zFF L xs) 166 864 [(3, .int (nI i)), (2, .ref 93), (1, .ref 0), (0, .retAddr 3)] [.int (xs (i + 2)), .int (xs (i + 1)), .ref 0] M _
  refine yRF.adv 4 (pc' := 868) (lv' := [(3, .int (nI i)), (2, .ref 93), (1, .ref 0), (0, .retAddr 3)]) (st' := [.int (nI i + 3), .retAddr 3, .int (xs (i + 2)), .int (xs (i + 1)), .ref 0]) (M' := M) rfl ?_
  refine yRF.sld (i + 3) _ _ _ rfl hL (nI_add i 3) (by omega) ?_
  show yRF (zFF L xs) 166 869 [(3, .int (nI i)), (2, .ref 93), (1, .ref 0), (0, .retAddr 3)] [.int (xs (i + 3)), .int (xs (i + 2)), .int (xs (i + 1)), .ref 0] M _
  refine yRF.call (zFF_le L xs) _ rfl rfl rfl rfl rfl h1 ?_
  show yRF (zFF L xs) 166 872 [(3, .int (nI i)), (2, .ref 93), (1, .ref 0), (0, .retAddr 3)] [.int v1] M1 _
  refine yRF.adv 5 (pc' := 877) (lv' := [(3, .int (nI i)), (2, .ref 93), (1, .ref 0), (0, .retAddr 3)]) (st' := [.int (nI i + 1), .retAddr 3, .ref 93, .int v1]) (M' := M1) rfl ?_
  refine yRF.sld (i + 1) _ _ _ rfl hL (nI_add i 1) (by omega) ?_
  show yRF (zFF L xs) 166 878 [(3, .int (nI i)), (2, .ref 93), (1, .ref 0), (0, .retAddr 3)] [.int (xs (i + 1)), .ref 93, .int v1] M1 _
  refine yRF.adv 4 (pc' := 882) (lv' := [(3, .int (nI i)), (2, .ref 93), (1, .ref 0), (0, .retAddr 3)]) (st' := [.int (nI i + 2), .retAddr 3, .int (xs (i + 1)), .ref 93, .int v1]) (M' := M1) rfl ?_
  refine yRF.sld (i + 2) _ _ _ rfl hL (nI_add i 2) (by omega) ?_
  show yRF (zFF L xs) 166 883 [(3, .int (nI i)), (2, .ref 93), (1, .ref 0), (0, .retAddr 3)] [.int (xs (i + 2)), .int (xs (i + 1)), .ref 93, .int v1] M1 _
  refine yRF.adv 4 (pc' := 887) (lv' := [(3, .int (nI i)), (2, .ref 93), (1, .ref 0), (0, .retAddr 3)]) (st' := [.int (nI i + 3), .retAddr 3, .int (xs (i + 2)), .int (xs (i + 1)), .ref 93, .int v1]) (M' := M1) rfl ?_
  refine yRF.sld (i + 3) _ _ _ rfl hL (nI_add i 3) (by omega) ?_
  show yRF (zFF L xs) 166 888 [(3, .int (nI i)), (2, .ref 93), (1, .ref 0), (0, .retAddr 3)] [.int (xs (i + 3)), .int (xs (i + 2)), .int (xs (i + 1)), .ref 93, .int v1] M1 _
  refine yRF.call (zFF_le L xs) _ rfl rfl rfl rfl rfl h2 ?_
  show yRF (zFF L xs) 166 891 [(3, .int (nI i)), (2, .ref 93), (1, .ref 0), (0, .retAddr 3)] [.int v2, .int v1] M2 _
  refine yRF.if2 .eq _ _ _ _ rfl (fun q => ?_) (fun q => absurd hv (zeq_f q))
  exact K
theorem zlw_22 {Q : Option Value → zMm → Prop} {L : Nat} {xs : Nat → Int32} {i : Nat} {M M1 M2 : zMm} {v1 v2 : Int64} (hL : L < 2 ^ 31) (hi : i + 5 ≤ L) (h1 : yOk 60 0 (lv_args 0 (.ref 0 :: [.int (xs (i + 1)), .int (xs (i + 2)), .int (xs (i + 3))])) [] M (some (.long v1)) M1) (h2 : yOk 156 0 (lv_args 0 (.ref 93 :: [.int (xs (i + 1)), .int (xs (i + 2)), .int (xs (i + 3))])) [] M1 (some (.long v2)) M2) (hv : v1 = v2) (K : yRF (zFF L xs) 166 1068 [(3, .int (nI i)), (2, .ref 93), (1, .ref 0), (0, .retAddr 3)] [] M2 Q) : yRF (zFF L xs) 166 896 [(3, .int (nI i)), (2, .ref 93), (1, .ref 0), (0, .retAddr 3)] [] M Q := by
  refine yRF.adv 5 (pc' := 901) (lv' := [(3, .int (nI i)), (2, .ref 93), (1, .ref 0), (0, .retAddr 3)]) (st' := [.int (nI i + 1), .retAddr 3, .ref 0]) (M' := M) rfl ?_
  refine yRF.sld (i + 1) _ _ _ rfl hL (nI_add i 1) (by omega) ?_
  show yRF (zFF L xs) 166 902 [(3, .int (nI i)), (2, .ref 93), (1, .ref 0), (0, .retAddr 3)] [.int (xs (i + 1)), .ref 0] M _
  refine yRF.adv 4 (pc' := 906) (lv' := [(3, .int (nI i)), (2, .ref 93), (1, .ref 0), (0, .retAddr 3)]) (st' := [.int (nI i + 2), .retAddr 3, .int (xs (i + 1)), .ref 0]) (M' := M) rfl ?_
  refine yRF.sld (i + 2) _ _ _ rfl hL (nI_add i 2) (by omega) ?_
  show yRF (zFF L xs) 166 907 [(3, .int (nI i)), (2, .ref 93), (1, .ref 0), (0, .retAddr 3)] [.int (xs (i + 2)), .int (xs (i + 1)), .ref 0] M _
  refine yRF.adv 4 (pc' := 911) (lv' := [(3, .int (nI i)), (2, .ref 93), (1, .ref 0), (0, .retAddr 3)]) (st' := [.int (nI i + 3), .retAddr 3, .int (xs (i + 2)), .int (xs (i + 1)), .ref 0]) (M' := M) rfl ?_
  refine yRF.sld (i + 3) _ _ _ rfl hL (nI_add i 3) (by omega) ?_
  show yRF (zFF L xs) 166 912 [(3, .int (nI i)), (2, .ref 93), (1, .ref 0), (0, .retAddr 3)] [.int (xs (i + 3)), .int (xs (i + 2)), .int (xs (i + 1)), .ref 0] M _
  refine yRF.call (zFF_le L xs) _ rfl rfl rfl rfl rfl h1 ?_
  show yRF (zFF L xs) 166 915 [(3, .int (nI i)), (2, .ref 93), (1, .ref 0), (0, .retAddr 3)] [.long v1] M1 _
  refine yRF.adv 5 (pc' := 920) (lv' := [(3, .int (nI i)), (2, .ref 93), (1, .ref 0), (0, .retAddr 3)]) (st' := [.int (nI i + 1), .retAddr 3, .ref 93, .long v1]) (M' := M1) rfl ?_
  refine yRF.sld (i + 1) _ _ _ rfl hL (nI_add i 1) (by omega) ?_
  show yRF (zFF L xs) 166 921 [(3, .int (nI i)), (2, .ref 93), (1, .ref 0), (0, .retAddr 3)] [.int (xs (i + 1)), .ref 93, .long v1] M1 _
  refine yRF.adv 4 (pc' := 925) (lv' := [(3, .int (nI i)), (2, .ref 93), (1, .ref 0), (0, .retAddr 3)]) (st' := [.int (nI i + 2), .retAddr 3, .int (xs (i + 1)), .ref 93, .long v1]) (M' := M1) rfl ?_
  refine yRF.sld (i + 2) _ _ _ rfl hL (nI_add i 2) (by omega) ?_
  show yRF (zFF L xs) 166 926 [(3, .int (nI i)), (2, .ref 93), (1, .ref 0), (0, .retAddr 3)] [.int (xs (i + 2)), .int (xs (i + 1)), .ref 93, .long v1] M1 _
  refine yRF.adv 4 (pc' := 930) (lv' := [(3, .int (nI i)), (2, .ref 93), (1, .ref 0), (0, .retAddr 3)]) (st' := [.int (nI i + 3), .retAddr 3, .int (xs (i + 2)), .int (xs (i + 1)), .ref 93, .long v1]) (M' := M1) rfl ?_
  refine yRF.sld (i + 3) _ _ _ rfl hL (nI_add i 3) (by omega) ?_
  show yRF (zFF L xs) 166 931 [(3, .int (nI i)), (2, .ref 93), (1, .ref 0), (0, .retAddr 3)] [.int (xs (i + 3)), .int (xs (i + 2)), .int (xs (i + 1)), .ref 93, .long v1] M1 _
  refine yRF.call (zFF_le L xs) _ rfl rfl rfl rfl rfl h2 ?_
  show yRF (zFF L xs) 166 934 [(3, .int (nI i)), (2, .ref 93), (1, .ref 0), (0, .retAddr 3)] [.long v2, .long v1] M2 _
  refine yRF.adv 1 (pc' := 935) (lv' := [(3, .int (nI i)), (2, .ref 93), (1, .ref 0), (0, .retAddr 3)]) (st' := [.int (lg_cmp v1 v2)]) (M' := M2) rfl ?_
  refine yRF.if1 .eq _ _ _ _ rfl (fun q => ?_) (fun q => absurd (congrArg Int64.toInt hv) (zlF q rfl rfl))
  exact K
theorem zlw_23 {Q : Option Value → zMm → Prop} {L : Nat} {xs : Nat → Int32} {i : Nat} {M M1 M2 : zMm} {v1 v2 : Int32} (hL : L < 2 ^ 31) (hi : i + 5 ≤ L) (h1 : yOk 61 0 (lv_args 0 (.ref 0 :: [.int (xs (i + 1))])) [] M (some (.int v1)) M1) (h2 : yOk 158 0 (lv_args 0 (.ref 93 :: [.int (xs (i + 1))])) [] M1 (some (.int v2)) M2) (hv : v1 = v2) (K : yRF (zFF L xs) 166 1068 [(3, .int (nI i)), (2, .ref 93), (1, .ref 0), (0, .retAddr 3)] [] M2 Q) : yRF (zFF L xs) 166 940 [(3, .int (nI i)), (2, .ref 93), (1, .ref 0), (0, .retAddr 3)] [] M Q := by
  refine yRF.adv 5 (pc' := 945) (lv' := [(3, .int (nI i)), (2, .ref 93), (1, .ref 0), (0, .retAddr 3)]) (st' := [.int (nI i + 1), .retAddr 3, .ref 0]) (M' := M) rfl ?_
  refine yRF.sld (i + 1) _ _ _ rfl hL (nI_add i 1) (by omega) ?_
  show yRF (zFF L xs) 166 946 [(3, .int (nI i)), (2, .ref 93), (1, .ref 0), (0, .retAddr 3)] [.int (xs (i + 1)), .ref 0] M _
  refine yRF.call (zFF_le L xs) _ rfl rfl rfl rfl rfl h1 ?_
  show yRF (zFF L xs) 166 949 [(3, .int (nI i)), (2, .ref 93), (1, .ref 0), (0, .retAddr 3)] [.int v1] M1 _
  refine yRF.adv 5 (pc' := 954) (lv' := [(3, .int (nI i)), (2, .ref 93), (1, .ref 0), (0, .retAddr 3)]) (st' := [.int (nI i + 1), .retAddr 3, .ref 93, .int v1]) (M' := M1) rfl ?_
  refine yRF.sld (i + 1) _ _ _ rfl hL (nI_add i 1) (by omega) ?_
  show yRF (zFF L xs) 166 955 [(3, .int (nI i)), (2, .ref 93), (1, .ref 0), (0, .retAddr 3)] [.int (xs (i + 1)), .ref 93, .int v1] M1 _
  refine yRF.call (zFF_le L xs) _ rfl rfl rfl rfl rfl h2 ?_
  show yRF (zFF L xs) 166 958 [(3, .int (nI i)), (2, .ref 93), (1, .ref 0), (0, .retAddr 3)] [.int v2, .int v1] M2 _
  refine yRF.if2 .eq _ _ _ _ rfl (fun q => ?_) (fun q => absurd hv (zeq_f q))
  exact K
theorem zlw_24 {Q : Option Value → zMm → Prop} {L : Nat} {xs : Nat → Int32} {i : Nat} {M M1 M2 : zMm} {v1 v2 : Int32} (hL : L < 2 ^ 31) (hi : i + 5 ≤ L) (h1 : yOk 62 0 (lv_args 0 (.ref 0 :: [.int (xs (i + 1))])) [] M (some (.int v1)) M1) (h2 : yOk 159 0 (lv_args 0 (.ref 93 :: [.int (xs (i + 1))])) [] M1 (some (.int v2)) M2) (hv : v1 = v2) (K : yRF (zFF L xs) 166 1068 [(3, .int (nI i)), (2, .ref 93), (1, .ref 0), (0, .retAddr 3)] [] M2 Q) : yRF (zFF L xs) 166 963 [(3, .int (nI i)), (2, .ref 93), (1, .ref 0), (0, .retAddr 3)] [] M Q := by
  refine yRF.adv 5 (pc' := 968) (lv' := [(3, .int (nI i)), (2, .ref 93), (1, .ref 0), (0, .retAddr 3)]) (st' := [.int (nI i + 1), .retAddr 3, .ref 0]) (M' := M) rfl ?_
  refine yRF.sld (i + 1) _ _ _ rfl hL (nI_add i 1) (by omega) ?_
  show yRF (zFF L xs) 166 969 [(3, .int (nI i)), (2, .ref 93), (1, .ref 0), (0, .retAddr 3)] [.int (xs (i + 1)), .ref 0] M _
  refine yRF.call (zFF_le L xs) _ rfl rfl rfl rfl rfl h1 ?_
  show yRF (zFF L xs) 166 972 [(3, .int (nI i)), (2, .ref 93), (1, .ref 0), (0, .retAddr 3)] [.int v1] M1 _
  refine yRF.adv 5 (pc' := 977) (lv' := [(3, .int (nI i)), (2, .ref 93), (1, .ref 0), (0, .retAddr 3)]) (st' := [.int (nI i + 1), .retAddr 3, .ref 93, .int v1]) (M' := M1) rfl ?_
  refine yRF.sld (i + 1) _ _ _ rfl hL (nI_add i 1) (by omega) ?_
  show yRF (zFF L xs) 166 978 [(3, .int (nI i)), (2, .ref 93), (1, .ref 0), (0, .retAddr 3)] [.int (xs (i + 1)), .ref 93, .int v1] M1 _
  refine yRF.call (zFF_le L xs) _ rfl rfl rfl rfl rfl h2 ?_
  show yRF (zFF L xs) 166 981 [(3, .int (nI i)), (2, .ref 93), (1, .ref 0), (0, .retAddr 3)] [.int v2, .int v1] M2 _
  refine yRF.if2 .eq _ _ _ _ rfl (fun q => ?_) (fun q => absurd hv (zeq_f q))
  exact K
theorem zlw_25 {Q : Option Value → zMm → Prop} {L : Nat} {xs : Nat → Int32} {i : Nat} {M M1 M2 : zMm} {v1 v2 : Int32} (hL : L < 2 ^ 31) (hi : i + 5 ≤ L) (h1 : yOk 63 0 (lv_args 0 (.ref 0 :: [.int (xs (i + 1)), .int (xs (i + 2))])) [] M (some (.int v1)) M1) (h2 : yOk 160 0 (lv_args 0 (.ref 93 :: [.int (xs (i + 1)), .int (xs (i + 2))])) [] M1 (some (.int v2)) M2) (hv : v1 = v2) (K : yRF (zFF L xs) 166 1068 [(3, .int (nI i)), (2, .ref 93), (1, .ref 0), (0, .retAddr 3)] [] M2 Q) : yRF (zFF L xs) 166 986 [(3, .int (nI i)), (2, .ref 93), (1, .ref 0), (0, .retAddr 3)] [] M Q := by
  refine yRF.adv 5 (pc' := 991) (lv' := [(3, .int (nI i)), (2, .ref 93), (1, .ref 0), (0, .retAddr 3)]) (st' := [.int (nI i + 1), .retAddr 3, .ref 0]) (M' := M) rfl ?_
  refine yRF.sld (i + 1) _ _ _ rfl hL (nI_add i 1) (by omega) ?_
  show yRF (zFF L xs) 166 992 [(3, .int (nI i)), (2, .ref 93), (1, .ref 0), (0, .retAddr 3)] [.int (xs (i + 1)), .ref 0] M _
  refine yRF.adv 4 (pc' := 996) (lv' := [(3, .int (nI i)), (2, .ref 93), (1, .ref 0), (0, .retAddr 3)]) (st' := [.int (nI i + 2), .retAddr 3, .int (xs (i + 1)), .ref 0]) (M' := M) rfl ?_
  refine yRF.sld (i + 2) _ _ _ rfl hL (nI_add i 2) (by omega) ?_
  show yRF (zFF L xs) 166 997 [(3, .int (nI i)), (2, .ref 93), (1, .ref 0), (0, .retAddr 3)] [.int (xs (i + 2)), .int (xs (i + 1)), .ref 0] M _
  refine yRF.call (zFF_le L xs) _ rfl rfl rfl rfl rfl h1 ?_
  show yRF (zFF L xs) 166 1000 [(3, .int (nI i)), (2, .ref 93), (1, .ref 0), (0, .retAddr 3)] [.int v1] M1 _
  refine yRF.adv 5 (pc' := 1005) (lv' := [(3, .int (nI i)), (2, .ref 93), (1, .ref 0), (0, .retAddr 3)]) (st' := [.int (nI i + 1), .retAddr 3, .ref 93, .int v1]) (M' := M1) rfl ?_
  refine yRF.sld (i + 1) _ _ _ rfl hL (nI_add i 1) (by omega) ?_
  show yRF (zFF L xs) 166 1006 [(3, .int (nI i)), (2, .ref 93), (1, .ref 0), (0, .retAddr 3)] [.int (xs (i + 1)), .ref 93, .int v1] M1 _
  refine yRF.adv 4 (pc' := 1010) (lv' := [(3, .int (nI i)), (2, .ref 93), (1, .ref 0), (0, .retAddr 3)]) (st' := [.int (nI i + 2), .retAddr 3, .int (xs (i + 1)), .ref 93, .int v1]) (M' := M1) rfl ?_
  refine yRF.sld (i + 2) _ _ _ rfl hL (nI_add i 2) (by omega) ?_
  show yRF (zFF L xs) 166 1011 [(3, .int (nI i)), (2, .ref 93), (1, .ref 0), (0, .retAddr 3)] [.int (xs (i + 2)), .int (xs (i + 1)), .ref 93, .int v1] M1 _
  refine yRF.call (zFF_le L xs) _ rfl rfl rfl rfl rfl h2 ?_
  show yRF (zFF L xs) 166 1014 [(3, .int (nI i)), (2, .ref 93), (1, .ref 0), (0, .retAddr 3)] [.int v2, .int v1] M2 _
  refine yRF.if2 .eq _ _ _ _ rfl (fun q => ?_) (fun q => absurd hv (zeq_f q))
  exact K
theorem zlw_26 {Q : Option Value → zMm → Prop} {L : Nat} {xs : Nat → Int32} {i : Nat} {M M1 M2 : zMm} {v1 v2 : Int32} (hL : L < 2 ^ 31) (hi : i + 5 ≤ L) (h1 : yOk 64 0 (lv_args 0 (.ref 0 :: [])) [] M (some (.int v1)) M1) (h2 : yOk 161 0 (lv_args 0 (.ref 93 :: [])) [] M1 (some (.int v2)) M2) (hv : v1 = v2) (K : yRF (zFF L xs) 166 1068 [(3, .int (nI i)), (2, .ref 93), (1, .ref 0), (0, .retAddr 3)] [] M2 Q) : yRF (zFF L xs) 166 1019 [(3, .int (nI i)), (2, .ref 93), (1, .ref 0), (0, .retAddr 3)] [] M Q := by
  refine yRF.adv 1 (pc' := 1020) (lv' := [(3, .int (nI i)), (2, .ref 93), (1, .ref 0), (0, .retAddr 3)]) (st' := [.ref 0]) (M' := M) rfl ?_
  refine yRF.call (zFF_le L xs) _ rfl rfl rfl rfl rfl h1 ?_
  show yRF (zFF L xs) 166 1023 [(3, .int (nI i)), (2, .ref 93), (1, .ref 0), (0, .retAddr 3)] [.int v1] M1 _
  refine yRF.adv 1 (pc' := 1024) (lv' := [(3, .int (nI i)), (2, .ref 93), (1, .ref 0), (0, .retAddr 3)]) (st' := [.ref 93, .int v1]) (M' := M1) rfl ?_
  refine yRF.call (zFF_le L xs) _ rfl rfl rfl rfl rfl h2 ?_
  show yRF (zFF L xs) 166 1027 [(3, .int (nI i)), (2, .ref 93), (1, .ref 0), (0, .retAddr 3)] [.int v2, .int v1] M2 _
  refine yRF.if2 .eq _ _ _ _ rfl (fun q => ?_) (fun q => absurd hv (zeq_f q))
  exact K
theorem zlw_27 {Q : Option Value → zMm → Prop} {L : Nat} {xs : Nat → Int32} {i : Nat} {M M1 M2 : zMm} {v1 v2 : Int32} (hL : L < 2 ^ 31) (hi : i + 5 ≤ L) (h1 : yOk 65 0 (lv_args 0 (.ref 0 :: [])) [] M (some (.int v1)) M1) (h2 : yOk 162 0 (lv_args 0 (.ref 93 :: [])) [] M1 (some (.int v2)) M2) (hv : v1 = v2) (K : yRF (zFF L xs) 166 1068 [(3, .int (nI i)), (2, .ref 93), (1, .ref 0), (0, .retAddr 3)] [] M2 Q) : yRF (zFF L xs) 166 1032 [(3, .int (nI i)), (2, .ref 93), (1, .ref 0), (0, .retAddr 3)] [] M Q := by
  refine yRF.adv 1 (pc' := 1033) (lv' := [(3, .int (nI i)), (2, .ref 93), (1, .ref 0), (0, .retAddr 3)]) (st' := [.ref 0]) (M' := M) rfl ?_
  refine yRF.call (zFF_le L xs) _ rfl rfl rfl rfl rfl h1 ?_
  show yRF (zFF L xs) 166 1036 [(3, .int (nI i)), (2, .ref 93), (1, .ref 0), (0, .retAddr 3)] [.int v1] M1 _
  refine yRF.adv 1 (pc' := 1037) (lv' := [(3, .int (nI i)), (2, .ref 93), (1, .ref 0), (0, .retAddr 3)]) (st' := [.ref 93, .int v1]) (M' := M1) rfl ?_
  refine yRF.call (zFF_le L xs) _ rfl rfl rfl rfl rfl h2 ?_
  show yRF (zFF L xs) 166 1040 [(3, .int (nI i)), (2, .ref 93), (1, .ref 0), (0, .retAddr 3)] [.int v2, .int v1] M2 _
  refine yRF.if2 .eq _ _ _ _ rfl (fun q => ?_) (fun q => absurd hv (zeq_f q))
  exact K
theorem zlw_28 {Q : Option Value → zMm → Prop} {L : Nat} {xs : Nat → Int32} {i : Nat} {M M1 M2 : zMm} {v1 v2 : Int32} (hL : L < 2 ^ 31) (hi : i + 5 ≤ L) (h1 : yOk 66 0 (lv_args 0 (.ref 0 :: [.int (xs (i + 1))])) [] M (some (.int v1)) M1) (h2 : yOk 163 0 (lv_args 0 (.ref 93 :: [.int (xs (i + 1))])) [] M1 (some (.int v2)) M2) (hv : v1 = v2) (K : yRF (zFF L xs) 166 1068 [(3, .int (nI i)), (2, .ref 93), (1, .ref 0), (0, .retAddr 3)] [] M2 Q) : yRF (zFF L xs) 166 1045 [(3, .int (nI i)), (2, .ref 93), (1, .ref 0), (0, .retAddr 3)] [] M Q := by
  refine yRF.adv 5 (pc' := 1050) (lv' := [(3, .int (nI i)), (2, .ref 93), (1, .ref 0), (0, .retAddr 3)]) (st' := [.int (nI i + 1), .retAddr 3, .ref 0]) (M' := M) rfl ?_
  refine yRF.sld (i + 1) _ _ _ rfl hL (nI_add i 1) (by omega) ?_
  show yRF (zFF L xs) 166 1051 [(3, .int (nI i)), (2, .ref 93), (1, .ref 0), (0, .retAddr 3)] [.int (xs (i + 1)), .ref 0] M _
  refine yRF.call (zFF_le L xs) _ rfl rfl rfl rfl rfl h1 ?_
  show yRF (zFF L xs) 166 1054 [(3, .int (nI i)), (2, .ref 93), (1, .ref 0), (0, .retAddr 3)] [.int v1] M1 _
  refine yRF.adv 5 (pc' := 1059) (lv' := [(3, .int (nI i)), (2, .ref 93), (1, .ref 0), (0, .retAddr 3)]) (st' := [.int (nI i + 1), .retAddr 3, .ref 93, .int v1]) (M' := M1) rfl ?_
  refine yRF.sld (i + 1) _ _ _ rfl hL (nI_add i 1) (by omega) ?_
  show yRF (zFF L xs) 166 1060 [(3, .int (nI i)), (2, .ref 93), (1, .ref 0), (0, .retAddr 3)] [.int (xs (i + 1)), .ref 93, .int v1] M1 _
  refine yRF.call (zFF_le L xs) _ rfl rfl rfl rfl rfl h2 ?_
  show yRF (zFF L xs) 166 1063 [(3, .int (nI i)), (2, .ref 93), (1, .ref 0), (0, .retAddr 3)] [.int v2, .int v1] M2 _
  refine yRF.if2 .eq _ _ _ _ rfl (fun q => ?_) (fun q => absurd hv (zeq_f q))
  exact K
