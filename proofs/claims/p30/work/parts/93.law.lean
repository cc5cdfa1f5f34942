/-! ===== the law, call by call ===== -/
theorem zlw_0 {Q : Option Value → zMm → Prop} {L : Nat} {xs : Nat → Int32} {i : Nat} {M M1 M2 : zMm} {v1 v2 : Int32} (hL : L < 2 ^ 31) (hi : i + 5 ≤ L) (h1 : yOk 38 0 (lv_args 0 (.ref 0 :: [.int (xs (i + 1)), .int (xs (i + 2)), .int (xs (i + 3))])) [] M (some (.int v1)) M1) (h2 : yOk 110 0 (lv_args 0 (.ref 93 :: [.int (xs (i + 1)), .int (xs (i + 2)), .int (xs (i + 3))])) [] M1 (some (.int v2)) M2) (K : yRF (zFF L xs) 166 1061 [(3, .int (nI i)), (2, .ref 93), (1, .ref 0), (0, .retAddr 3)] [] M2 Q) : yRF (zFF L xs) 166 164 [(3, .int (nI i)), (2, .ref 93), (1, .ref 0), (0, .retAddr 3)] [] M Q := by
  refine yRF.adv 5 (pc' := 169) (lv' := [(3, .int (nI i)), (2, .ref 93), (1, .ref 0), (0, .retAddr 3)]) (st' := [.int (nI i + 1), .retAddr 3, .ref 0]) (M' := M) rfl ?_
  refine yRF.sld (i + 1) _ _ _ rfl hL (nI_add i 1) (by omega) ?_
  show yRF (zFF L xs) 166 170 [(3, .int (nI i)), (2, .ref 93), (1, .ref 0), (0, .retAddr 3)] [.int (xs (i + 1)), .ref 0] M _
  refine yRF.adv 4 (pc' := 174) (lv' := [(3, .int (nI i)), (2, .ref 93), (1, .ref 0), (0, .retAddr 3)]) (st' := [.int (nI i + 2), .retAddr 3, .int (xs (i + 1)), .ref 0]) (M' := M) rfl ?_
  refine yRF.sld (i + 2) _ _ _ rfl hL (nI_add i 2) (by omega) ?_
  show yRF (zFF L xs) 166 175 [(3, .int (nI i)), (2, .ref 93), (1, .ref 0), (0, .retAddr 3)] [.int (xs (i + 2)), .int (xs (i + 1)), .ref 0] M _
  refine yRF.adv 4 (pc' := 179) (lv' := [(3, .int (nI i)), (2, .ref 93), (1, .ref 0), (0, .retAddr 3)]) (st' := [.int (nI i + 3), .retAddr 3, .int (xs (i + 2)), .int (xs (i + 1)), .ref 0]) (M' := M) rfl ?_
  refine yRF.sld (i + 3) _ _ _ rfl hL (nI_add i 3) (by omega) ?_
  show yRF (zFF L xs) 166 180 [(3, .int (nI i)), (2, .ref 93), (1, .ref 0), (0, .retAddr 3)] [.int (xs (i + 3)), .int (xs (i + 2)), .int (xs (i + 1)), .ref 0] M _
  refine yRF.call (zFF_le L xs) _ rfl rfl rfl rfl rfl h1 ?_
  show yRF (zFF L xs) 166 183 [(3, .int (nI i)), (2, .ref 93), (1, .ref 0), (0, .retAddr 3)] [.int v1] M1 _
  refine yRF.adv 6 (pc' := 189) (lv' := [(3, .int (nI i)), (2, .ref 93), (1, .ref 0), (0, .retAddr 3)]) (st' := [.int (nI i + 1), .retAddr 3, .ref 93]) (M' := M1) rfl ?_
  refine yRF.sld (i + 1) _ _ _ rfl hL (nI_add i 1) (by omega) ?_
  show yRF (zFF L xs) 166 190 [(3, .int (nI i)), (2, .ref 93), (1, .ref 0), (0, .retAddr 3)] [.int (xs (i + 1)), .ref 93] M1 _
  refine yRF.adv 4 (pc' := 194) (lv' := [(3, .int (nI i)), (2, .ref 93), (1, .ref 0), (0, .retAddr 3)]) (st' := [.int (nI i + 2), .retAddr 3, .int (xs (i + 1)), .ref 93]) (M' := M1) rfl ?_
  refine yRF.sld (i + 2) _ _ _ rfl hL (nI_add i 2) (by omega) ?_
  show yRF (zFF L xs) 166 195 [(3, .int (nI i)), (2, .ref 93), (1, .ref 0), (0, .retAddr 3)] [.int (xs (i + 2)), .int (xs (i + 1)), .ref 93] M1 _
  refine yRF.adv 4 (pc' := 199) (lv' := [(3, .int (nI i)), (2, .ref 93), (1, .ref 0), (0, .retAddr 3)]) (st' := [.int (nI i + 3), .retAddr 3, .int (xs (i + 2)), .int (xs (i + 1)), .ref 93]) (M' := M1) rfl ?_
  refine yRF.sld (i + 3) _ _ _ rfl hL (nI_add i 3) (by omega) ?_
  show yRF (zFF L xs) 166 200 [(3, .int (nI i)), (2, .ref 93), (1, .ref 0), (0, .retAddr 3)] [.int (xs (i + 3)), .int (xs (i + 2)), .int (xs (i + 1)), .ref 93] M1 _
  refine yRF.call (zFF_le L xs) _ rfl rfl rfl rfl rfl h2 ?_
  show yRF (zFF L xs) 166 203 [(3, .int (nI i)), (2, .ref 93), (1, .ref 0), (0, .retAddr 3)] [.int v2] M2 _
  refine yRF.adv 2 (pc' := 1061) (lv' := [(3, .int (nI i)), (2, .ref 93), (1, .ref 0), (0, .retAddr 3)]) (st' := []) (M' := M2) rfl ?_
  exact K
theorem zlw_1 {Q : Option Value → zMm → Prop} {L : Nat} {xs : Nat → Int32} {i : Nat} {M M1 M2 : zMm} {v1 v2 : Int64} (hL : L < 2 ^ 31) (hi : i + 5 ≤ L) (h1 : yOk 39 0 (lv_args 0 (.ref 0 :: [.int (xs (i + 1)), .int (xs (i + 2)), .int (xs (i + 3))])) [] M (some (.long v1)) M1) (h2 : yOk 115 0 (lv_args 0 (.ref 93 :: [.int (xs (i + 1)), .int (xs (i + 2)), .int (xs (i + 3))])) [] M1 (some (.long v2)) M2) (K : yRF (zFF L xs) 166 1061 [(3, .int (nI i)), (2, .ref 93), (1, .ref 0), (0, .retAddr 3)] [] M2 Q) : yRF (zFF L xs) 166 207 [(3, .int (nI i)), (2, .ref 93), (1, .ref 0), (0, .retAddr 3)] [] M Q := by
  refine yRF.adv 5 (pc' := 212) (lv' := [(3, .int (nI i)), (2, .ref 93), (1, .ref 0), (0, .retAddr 3)]) (st' := [.int (nI i + 1), .retAddr 3, .ref 0]) (M' := M) rfl ?_
  refine yRF.sld (i + 1) _ _ _ rfl hL (nI_add i 1) (by omega) ?_
  show yRF (zFF L xs) 166 213 [(3, .int (nI i)), (2, .ref 93), (1, .ref 0), (0, .retAddr 3)] [.int (xs (i + 1)), .ref 0] M _
  refine yRF.adv 4 (pc' := 217) (lv' := [(3, .int (nI i)), (2, .ref 93), (1, .ref 0), (0, .retAddr 3)]) (st' := [.int (nI i + 2), .retAddr 3, .int (xs (i + 1)), .ref 0]) (M' := M) rfl ?_
  refine yRF.sld (i + 2) _ _ _ rfl hL (nI_add i 2) (by omega) ?_
  show yRF (zFF L xs) 166 218 [(3, .int (nI i)), (2, .ref 93), (1, .ref 0), (0, .retAddr 3)] [.int (xs (i + 2)), .int (xs (i + 1)), .ref 0] M _
  refine yRF.adv 4 (pc' := 222) (lv' := [(3, .int (nI i)), (2, .ref 93), (1, .ref 0), (0, .retAddr 3)]) (st' := [.int (nI i + 3), .retAddr 3, .int (xs (i + 2)), .int (xs (i + 1)), .ref 0]) (M' := M) rfl ?_
  refine yRF.sld (i + 3) _ _ _ rfl hL (nI_add i 3) (by omega) ?_
  show yRF (zFF L xs) 166 223 [(3, .int (nI i)), (2, .ref 93), (1, .ref 0), (0, .retAddr 3)] [.int (xs (i + 3)), .int (xs (i + 2)), .int (xs (i + 1)), .ref 0] M _
  refine yRF.call (zFF_le L xs) _ rfl rfl rfl rfl rfl h1 ?_
  show yRF (zFF L xs) 166 226 [(3, .int (nI i)), (2, .ref 93), (1, .ref 0), (0, .retAddr 3)] [.long v1] M1 _
  refine yRF.adv 6 (pc' := 232) (lv' := [(3, .int (nI i)), (2, .ref 93), (1, .ref 0), (0, .retAddr 3)]) (st' := [.int (nI i + 1), .retAddr 3, .ref 93]) (M' := M1) rfl ?_
  refine yRF.sld (i + 1) _ _ _ rfl hL (nI_add i 1) (by omega) ?_
  show yRF (zFF L xs) 166 233 [(3, .int (nI i)), (2, .ref 93), (1, .ref 0), (0, .retAddr 3)] [.int (xs (i + 1)), .ref 93] M1 _
  refine yRF.adv 4 (pc' := 237) (lv' := [(3, .int (nI i)), (2, .ref 93), (1, .ref 0), (0, .retAddr 3)]) (st' := [.int (nI i + 2), .retAddr 3, .int (xs (i + 1)), .ref 93]) (M' := M1) rfl ?_
  refine yRF.sld (i + 2) _ _ _ rfl hL (nI_add i 2) (by omega) ?_
  show yRF (zFF L xs) 166 238 [(3, .int (nI i)), (2, .ref 93), (1, .ref 0), (0, .retAddr 3)] [.int (xs (i + 2)), .int (xs (i + 1)), .ref 93] M1 _
  refine yRF.adv 4 (pc' := 242) (lv' := [(3, .int (nI i)), (2, .ref 93), (1, .ref 0), (0, .retAddr 3)]) (st' := [.int (nI i + 3), .retAddr 3, .int (xs (i + 2)), .int (xs (i + 1)), .ref 93]) (M' := M1) rfl ?_
  refine yRF.sld (i + 3) _ _ _ rfl hL (nI_add i 3) (by omega) ?_
  show yRF (zFF L xs) 166 243 [(3, .int (nI i)), (2, .ref 93), (1, .ref 0), (0, .retAddr 3)] [.int (xs (i + 3)), .int (xs (i + 2)), .int (xs (i + 1)), .ref 93] M1 _
  refine yRF.call (zFF_le L xs) _ rfl rfl rfl rfl rfl h2 ?_
  show yRF (zFF L xs) 166 246 [(3, .int (nI i)), (2, .ref 93), (1, .ref 0), (0, .retAddr 3)] [.long v2] M2 _
  refine yRF.adv 2 (pc' := 1061) (lv' := [(3, .int (nI i)), (2, .ref 93), (1, .ref 0), (0, .retAddr 3)]) (st' := []) (M' := M2) rfl ?_
  exact K
theorem zlw_2 {Q : Option Value → zMm → Prop} {L : Nat} {xs : Nat → Int32} {i : Nat} {M M1 M2 : zMm} {v1 v2 : Int32} (hL : L < 2 ^ 31) (hi : i + 5 ≤ L) (h1 : yOk 40 0 (lv_args 0 (.ref 0 :: [.int (xs (i + 1)), .int (xs (i + 2)), .int (xs (i + 3))])) [] M (some (.int v1)) M1) (h2 : yOk 126 0 (lv_args 0 (.ref 93 :: [.int (xs (i + 1)), .int (xs (i + 2)), .int (xs (i + 3))])) [] M1 (some (.int v2)) M2) (K : yRF (zFF L xs) 166 1061 [(3, .int (nI i)), (2, .ref 93), (1, .ref 0), (0, .retAddr 3)] [] M2 Q) : yRF (zFF L xs) 166 250 [(3, .int (nI i)), (2, .ref 93), (1, .ref 0), (0, .retAddr 3)] [] M Q := by
  refine yRF.adv 5 (pc' := 255) (lv' := [(3, .int (nI i)), (2, .ref 93), (1, .ref 0), (0, .retAddr 3)]) (st' := [.int (nI i + 1), .retAddr 3, .ref 0]) (M' := M) rfl ?_
  refine yRF.sld (i + 1) _ _ _ rfl hL (nI_add i 1) (by omega) ?_
  show yRF (zFF L xs) 166 256 [(3, .int (nI i)), (2, .ref 93), (1, .ref 0), (0, .retAddr 3)] [.int (xs (i + 1)), .ref 0] M _
  refine yRF.adv 4 (pc' := 260) (lv' := [(3, .int (nI i)), (2, .ref 93), (1, .ref 0), (0, .retAddr 3)]) (st' := [.int (nI i + 2), .retAddr 3, .int (xs (i + 1)), .ref 0]) (M' := M) rfl ?_
  refine yRF.sld (i + 2) _ _ _ rfl hL (nI_add i 2) (by omega) ?_
  show yRF (zFF L xs) 166 261 [(3, .int (nI i)), (2, .ref 93), (1, .ref 0), (0, .retAddr 3)] [.int (xs (i + 2)), .int (xs (i + 1)), .ref 0] M _
  refine yRF.adv 4 (pc' := 265) (lv' := [(3, .int (nI i)), (2, .ref 93), (1, .ref 0), (0, .retAddr 3)]) (st' := [.int (nI i + 3), .retAddr 3, .int (xs (i + 2)), .int (xs (i + 1)), .ref 0]) (M' := M) rfl ?_
  refine yRF.sld (i + 3) _ _ _ rfl hL (nI_add i 3) (by omega) ?_
  show yRF (zFF L xs) 166 266 [(3, .int (nI i)), (2, .ref 93), (1, .ref 0), (0, .retAddr 3)] [.int (xs (i + 3)), .int (xs (i + 2)), .int (xs (i + 1)), .ref 0] M _
  refine yRF.call (zFF_le L xs) _ rfl rfl rfl rfl rfl h1 ?_
  show yRF (zFF L xs) 166 269 [(3, .int (nI i)), (2, .ref 93), (1, .ref 0), (0, .retAddr 3)] [.int v1] M1 _
  refine yRF.adv 6 (pc' := 275) (lv' := [(3, .int (nI i)), (2, .ref 93), (1, .ref 0), (0, .retAddr 3)]) (st' := [.int (nI i + 1), .retAddr 3, .ref 93]) (M' := M1) rfl ?_
  refine yRF.sld (i + 1) _ _ _ rfl hL (nI_add i 1) (by omega) ?_
  show yRF (zFF L xs) 166 276 [(3, .int (nI i)), (2, .ref 93), (1, .ref 0), (0, .retAddr 3)] [.int (xs (i + 1)), .ref 93] M1 _
  refine yRF.adv 4 (pc' := 280) (lv' := [(3, .int (nI i)), (2, .ref 93), (1, .ref 0), (0, .retAddr 3)]) (st' := [.int (nI i + 2), .retAddr 3, .int (xs (i + 1)), .ref 93]) (M' := M1) rfl ?_
  refine yRF.sld (i + 2) _ _ _ rfl hL (nI_add i 2) (by omega) ?_
  show yRF (zFF L xs) 166 281 [(3, .int (nI i)), (2, .ref 93), (1, .ref 0), (0, .retAddr 3)] [.int (xs (i + 2)), .int (xs (i + 1)), .ref 93] M1 _
  refine yRF.adv 4 (pc' := 285) (lv' := [(3, .int (nI i)), (2, .ref 93), (1, .ref 0), (0, .retAddr 3)]) (st' := [.int (nI i + 3), .retAddr 3, .int (xs (i + 2)), .int (xs (i + 1)), .ref 93]) (M' := M1) rfl ?_
  refine yRF.sld (i + 3) _ _ _ rfl hL (nI_add i 3) (by omega) ?_
  show yRF (zFF L xs) 166 286 [(3, .int (nI i)), (2, .ref 93), (1, .ref 0), (0, .retAddr 3)] [.int (xs (i + 3)), .int (xs (i + 2)), .int (xs (i + 1)), .ref 93] M1 _
  refine yRF.call (zFF_le L xs) _ rfl rfl rfl rfl rfl h2 ?_
  show yRF (zFF L xs) 166 289 [(3, .int (nI i)), (2, .ref 93), (1, .ref 0), (0, .retAddr 3)] [.int v2] M2 _
  refine yRF.adv 2 (pc' := 1061) (lv' := [(3, .int (nI i)), (2, .ref 93), (1, .ref 0), (0, .retAddr 3)]) (st' := []) (M' := M2) rfl ?_
  exact K
theorem zlw_3 {Q : Option Value → zMm → Prop} {L : Nat} {xs : Nat → Int32} {i : Nat} {M M1 M2 : zMm} {v1 v2 : Int32} (hL : L < 2 ^ 31) (hi : i + 5 ≤ L) (h1 : yOk 41 0 (lv_args 0 (.ref 0 :: [.int (xs (i + 1)), .int (xs (i + 2)), .int (xs (i + 3))])) [] M (some (.int v1)) M1) (h2 : yOk 127 0 (lv_args 0 (.ref 93 :: [.int (xs (i + 1)), .int (xs (i + 2)), .int (xs (i + 3))])) [] M1 (some (.int v2)) M2) (K : yRF (zFF L xs) 166 1061 [(3, .int (nI i)), (2, .ref 93), (1, .ref 0), (0, .retAddr 3)] [] M2 Q) : yRF (zFF L xs) 166 293 [(3, .int (nI i)), (2, .ref 93), (1, .ref 0), (0, .retAddr 3)] [] M Q := by
  refine yRF.adv 5 (pc' := 298) (lv' := [(3, .int (nI i)), (2, .ref 93), (1, .ref 0), (0, .retAddr 3)]) (st' := [.int (nI i + 1), .retAddr 3, .ref 0]) (M' := M) rfl ?_
  refine yRF.sld (i + 1) _ _ _ rfl hL (nI_add i 1) (by omega) ?_
  show yRF (zFF L xs) 166 299 [(3, .int (nI i)), (2, .ref 93), (1, .ref 0), (0, .retAddr 3)] [.int (xs (i + 1)), .ref 0] M _
  refine yRF.adv 4 (pc' := 303) (lv' := [(3, .int (nI i)), (2, .ref 93), (1, .ref 0), (0, .retAddr 3)]) (st' := [.int (nI i + 2), .retAddr 3, .int (xs (i + 1)), .ref 0]) (M' := M) rfl ?_
  refine yRF.sld (i + 2) _ _ _ rfl hL (nI_add i 2) (by omega) ?_
  show yRF (zFF L xs) 166 304 [(3, .int (nI i)), (2, .ref 93), (1, .ref 0), (0, .retAddr 3)] [.int (xs (i + 2)), .int (xs (i + 1)), .ref 0] M _
  refine yRF.adv 4 (pc' := 308) (lv' := [(3, .int (nI i)), (2, .ref 93), (1, .ref 0), (0, .retAddr 3)]) (st' := [.int (nI i + 3), .retAddr 3, .int (xs (i + 2)), .int (xs (i + 1)), .ref 0]) (M' := M) rfl ?_
  refine yRF.sld (i + 3) _ _ _ rfl hL (nI_add i 3) (by omega) ?_
  show yRF (zFF L xs) 166 309 [(3, .int (nI i)), (2, .ref 93), (1, .ref 0), (0, .retAddr 3)] [.int (xs (i + 3)), .int (xs (i + 2)), .int (xs (i + 1)), .ref 0] M _
  refine yRF.call (zFF_le L xs) _ rfl rfl rfl rfl rfl h1 ?_
  show yRF (zFF L xs) 166 312 [(3, .int (nI i)), (2, .ref 93), (1, .ref 0), (0, .retAddr 3)] [.int v1] M1 _
  refine yRF.adv 6 (pc' := 318) (lv' := [(3, .int (nI i)), (2, .ref 93), (1, .ref 0), (0, .retAddr 3)]) (st' := [.int (nI i + 1), .retAddr 3, .ref 93]) (M' := M1) rfl ?_
  refine yRF.sld (i + 1) _ _ _ rfl hL (nI_add i 1) (by omega) ?_
  show yRF (zFF L xs) 166 319 [(3, .int (nI i)), (2, .ref 93), (1, .ref 0), (0, .retAddr 3)] [.int (xs (i + 1)), .ref 93] M1 _
  refine yRF.adv 4 (pc' := 323) (lv' := [(3, .int (nI i)), (2, .ref 93), (1, .ref 0), (0, .retAddr 3)]) (st' := [.int (nI i + 2), .retAddr 3, .int (xs (i + 1)), .ref 93]) (M' := M1) rfl ?_
  refine yRF.sld (i + 2) _ _ _ rfl hL (nI_add i 2) (by omega) ?_
  show yRF (zFF L xs) 166 324 [(3, .int (nI i)), (2, .ref 93), (1, .ref 0), (0, .retAddr 3)] [.int (xs (i + 2)), .int (xs (i + 1)), .ref 93] M1 _
  refine yRF.adv 4 (pc' := 328) (lv' := [(3, .int (nI i)), (2, .ref 93), (1, .ref 0), (0, .retAddr 3)]) (st' := [.int (nI i + 3), .retAddr 3, .int (xs (i + 2)), .int (xs (i + 1)), .ref 93]) (M' := M1) rfl ?_
  refine yRF.sld (i + 3) _ _ _ rfl hL (nI_add i 3) (by omega) ?_
  show yRF (zFF L xs) 166 329 [(3, .int (nI i)), (2, .ref 93), (1, .ref 0), (0, .retAddr 3)] [.int (xs (i + 3)), .int (xs (i + 2)), .int (xs (i + 1)), .ref 93] M1 _
  refine yRF.call (zFF_le L xs) _ rfl rfl rfl rfl rfl h2 ?_
  show yRF (zFF L xs) 166 332 [(3, .int (nI i)), (2, .ref 93), (1, .ref 0), (0, .retAddr 3)] [.int v2] M2 _
  refine yRF.adv 2 (pc' := 1061) (lv' := [(3, .int (nI i)), (2, .ref 93), (1, .ref 0), (0, .retAddr 3)]) (st' := []) (M' := M2) rfl ?_
  exact K
theorem zlw_4 {Q : Option Value → zMm → Prop} {L : Nat} {xs : Nat → Int32} {i : Nat} {M M1 M2 : zMm} {v1 v2 : Int32} (hL : L < 2 ^ 31) (hi : i + 5 ≤ L) (h1 : yOk 42 0 (lv_args 0 (.ref 0 :: [.int (xs (i + 1)), .int (xs (i + 2)), .int (xs (i + 3)), .int (xs (i + 4))])) [] M (some (.int v1)) M1) (h2 : yOk 128 0 (lv_args 0 (.ref 93 :: [.int (xs (i + 1)), .int (xs (i + 2)), .int (xs (i + 3)), .int (xs (i + 4))])) [] M1 (some (.int v2)) M2) (K : yRF (zFF L xs) 166 1061 [(3, .int (nI i)), (2, .ref 93), (1, .ref 0), (0, .retAddr 3)] [] M2 Q) : yRF (zFF L xs) 166 336 [(3, .int (nI i)), (2, .ref 93), (1, .ref 0), (0, .retAddr 3)] [] M Q := by
  refine yRF.adv 5 (pc' := 341) (lv' := [(3, .int (nI i)), (2, .ref 93), (1, .ref 0), (0, .retAddr 3)]) (st' := [.int (nI i + 1), .retAddr 3, .ref 0]) (M' := M) rfl ?_
  refine yRF.sld (i + 1) _ _ _ rfl hL (nI_add i 1) (by omega) ?_
  show yRF (zFF L xs) 166 342 [(3, .int (nI i)), (2, .ref 93), (1, .ref 0), (0, .retAddr 3)] [.int (xs (i + 1)), .ref 0] M _
  refine yRF.adv 4 (pc' := 346) (lv' := [(3, .int (nI i)), (2, .ref 93), (1, .ref 0), (0, .retAddr 3)]) (st' := [.int (nI i + 2), .retAddr 3, .int (xs (i + 1)), .ref 0]) (M' := M) rfl ?_
  refine yRF.sld (i + 2) _ _ _ rfl hL (nI_add i 2) (by omega) ?_
  show yRF (zFF L xs) 166 347 [(3, .int (nI i)), (2, .ref 93), (1, .ref 0), (0, .retAddr 3)] [.int (xs (i + 2)), .int (xs (i + 1)), .ref 0] M _
  refine yRF.adv 4 (pc' := 351) (lv' := [(3, .int (nI i)), (2, .ref 93), (1, .ref 0), (0, .retAddr 3)]) (st' := [.int (nI i + 3), .retAddr 3, .int (xs (i + 2)), .int (xs (i + 1)), .ref 0]) (M' := M) rfl ?_
  refine yRF.sld (i + 3) _ _ _ rfl hL (nI_add i 3) (by omega) ?_
  show yRF (zFF L xs) 166 352 [(3, .int (nI i)), (2, .ref 93), (1, .ref 0), (0, .retAddr 3)] [.int (xs (i + 3)), .int (xs (i + 2)), .int (xs (i + 1)), .ref 0] M _
  refine yRF.adv 4 (pc' := 356) (lv' := [(3, .int (nI i)), (2, .ref 93), (1, .ref 0), (0, .retAddr 3)]) (st' := [.int (nI i + 4), .retAddr 3, .int (xs (i + 3)), .int (xs (i + 2)), .int (xs (i + 1)), .ref 0]) (M' := M) rfl ?_
  refine yRF.sld (i + 4) _ _ _ rfl hL (nI_add i 4) (by omega) ?_
  show yRF (zFF L xs) 166 357 [(3, .int (nI i)), (2, .ref 93), (1, .ref 0), (0, .retAddr 3)] [.int (xs (i + 4)), .int (xs (i + 3)), .int (xs (i + 2)), .int (xs (i + 1)), .ref 0] M _
  refine yRF.call (zFF_le L xs) _ rfl rfl rfl rfl rfl h1 ?_
  show yRF (zFF L xs) 166 360 [(3, .int (nI i)), (2, .ref 93), (1, .ref 0), (0, .retAddr 3)] [.int v1] M1 _
  refine yRF.adv 6 (pc' := 366) (lv' := [(3, .int (nI i)), (2, .ref 93), (1, .ref 0), (0, .retAddr 3)]) (st' := [.int (nI i + 1), .retAddr 3, .ref 93]) (M' := M1) rfl ?_
  refine yRF.sld (i + 1) _ _ _ rfl hL (nI_add i 1) (by omega) ?_
  show yRF (zFF L xs) 166 367 [(3, .int (nI i)), (2, .ref 93), (1, .ref 0), (0, .retAddr 3)] [.int (xs (i + 1)), .ref 93] M1 _
  refine yRF.adv 4 (pc' := 371) (lv' := [(3, .int (nI i)), (2, .ref 93), (1, .ref 0), (0, .retAddr 3)]) (st' := [.int (nI i + 2), .retAddr 3, .int (xs (i + 1)), .ref 93]) (M' := M1) rfl ?_
  refine yRF.sld (i + 2) _ _ _ rfl hL (nI_add i 2) (by omega) ?_
  show yRF (zFF L xs) 166 372 [(3, .int (nI i)), (2, .ref 93), (1, .ref 0), (0, .retAddr 3)] [.int (xs (i + 2)), .int (xs (i + 1)), .ref 93] M1 _
  refine yRF.adv 4 (pc' := 376) (lv' := [(3, .int (nI i)), (2, .ref 93), (1, .ref 0), (0, .retAddr 3)]) (st' := [.int (nI i + 3), .retAddr 3, .int (xs (i + 2)), .int (xs (i + 1)), .ref 93]) (M' := M1) rfl ?_
  refine yRF.sld (i + 3) _ _ _ rfl hL (nI_add i 3) (by omega) ?_
  show yRF (zFF L xs) 166 377 [(3, .int (nI i)), (2, .ref 93), (1, .ref 0), (0, .retAddr 3)] [.int (xs (i + 3)), .int (xs (i + 2)), .int (xs (i + 1)), .ref 93] M1 _
  refine yRF.adv 4 (pc' := 381) (lv' := [(3, .int (nI i)), (2, .ref 93), (1, .ref 0), (0, .retAddr 3)]) (st' := [.int (nI i + 4), .retAddr 3, .int (xs (i + 3)), .int (xs (i + 2)), .int (xs (i + 1)), .ref 93]) (M' := M1) rfl ?_
  refine yRF.sld (i + 4) _ _ _ rfl hL (nI_add i 4) (by omega) ?_
  show yRF (zFF L xs) 166 382 [(3, .int (nI i)), (2, .ref 93), (1, .ref 0), (0, .retAddr 3)] [.int (xs (i + 4)), .int (xs (i + 3)), .int (xs (i + 2)), .int (xs (i + 1)), .ref 93] M1 _
  refine yRF.call (zFF_le L xs) _ rfl rfl rfl rfl rfl h2 ?_
  show yRF (zFF L xs) 166 385 [(3, .int (nI i)), (2, .ref 93), (1, .ref 0), (0, .retAddr 3)] [.int v2] M2 _
  refine yRF.adv 2 (pc' := 1061) (lv' := [(3, .int (nI i)), (2, .ref 93), (1, .ref 0), (0, .retAddr 3)]) (st' := []) (M' := M2) rfl ?_
  exact K
theorem zlw_5 {Q : Option Value → zMm → Prop} {L : Nat} {xs : Nat → Int32} {i : Nat} {M M1 M2 : zMm} {v1 v2 : Int32} (hL : L < 2 ^ 31) (hi : i + 5 ≤ L) (h1 : yOk 43 0 (lv_args 0 (.ref 0 :: [.int (xs (i + 1))])) [] M (some (.int v1)) M1) (h2 : yOk 129 0 (lv_args 0 (.ref 93 :: [.int (xs (i + 1))])) [] M1 (some (.int v2)) M2) (K : yRF (zFF L xs) 166 1061 [(3, .int (nI i)), (2, .ref 93), (1, .ref 0), (0, .retAddr 3)] [] M2 Q) : yRF (zFF L xs) 166 389 [(3, .int (nI i)), (2, .ref 93), (1, .ref 0), (0, .retAddr 3)] [] M Q := by
  refine yRF.adv 5 (pc' := 394) (lv' := [(3, .int (nI i)), (2, .ref 93), (1, .ref 0), (0, .retAddr 3)]) (st' := [.int (nI i + 1), .retAddr 3, .ref 0]) (M' := M) rfl ?_
  refine yRF.sld (i + 1) _ _ _ rfl hL (nI_add i 1) (by omega) ?_
  show yRF (zFF L xs) 166 395 [(3, .int (nI i)), (2, .ref 93), (1, .ref 0), (0, .retAddr 3)] [.int (xs (i + 1)), .ref 0] M _
  refine yRF.call (zFF_le L xs) _ rfl rfl rfl rfl rfl h1 ?_
  show yRF (zFF L xs) 166 398 [(3, .int (nI i)), (2, .ref 93), (1, .ref 0), (0, .retAddr 3)] [.int v1] M1 _
  refine yRF.adv 6 (pc' := 404) (lv' := [(3, .int (nI i)), (2, .ref 93), (1, .ref 0), (0, .retAddr 3)]) (st' := [.int (nI i + 1), .retAddr 3, .ref 93]) (M' := M1) rfl ?_
  refine yRF.sld (i + 1) _ _ _ rfl hL (nI_add i 1) (by omega) ?_
  show yRF (zFF L xs) 166 405 [(3, .int (nI i)), (2, .ref 93), (1, .ref 0), (0, .retAddr 3)] [.int (xs (i + 1)), .ref 93] M1 _
  refine yRF.call (zFF_le L xs) _ rfl rfl rfl rfl rfl h2 ?_
  show yRF (zFF L xs) 166 408 [(3, .int (nI i)), (2, .ref 93), (1, .ref 0), (0, .retAddr 3)] [.int v2] M2 _
  refine yRF.adv 2 (pc' := 1061) (lv' := [(3, .int (nI i)), (2, .ref 93), (1, .ref 0), (0, .retAddr 3)]) (st' := []) (M' := M2) rfl ?_
  exact K
theorem zlw_6 {Q : Option Value → zMm → Prop} {L : Nat} {xs : Nat → Int32} {i : Nat} {M M1 M2 : zMm} {v1 v2 : Int32} (hL : L < 2 ^ 31) (hi : i + 5 ≤ L) (h1 : yOk 44 0 (lv_args 0 (.ref 0 :: [.int (xs (i + 1)), .int (xs (i + 2))])) [] M (some (.int v1)) M1) (h2 : yOk 132 0 (lv_args 0 (.ref 93 :: [.int (xs (i + 1)), .int (xs (i + 2))])) [] M1 (some (.int v2)) M2) (K : yRF (zFF L xs) 166 1061 [(3, .int (nI i)), (2, .ref 93), (1, .ref 0), (0, .retAddr 3)] [] M2 Q) : yRF (zFF L xs) 166 412 [(3, .int (nI i)), (2, .ref 93), (1, .ref 0), (0, .retAddr 3)] [] M Q := by
  refine yRF.adv 5 (pc' := 417) (lv' := [(3, .int (nI i)), (2, .ref 93), (1, .ref 0), (0, .retAddr 3)]) (st' := [.int (nI i + 1), .retAddr 3, .ref 0]) (M' := M) rfl ?_
  refine yRF.sld (i + 1) _ _ _ rfl hL (nI_add i 1) (by omega) ?_
  show yRF (zFF L xs) 166 418 [(3, .int (nI i)), (2, .ref 93), (1, .ref 0), (0, .retAddr 3)] [.int (xs (i + 1)), .ref 0] M _
  refine yRF.adv 4 (pc' := 422) (lv' := [(3, .int (nI i)), (2, .ref 93), (1, .ref 0), (0, .retAddr 3)]) (st' := [.int (nI i + 2), .retAddr 3, .int (xs (i + 1)), .ref 0]) (M' := M) rfl ?_
  refine yRF.sld (i + 2) _ _ _ rfl hL (nI_add i 2) (by omega) ?_
  show yRF (zFF L xs) 166 423 [(3, .int (nI i)), (2, .ref 93), (1, .ref 0), (0, .retAddr 3)] [.int (xs (i + 2)), .int (xs (i + 1)), .ref 0] M _
  refine yRF.call (zFF_le L xs) _ rfl rfl rfl rfl rfl h1 ?_
  show yRF (zFF L xs) 166 426 [(3, .int (nI i)), (2, .ref 93), (1, .ref 0), (0, .retAddr 3)] [.int v1] M1 _
  refine yRF.adv 6 (pc' := 432) (lv' := [(3, .int (nI i)), (2, .ref 93), (1, .ref 0), (0, .retAddr 3)]) (st' := [.int (nI i + 1), .retAddr 3, .ref 93]) (M' := M1) rfl ?_
  refine yRF.sld (i + 1) _ _ _ rfl hL (nI_add i 1) (by omega) ?_
  show yRF (zFF L xs) 166 433 [(3, .int (nI i)), (2, .ref 93), (1, .ref 0), (0, .retAddr 3)] [.int (xs (i + 1)), .ref 93] M1 _
  refine yRF.adv 4 (pc' := 437) (lv' := [(3, .int (nI i)), (2, .ref 93), (1, .ref 0), (0, .retAddr 3)]) (st' := [.int (nI i + 2), .retAddr 3, .int (xs (i + 1)), .ref 93]) (M' := M1) rfl ?_
  refine yRF.sld (i + 2) _ _ _ rfl hL (nI_add i 2) (by omega) ?_
  show yRF (zFF L xs) 166 438 [(3, .int (nI i)), (2, .ref 93), (1, .ref 0), (0, .retAddr 3)] [.int (xs (i + 2)), .int (xs (i + 1)), .ref 93] M1 _
  refine yRF.call (zFF_le L xs) _ rfl rfl rfl rfl rfl h2 ?_
  show yRF (zFF L xs) 166 441 [(3, .int (nI i)), (2, .ref 93), (1, .ref 0), (0, .retAddr 3)] [.int v2] M2 _
  refine yRF.adv 2 (pc' := 1061) (lv' := [(3, .int (nI i)), (2, .ref 93), (1, .ref 0), (0, .retAddr 3)]) (st' := []) (M' := M2) rfl ?_
  exact K
theorem zlw_7 {Q : Option Value → zMm → Prop} {L : Nat} {xs : Nat → Int32} {i : Nat} {M M1 M2 : zMm} {v1 v2 : Int64} (hL : L < 2 ^ 31) (hi : i + 5 ≤ L) (h1 : yOk 45 0 (lv_args 0 (.ref 0 :: [.int (xs (i + 1)), .int (xs (i + 2)), .int (xs (i + 3))])) [] M (some (.long v1)) M1) (h2 : yOk 116 0 (lv_args 0 (.ref 93 :: [.int (xs (i + 1)), .int (xs (i + 2)), .int (xs (i + 3))])) [] M1 (some (.long v2)) M2) (K : yRF (zFF L xs) 166 1061 [(3, .int (nI i)), (2, .ref 93), (1, .ref 0), (0, .retAddr 3)] [] M2 Q) : yRF (zFF L xs) 166 445 [(3, .int (nI i)), (2, .ref 93), (1, .ref 0), (0, .retAddr 3)] [] M Q := by
  refine yRF.adv 5 (pc' := 450) (lv' := [(3, .int (nI i)), (2, .ref 93), (1, .ref 0), (0, .retAddr 3)]) (st' := [.int (nI i + 1), .retAddr 3, .ref 0]) (M' := M) rfl ?_
  refine yRF.sld (i + 1) _ _ _ rfl hL (nI_add i 1) (by omega) ?_
  show yRF (zFF L xs) 166 451 [(3, .int (nI i)), (2, .ref 93), (1, .ref 0), (0, .retAddr 3)] [.int (xs (i + 1)), .ref 0] M _
  refine yRF.adv 4 (pc' := 455) (lv' := [(3, .int (nI i)), (2, .ref 93), (1, .ref 0), (0, .retAddr 3)]) (st' := [.int (nI i + 2), .retAddr 3, .int (xs (i + 1)), .ref 0]) (M' := M) rfl ?_
  refine yRF.sld (i + 2) _ _ _ rfl hL (nI_add i 2) (by omega) ?_
  show yRF (zFF L xs) 166 456 [(3, .int (nI i)), (2, .ref 93), (1, .ref 0), (0, .retAddr 3)] [.int (xs (i + 2)), .int (xs (i + 1)), .ref 0] M _
  refine yRF.adv 4 (pc' := 460) (lv' := [(3, .int (nI i)), (2, .ref 93), (1, .ref 0), (0, .retAddr 3)]) (st' := [.int (nI i + 3), .retAddr 3, .int (xs (i + 2)), .int (xs (i + 1)), .ref 0]) (M' := M) rfl ?_
  refine yRF.sld (i + 3) _ _ _ rfl hL (nI_add i 3) (by omega) ?_
  show yRF (zFF L xs) 166 461 [(3, .int (nI i)), (2, .ref 93), (1, .ref 0), (0, .retAddr 3)] [.int (xs (i + 3)), .int (xs (i + 2)), .int (xs (i + 1)), .ref 0] M _
  refine yRF.call (zFF_le L xs) _ rfl rfl rfl rfl rfl h1 ?_
  show yRF (zFF L xs) 166 464 [(3, .int (nI i)), (2, .ref 93), (1, .ref 0), (0, .retAddr 3)] [.long v1] M1 _
  refine yRF.adv 6 (pc' := 470) (lv' := [(3, .int (nI i)), (2, .ref 93), (1, .ref 0), (0, .retAddr 3)]) (st' := [.int (nI i + 1), .retAddr 3, .ref 93]) (M' := M1) rfl ?_
  refine yRF.sld (i + 1) _ _ _ rfl hL (nI_add i 1) (by omega) ?_
  show yRF (zFF L xs) 166 471 [(3, .int (nI i)), (2, .ref 93), (1, .ref 0), (0, .retAddr 3)] [.int (xs (i + 1)), .ref 93] M1 _
  refine yRF.adv 4 (pc' := 475) (lv' := [(3, .int (nI i)), (2, .ref 93), (1, .ref 0), (0, .retAddr 3)]) (st' := [.int (nI i + 2), .retAddr 3, .int (xs (i + 1)), .ref 93]) (M' := M1) rfl ?_
  refine yRF.sld (i + 2) _ _ _ rfl hL (nI_add i 2) (by omega) ?_
  show yRF (zFF L xs) 166 476 [(3, .int (nI i)), (2, .ref 93), (1, .ref 0), (0, .retAddr 3)] [.int (xs (i + 2)), .int (xs (i + 1)), .ref 93] M1 _
  refine yRF.adv 4 (pc' := 480) (lv' := [(3, .int (nI i)), (2, .ref 93), (1, .ref 0), (0, .retAddr 3)]) (st' := [.int (nI i + 3), .retAddr 3, .int (xs (i + 2)), .int (xs (i + 1)), .ref 93]) (M' := M1) rfl ?_
  refine yRF.sld (i + 3) _ _ _ rfl hL (nI_add i 3) (by omega) ?_
  show yRF (zFF L xs) 166 481 [(3, .int (nI i)), (2, .ref 93), (1, .ref 0), (0, .retAddr 3)] [.int (xs (i + 3)), .int (xs (i + 2)), .int (xs (i + 1)), .ref 93] M1 _
  refine yRF.call (zFF_le L xs) _ rfl rfl rfl rfl rfl h2 ?_
  show yRF (zFF L xs) 166 484 [(3, .int (nI i)), (2, .ref 93), (1, .ref 0), (0, .retAddr 3)] [.long v2] M2 _
  refine yRF.adv 2 (pc' := 1061) (lv' := [(3, .int (nI i)), (2, .ref 93), (1, .ref 0), (0, .retAddr 3)]) (st' := []) (M' := M2) rfl ?_
  exact K
theorem zlw_8 {Q : Option Value → zMm → Prop} {L : Nat} {xs : Nat → Int32} {i : Nat} {M M1 M2 : zMm} {v1 v2 : Int64} (hL : L < 2 ^ 31) (hi : i + 5 ≤ L) (h1 : yOk 46 0 (lv_args 0 (.ref 0 :: [.int (xs (i + 1)), .int (xs (i + 2)), .int (xs (i + 3))])) [] M (some (.long v1)) M1) (h2 : yOk 117 0 (lv_args 0 (.ref 93 :: [.int (xs (i + 1)), .int (xs (i + 2)), .int (xs (i + 3))])) [] M1 (some (.long v2)) M2) (K : yRF (zFF L xs) 166 1061 [(3, .int (nI i)), (2, .ref 93), (1, .ref 0), (0, .retAddr 3)] [] M2 Q) : yRF (zFF L xs) 166 488 [(3, .int (nI i)), (2, .ref 93), (1, .ref 0), (0, .retAddr 3)] [] M Q := by
  refine yRF.adv 5 (pc' := 493) (lv' := [(3, .int (nI i)), (2, .ref 93), (1, .ref 0), (0, .retAddr 3)]) (st' := [.int (nI i + 1), .retAddr 3, .ref 0]) (M' := M) rfl ?_
  refine yRF.sld (i + 1) _ _ _ rfl hL (nI_add i 1) (by omega) ?_
  show yRF (zFF L xs) 166 494 [(3, .int (nI i)), (2, .ref 93), (1, .ref 0), (0, .retAddr 3)] [.int (xs (i + 1)), .ref 0] M _
  refine yRF.adv 4 (pc' := 498) (lv' := [(3, .int (nI i)), (2, .ref 93), (1, .ref 0), (0, .retAddr 3)]) (st' := [.int (nI i + 2), .retAddr 3, .int (xs (i + 1)), .ref 0]) (M' := M) rfl ?_
  refine yRF.sld (i + 2) _ _ _ rfl hL (nI_add i 2) (by omega) ?_
  show yRF (zFF L xs) 166 499 [(3, .int (nI i)), (2, .ref 93), (1, .ref 0), (0, .retAddr 3)] [.int (xs (i + 2)), .int (xs (i + 1)), .ref 0] M _
  refine yRF.adv 4 (pc' := 503) (lv' := [(3, .int (nI i)), (2, .ref 93), (1, .ref 0), (0, .retAddr 3)]) (st' := [.int (nI i + 3), .retAddr 3, .int (xs (i + 2)), .int (xs (i + 1)), .ref 0]) (M' := M) rfl ?_
  refine yRF.sld (i + 3) _ _ _ rfl hL (nI_add i 3) (by omega) ?_
  show yRF (zFF L xs) 166 504 [(3, .int (nI i)), (2, .ref 93), (1, .ref 0), (0, .retAddr 3)] [.int (xs (i + 3)), .int (xs (i + 2)), .int (xs (i + 1)), .ref 0] M _
  refine yRF.call (zFF_le L xs) _ rfl rfl rfl rfl rfl h1 ?_
  show yRF (zFF L xs) 166 507 [(3, .int (nI i)), (2, .ref 93), (1, .ref 0), (0, .retAddr 3)] [.long v1] M1 _
  refine yRF.adv 6 (pc' := 513) (lv' := [(3, .int (nI i)), (2, .ref 93), (1, .ref 0), (0, .retAddr 3)]) (st' := [.int (nI i + 1), .retAddr 3, .ref 93]) (M' := M1) rfl ?_
  refine yRF.sld (i + 1) _ _ _ rfl hL (nI_add i 1) (by omega) ?_
  show yRF (zFF L xs) 166 514 [(3, .int (nI i)), (2, .ref 93), (1, .ref 0), (0, .retAddr 3)] [.int (xs (i + 1)), .ref 93] M1 _
  refine yRF.adv 4 (pc' := 518) (lv' := [(3, .int (nI i)), (2, .ref 93), (1, .ref 0), (0, .retAddr 3)]) (st' := [.int (nI i + 2), .retAddr 3, .int (xs (i + 1)), .ref 93]) (M' := M1) rfl ?_
  refine yRF.sld (i + 2) _ _ _ rfl hL (nI_add i 2) (by omega) ?_
  show yRF (zFF L xs) 166 519 [(3, .int (nI i)), (2, .ref 93), (1, .ref 0), (0, .retAddr 3)] [.int (xs (i + 2)), .int (xs (i + 1)), .ref 93] M1 _
  refine yRF.adv 4 (pc' := 523) (lv' := [(3, .int (nI i)), (2, .ref 93), (1, .ref 0), (0, .retAddr 3)]) (st' := [.int (nI i + 3), .retAddr 3, .int (xs (i + 2)), .int (xs (i + 1)), .ref 93]) (M' := M1) rfl ?_
  refine yRF.sld (i + 3) _ _ _ rfl hL (nI_add i 3) (by omega) ?_
  show yRF (zFF L xs) 166 524 [(3, .int (nI i)), (2, .ref 93), (1, .ref 0), (0, .retAddr 3)] [.int (xs (i + 3)), .int (xs (i + 2)), .int (xs (i + 1)), .ref 93] M1 _
  refine yRF.call (zFF_le L xs) _ rfl rfl rfl rfl rfl h2 ?_
  show yRF (zFF L xs) 166 527 [(3, .int (nI i)), (2, .ref 93), (1, .ref 0), (0, .retAddr 3)] [.long v2] M2 _
  refine yRF.adv 2 (pc' := 1061) (lv' := [(3, .int (nI i)), (2, .ref 93), (1, .ref 0), (0, .retAddr 3)]) (st' := []) (M' := M2) rfl ?_
  exact K
theorem zlw_9 {Q : Option Value → zMm → Prop} {L : Nat} {xs : Nat → Int32} {i : Nat} {M M1 M2 : zMm} {v1 v2 : Int32} (hL : L < 2 ^ 31) (hi : i + 5 ≤ L) (h1 : yOk 47 0 (lv_args 0 (.ref 0 :: [])) [] M (some (.int v1)) M1) (h2 : yOk 134 0 (lv_args 0 (.ref 93 :: [])) [] M1 (some (.int v2)) M2) (K : yRF (zFF L xs) 166 1061 [(3, .int (nI i)), (2, .ref 93), (1, .ref 0), (0, .retAddr 3)] [] M2 Q) : yRF (zFF L xs) 166 531 [(3, .int (nI i)), (2, .ref 93), (1, .ref 0), (0, .retAddr 3)] [] M Q := by
  refine yRF.adv 1 (pc' := 532) (lv' := [(3, .int (nI i)), (2, .ref 93), (1, .ref 0), (0, .retAddr 3)]) (st' := [.ref 0]) (M' := M) rfl ?_
  refine yRF.call (zFF_le L xs) _ rfl rfl rfl rfl rfl h1 ?_
  show yRF (zFF L xs) 166 535 [(3, .int (nI i)), (2, .ref 93), (1, .ref 0), (0, .retAddr 3)] [.int v1] M1 _
  refine yRF.adv 2 (pc' := 537) (lv' := [(3, .int (nI i)), (2, .ref 93), (1, .ref 0), (0, .retAddr 3)]) (st' := [.ref 93]) (M' := M1) rfl ?_
  refine yRF.call (zFF_le L xs) _ rfl rfl rfl rfl rfl h2 ?_
  show yRF (zFF L xs) 166 540 [(3, .int (nI i)), (2, .ref 93), (1, .ref 0), (0, .retAddr 3)] [.int v2] M2 _
  refine yRF.adv 2 (pc' := 1061) (lv' := [(3, .int (nI i)), (2, .ref 93), (1, .ref 0), (0, .retAddr 3)]) (st' := []) (M' := M2) rfl ?_
  exact K
theorem zlw_10 {Q : Option Value → zMm → Prop} {L : Nat} {xs : Nat → Int32} {i : Nat} {M M1 M2 : zMm} {v1 v2 : Int32} (hL : L < 2 ^ 31) (hi : i + 5 ≤ L) (h1 : yOk 48 0 (lv_args 0 (.ref 0 :: [.int (xs (i + 1))])) [] M (some (.int v1)) M1) (h2 : yOk 135 0 (lv_args 0 (.ref 93 :: [.int (xs (i + 1))])) [] M1 (some (.int v2)) M2) (K : yRF (zFF L xs) 166 1061 [(3, .int (nI i)), (2, .ref 93), (1, .ref 0), (0, .retAddr 3)] [] M2 Q) : yRF (zFF L xs) 166 544 [(3, .int (nI i)), (2, .ref 93), (1, .ref 0), (0, .retAddr 3)] [] M Q := by
  refine yRF.adv 5 (pc' := 549) (lv' := [(3, .int (nI i)), (2, .ref 93), (1, .ref 0), (0, .retAddr 3)]) (st' := [.int (nI i + 1), .retAddr 3, .ref 0]) (M' := M) rfl ?_
  refine yRF.sld (i + 1) _ _ _ rfl hL (nI_add i 1) (by omega) ?_
  show yRF (zFF L xs) 166 550 [(3, .int (nI i)), (2, .ref 93), (1, .ref 0), (0, .retAddr 3)] [.int (xs (i + 1)), .ref 0] M _
  refine yRF.call (zFF_le L xs) _ rfl rfl rfl rfl rfl h1 ?_
  show yRF (zFF L xs) 166 553 [(3, .int (nI i)), (2, .ref 93), (1, .ref 0), (0, .retAddr 3)] [.int v1] M1 _
  refine yRF.adv 6 (pc' := 559) (lv' := [(3, .int (nI i)), (2, .ref 93), (1, .ref 0), (0, .retAddr 3)]) (st' := [.int (nI i + 1), .retAddr 3, .ref 93]) (M' := M1) rfl ?_
  refine yRF.sld (i + 1) _ _ _ rfl hL (nI_add i 1) (by omega) ?_
  show yRF (zFF L xs) 166 560 [(3, .int (nI i)), (2, .ref 93), (1, .ref 0), (0, .retAddr 3)] [.int (xs (i + 1)), .ref 93] M1 _
  refine yRF.call (zFF_le L xs) _ rfl rfl rfl rfl rfl h2 ?_
  show yRF (zFF L xs) 166 563 [(3, .int (nI i)), (2, .ref 93), (1, .ref 0), (0, .retAddr 3)] [.int v2] M2 _
  refine yRF.adv 2 (pc' := 1061) (lv' := [(3, .int (nI i)), (2, .ref 93), (1, .ref 0), (0, .retAddr 3)]) (st' := []) (M' := M2) rfl ?_
  exact K
theorem zlw_11 {Q : Option Value → zMm → Prop} {L : Nat} {xs : Nat → Int32} {i : Nat} {M M1 M2 : zMm} {v1 v2 : Int32} (hL : L < 2 ^ 31) (hi : i + 5 ≤ L) (h1 : yOk 49 0 (lv_args 0 (.ref 0 :: [.int (xs (i + 1))])) [] M (some (.int v1)) M1) (h2 : yOk 137 0 (lv_args 0 (.ref 93 :: [.int (xs (i + 1))])) [] M1 (some (.int v2)) M2) (K : yRF (zFF L xs) 166 1061 [(3, .int (nI i)), (2, .ref 93), (1, .ref 0), (0, .retAddr 3)] [] M2 Q) : yRF (zFF L xs) 166 567 [(3, .int (nI i)), (2, .ref 93), (1, .ref 0), (0, .retAddr 3)] [] M Q := by
  refine yRF.adv 5 (pc' := 572) (lv' := [(3, .int (nI i)), (2, .ref 93), (1, .ref 0), (0, .retAddr 3)]) (st' := [.int (nI i + 1), .retAddr 3, .ref 0]) (M' := M) rfl ?_
  refine yRF.sld (i + 1) _ _ _ rfl hL (nI_add i 1) (by omega) ?_
  show yRF (zFF L xs) 166 573 [(3, .int (nI i)), (2, .ref 93), (1, .ref 0), (0, .retAddr 3)] [.int (xs (i + 1)), .ref 0] M _
  refine yRF.call (zFF_le L xs) _ rfl rfl rfl rfl rfl h1 ?_
  show yRF (zFF L xs) 166 576 [(3, .int (nI i)), (2, .ref 93), (1, .ref 0), (0, .retAddr 3)] [.int v1] M1 _
  refine yRF.adv 6 (pc' := 582) (lv' := [(3, .int (nI i)), (2, .ref 93), (1, .ref 0), (0, .retAddr 3)]) (st' := [.int (nI i + 1), .retAddr 3, .ref 93]) (M' := M1) rfl ?_
  refine yRF.sld (i + 1) _ _ _ rfl hL (nI_add i 1) (by omega) ?_
  show yRF (zFF L xs) 166 583 [(3, .int (nI i)), (2, .ref 93), (1, .ref 0), (0, .retAddr 3)] [.int (xs (i + 1)), .ref 93] M1 _
  refine yRF.call (zFF_le L xs) _ rfl rfl rfl rfl rfl h2 ?_
  show yRF (zFF L xs) 166 586 [(3, .int (nI i)), (2, .ref 93), (1, .ref 0), (0, .retAddr 3)] [.int v2] M2 _
  refine yRF.adv 2 (pc' := 1061) (lv' := [(3, .int (nI i)), (2, .ref 93), (1, .ref 0), (0, .retAddr 3)]) (st' := []) (M' := M2) rfl ?_
  exact K
theorem zlw_12 {Q : Option Value → zMm → Prop} {L : Nat} {xs : Nat → Int32} {i : Nat} {M M1 M2 : zMm} {v1 v2 : Int32} (hL : L < 2 ^ 31) (hi : i + 5 ≤ L) (h1 : yOk 50 0 (lv_args 0 (.ref 0 :: [.int (xs (i + 1))])) [] M (some (.int v1)) M1) (h2 : yOk 138 0 (lv_args 0 (.ref 93 :: [.int (xs (i + 1))])) [] M1 (some (.int v2)) M2) (K : yRF (zFF L xs) 166 1061 [(3, .int (nI i)), (2, .ref 93), (1, .ref 0), (0, .retAddr 3)] [] M2 Q) : yRF (zFF L xs) 166 590 [(3, .int (nI i)), (2, .ref 93), (1, .ref 0), (0, .retAddr 3)] [] M Q := by
  refine yRF.adv 5 (pc' := 595) (lv' := [(3, .int (nI i)), (2, .ref 93), (1, .ref 0), (0, .retAddr 3)]) (st' := [.int (nI i + 1), .retAddr 3, .ref 0]) (M' := M) rfl ?_
  refine yRF.sld (i + 1) _ _ _ rfl hL (nI_add i 1) (by omega) ?_
  show yRF (zFF L xs) 166 596 [(3, .int (nI i)), (2, .ref 93), (1, .ref 0), (0, .retAddr 3)] [.int (xs (i + 1)), .ref 0] M _
  refine yRF.call (zFF_le L xs) _ rfl rfl rfl rfl rfl h1 ?_
  show yRF (zFF L xs) 166 599 [(3, .int (nI i)), (2, .ref 93), (1, .ref 0), (0, .retAddr 3)] [.int v1] M1 _
  refine yRF.adv 6 (pc' := 605) (lv' := [(3, .int (nI i)), (2, .ref 93), (1, .ref 0), (0, .retAddr 3)]) (st' := [.int (nI i + 1), .retAddr 3, .ref 93]) (M' := M1) rfl ?_
  refine yRF.sld (i + 1) _ _ _ rfl hL (nI_add i 1) (by omega) ?_
  show yRF (zFF L xs) 166 606 [(3, .int (nI i)), (2, .ref 93), (1, .ref 0), (0, .retAddr 3)] [.int (xs (i + 1)), .ref 93] M1 _
  refine yRF.call (zFF_le L xs) _ rfl rfl rfl rfl rfl h2 ?_
  show yRF (zFF L xs) 166 609 [(3, .int (nI i)), (2, .ref 93), (1, .ref 0), (0, .retAddr 3)] [.int v2] M2 _
  refine yRF.adv 2 (pc' := 1061) (lv' := [(3, .int (nI i)), (2, .ref 93), (1, .ref 0), (0, .retAddr 3)]) (st' := []) (M' := M2) rfl ?_
  exact K
theorem zlw_13 {Q : Option Value → zMm → Prop} {L : Nat} {xs : Nat → Int32} {i : Nat} {M M1 M2 : zMm} {v1 v2 : Int32} (hL : L < 2 ^ 31) (hi : i + 5 ≤ L) (h1 : yOk 51 0 (lv_args 0 (.ref 0 :: [.int (xs (i + 1))])) [] M (some (.int v1)) M1) (h2 : yOk 139 0 (lv_args 0 (.ref 93 :: [.int (xs (i + 1))])) [] M1 (some (.int v2)) M2) (K : yRF (zFF L xs) 166 1061 [(3, .int (nI i)), (2, .ref 93), (1, .ref 0), (0, .retAddr 3)] [] M2 Q) : yRF (zFF L xs) 166 613 [(3, .int (nI i)), (2, .ref 93), (1, .ref 0), (0, .retAddr 3)] [] M Q := by
  refine yRF.adv 5 (pc' := 618) (lv' := [(3, .int (nI i)), (2, .ref 93), (1, .ref 0), (0, .retAddr 3)]) (st' := [.int (nI i + 1), .retAddr 3, .ref 0]) (M' := M) rfl ?_
  refine yRF.sld (i + 1) _ _ _ rfl hL (nI_add i 1) (by omega) ?_
  show yRF (zFF L xs) 166 619 [(3, .int (nI i)), (2, .ref 93), (1, .ref 0), (0, .retAddr 3)] [.int (xs (i + 1)), .ref 0] M _
  refine yRF.call (zFF_le L xs) _ rfl rfl rfl rfl rfl h1 ?_
  show yRF (zFF L xs) 166 622 [(3, .int (nI i)), (2, .ref 93), (1, .ref 0), (0, .retAddr 3)] [.int v1] M1 _
  refine yRF.adv 6 (pc' := 628) (lv' := [(3, .int (nI i)), (2, .ref 93), (1, .ref 0), (0, .retAddr 3)]) (st' := [.int (nI i + 1), .retAddr 3, .ref 93]) (M' := M1) rfl ?_
  refine yRF.sld (i + 1) _ _ _ rfl hL (nI_add i 1) (by omega) ?_
  show yRF (zFF L xs) 166 629 [(3, .int (nI i)), (2, .ref 93), (1, .ref 0), (0, .retAddr 3)] [.int (xs (i + 1)), .ref 93] M1 _
  refine yRF.call (zFF_le L xs) _ rfl rfl rfl rfl rfl h2 ?_
  show yRF (zFF L xs) 166 632 [(3, .int (nI i)), (2, .ref 93), (1, .ref 0), (0, .retAddr 3)] [.int v2] M2 _
  refine yRF.adv 2 (pc' := 1061) (lv' := [(3, .int (nI i)), (2, .ref 93), (1, .ref 0), (0, .retAddr 3)]) (st' := []) (M' := M2) rfl ?_
  exact K
theorem zlw_14 {Q : Option Value → zMm → Prop} {L : Nat} {xs : Nat → Int32} {i : Nat} {M M1 M2 : zMm} {v1 v2 : Int32} (hL : L < 2 ^ 31) (hi : i + 5 ≤ L) (h1 : yOk 52 0 (lv_args 0 (.ref 0 :: [.int (xs (i + 1))])) [] M (some (.int v1)) M1) (h2 : yOk 140 0 (lv_args 0 (.ref 93 :: [.int (xs (i + 1))])) [] M1 (some (.int v2)) M2) (K : yRF (zFF L xs) 166 1061 [(3, .int (nI i)), (2, .ref 93), (1, .ref 0), (0, .retAddr 3)] [] M2 Q) : yRF (zFF L xs) 166 636 [(3, .int (nI i)), (2, .ref 93), (1, .ref 0), (0, .retAddr 3)] [] M Q := by
  refine yRF.adv 5 (pc' := 641) (lv' := [(3, .int (nI i)), (2, .ref 93), (1, .ref 0), (0, .retAddr 3)]) (st' := [.int (nI i + 1), .retAddr 3, .ref 0]) (M' := M) rfl ?_
  refine yRF.sld (i + 1) _ _ _ rfl hL (nI_add i 1) (by omega) ?_
  show yRF (zFF L xs) 166 642 [(3, .int (nI i)), (2, .ref 93), (1, .ref 0), (0, .retAddr 3)] [.int (xs (i + 1)), .ref 0] M _
  refine yRF.call (zFF_le L xs) _ rfl rfl rfl rfl rfl h1 ?_
  show yRF (zFF L xs) 166 645 [(3, .int (nI i)), (2, .ref 93), (1, .ref 0), (0, .retAddr 3)] [.int v1] M1 _
  refine yRF.adv 6 (pc' := 651) (lv' := [(3, .int (nI i)), (2, .ref 93), (1, .ref 0), (0, .retAddr 3)]) (st' := [.int (nI i + 1), .retAddr 3, .ref 93]) (M' := M1) rfl ?_
  refine yRF.sld (i + 1) _ _ _ rfl hL (nI_add i 1) (by omega) ?_
  show yRF (zFF L xs) 166 652 [(3, .int (nI i)), (2, .ref 93), (1, .ref 0), (0, .retAddr 3)] [.int (xs (i + 1)), .ref 93] M1 _
  refine yRF.call (zFF_le L xs) _ rfl rfl rfl rfl rfl h2 ?_
  show yRF (zFF L xs) 166 655 [(3, .int (nI i)), (2, .ref 93), (1, .ref 0), (0, .retAddr 3)] [.int v2] M2 _
  refine yRF.adv 2 (pc' := 1061) (lv' := [(3, .int (nI i)), (2, .ref 93), (1, .ref 0), (0, .retAddr 3)]) (st' := []) (M' := M2) rfl ?_
  exact K
theorem zlw_15 {Q : Option Value → zMm → Prop} {L : Nat} {xs : Nat → Int32} {i : Nat} {M M1 M2 : zMm} {v1 v2 : Int32} (hL : L < 2 ^ 31) (hi : i + 5 ≤ L) (h1 : yOk 53 0 (lv_args 0 (.ref 0 :: [.int (xs (i + 1)), .int (xs (i + 2))])) [] M (some (.int v1)) M1) (h2 : yOk 147 0 (lv_args 0 (.ref 93 :: [.int (xs (i + 1)), .int (xs (i + 2))])) [] M1 (some (.int v2)) M2) (K : yRF (zFF L xs) 166 1061 [(3, .int (nI i)), (2, .ref 93), (1, .ref 0), (0, .retAddr 3)] [] M2 Q) : yRF (zFF L xs) 166 659 [(3, .int (nI i)), (2, .ref 93), (1, .ref 0), (0, .retAddr 3)] [] M Q := by
  refine yRF.adv 5 (pc' := 664) (lv' := [(3, .int (nI i)), (2, .ref 93), (1, .ref 0), (0, .retAddr 3)]) (st' := [.int (nI i + 1), .retAddr 3, .ref 0]) (M' := M) rfl ?_
  refine yRF.sld (i + 1) _ _ _ rfl hL (nI_add i 1) (by omega) ?_
  show yRF (zFF L xs) 166 665 [(3, .int (nI i)), (2, .ref 93), (1, .ref 0), (0, .retAddr 3)] [.int (xs (i + 1)), .ref 0] M _
  refine yRF.adv 4 (pc' := 669) (lv' := [(3, .int (nI i)), (2, .ref 93), (1, .ref 0), (0, .retAddr 3)]) (st' := [.int (nI i + 2), .retAddr 3, .int (xs (i + 1)), .ref 0]) (M' := M) rfl ?_
  refine yRF.sld (i + 2) _ _ _ rfl hL (nI_add i 2) (by omega) ?_
  show yRF (zFF L xs) 166 670 [(3, .int (nI i)), (2, .ref 93), (1, .ref 0), (0, .retAddr 3)] [.int (xs (i + 2)), .int (xs (i + 1)), .ref 0] M _
  refine yRF.call (zFF_le L xs) _ rfl rfl rfl rfl rfl h1 ?_
  show yRF (zFF L xs) 166 673 [(3, .int (nI i)), (2, .ref 93), (1, .ref 0), (0, .retAddr 3)] [.int v1] M1 _
  refine yRF.adv 6 (pc' := 679) (lv' := [(3, .int (nI i)), (2, .ref 93), (1, .ref 0), (0, .retAddr 3)]) (st' := [.int (nI i + 1), .retAddr 3, .ref 93]) (M' := M1) rfl ?_
  refine yRF.sld (i + 1) _ _ _ rfl hL (nI_add i 1) (by omega) ?_
  show yRF (zFF L xs) 166 680 [(3, .int (nI i)), (2, .ref 93), (1, .ref 0), (0, .retAddr 3)] [.int (xs (i + 1)), .ref 93] M1 _
  refine yRF.adv 4 (pc' := 684) (lv' := [(3, .int (nI i)), (2, .ref 93), (1, .ref 0), (0, .retAddr 3)]) (st' := [.int (nI i + 2), .retAddr 3, .int (xs (i + 1)), .ref 93]) (M' := M1) rfl ?_
  refine yRF.sld (i + 2) _ _ _ rfl hL (nI_add i 2) (by omega) ?_
  show yRF (zFF L xs) 166 685 [(3, .int (nI i)), (2, .ref 93), (1, .ref 0), (0, .retAddr 3)] [.int (xs (i + 2)), .int (xs (i + 1)), .ref 93] M1 _
  refine yRF.call (zFF_le L xs) _ rfl rfl rfl rfl rfl h2 ?_
  show yRF (zFF L xs) 166 688 [(3, .int (nI i)), (2, .ref 93), (1, .ref 0), (0, .retAddr 3)] [.int v2] M2 _
  refine yRF.adv 2 (pc' := 1061) (lv' := [(3, .int (nI i)), (2, .ref 93), (1, .ref 0), (0, .retAddr 3)]) (st' := []) (M' := M2) rfl ?_
  exact K
theorem zlw_16 {Q : Option Value → zMm → Prop} {L : Nat} {xs : Nat → Int32} {i : Nat} {M M1 M2 : zMm} {v1 v2 : Int64} (hL : L < 2 ^ 31) (hi : i + 5 ≤ L) (h1 : yOk 54 0 (lv_args 0 (.ref 0 :: [.int (xs (i + 1)), .int (xs (i + 2))])) [] M (some (.long v1)) M1) (h2 : yOk 148 0 (lv_args 0 (.ref 93 :: [.int (xs (i + 1)), .int (xs (i + 2))])) [] M1 (some (.long v2)) M2) (K : yRF (zFF L xs) 166 1061 [(3, .int (nI i)), (2, .ref 93), (1, .ref 0), (0, .retAddr 3)] [] M2 Q) : yRF (zFF L xs) 166 692 [(3, .int (nI i)), (2, .ref 93), (1, .ref 0), (0, .retAddr 3)] [] M Q := by
  refine yRF.adv 5 (pc' := 697) (lv' := [(3, .int (nI i)), (2, .ref 93), (1, .ref 0), (0, .retAddr 3)]) (st' := [.int (nI i + 1), .retAddr 3, .ref 0]) (M' := M) rfl ?_
  refine yRF.sld (i + 1) _ _ _ rfl hL (nI_add i 1) (by omega) ?_
  show yRF (zFF L xs) 166 698 [(3, .int (nI i)), (2, .ref 93), (1, .ref 0), (0, .retAddr 3)] [.int (xs (i + 1)), .ref 0] M _
  refine yRF.adv 4 (pc' := 702) (lv' := [(3, .int (nI i)), (2, .ref 93), (1, .ref 0), (0, .retAddr 3)]) (st' := [.int (nI i + 2), .retAddr 3, .int (xs (i + 1)), .ref 0]) (M' := M) rfl ?_
  refine yRF.sld (i + 2) _ _ _ rfl hL (nI_add i 2) (by omega) ?_
  show yRF (zFF L xs) 166 703 [(3, .int (nI i)), (2, .ref 93), (1, .ref 0), (0, .retAddr 3)] [.int (xs (i + 2)), .int (xs (i + 1)), .ref 0] M _
  refine yRF.call (zFF_le L xs) _ rfl rfl rfl rfl rfl h1 ?_
  show yRF (zFF L xs) 166 706 [(3, .int (nI i)), (2, .ref 93), (1, .ref 0), (0, .retAddr 3)] [.long v1] M1 _
  refine yRF.adv 6 (pc' := 712) (lv' := [(3, .int (nI i)), (2, .ref 93), (1, .ref 0), (0, .retAddr 3)]) (st' := [.int (nI i + 1), .retAddr 3, .ref 93]) (M' := M1) rfl ?_
  refine yRF.sld (i + 1) _ _ _ rfl hL (nI_add i 1) (by omega) ?_
  show yRF (zFF L xs) 166 713 [(3, .int (nI i)), (2, .ref 93), (1, .ref 0), (0, .retAddr 3)] [.int (xs (i + 1)), .ref 93] M1 _
  refine yRF.adv 4 (pc' := 717) (lv' := [(3, .int (nI i)), (2, .ref 93), (1, .ref 0), (0, .retAddr 3)]) (st' := [.int (nI i + 2), .retAddr 3, .int (xs (i + 1)), .ref 93]) (M' := M1) rfl ?_
  refine yRF.sld (i + 2) _ _ _ rfl hL (nI_add i 2) (by omega) ?_
  show yRF (zFF L xs) 166 718 [(3, .int (nI i)), (2, .ref 93), (1, .ref 0), (0, .retAddr 3)] [.int (xs (i + 2)), .int (xs (i + 1)), .ref 93] M1 _
  refine yRF.call (zFF_le L xs) _ rfl rfl rfl rfl rfl h2 ?_
  show yRF (zFF L xs) 166 721 [(3, .int (nI i)), (2, .ref 93), (1, .ref 0), (0, .retAddr 3)] [.long v2] M2 _
  refine yRF.adv 2 (pc' := 1061) (lv' := [(3, .int (nI i)), (2, .ref 93), (1, .ref 0), (0, .retAddr 3)]) (st' := []) (M' := M2) rfl ?_
  exact K
theorem zlw_17 {Q : Option Value → zMm → Prop} {L : Nat} {xs : Nat → Int32} {i : Nat} {M M1 M2 : zMm} {v1 v2 : Int64} (hL : L < 2 ^ 31) (hi : i + 5 ≤ L) (h1 : yOk 55 0 (lv_args 0 (.ref 0 :: [.int (xs (i + 1))])) [] M (some (.long v1)) M1) (h2 : yOk 150 0 (lv_args 0 (.ref 93 :: [.int (xs (i + 1))])) [] M1 (some (.long v2)) M2) (K : yRF (zFF L xs) 166 1061 [(3, .int (nI i)), (2, .ref 93), (1, .ref 0), (0, .retAddr 3)] [] M2 Q) : yRF (zFF L xs) 166 725 [(3, .int (nI i)), (2, .ref 93), (1, .ref 0), (0, .retAddr 3)] [] M Q := by
  refine yRF.adv 5 (pc' := 730) (lv' := [(3, .int (nI i)), (2, .ref 93), (1, .ref 0), (0, .retAddr 3)]) (st' := [.int (nI i + 1), .retAddr 3, .ref 0]) (M' := M) rfl ?_
  refine yRF.sld (i + 1) _ _ _ rfl hL (nI_add i 1) (by omega) ?_
  show yRF (zFF L xs) 166 731 [(3, .int (nI i)), (2, .ref 93), (1, .ref 0), (0, .retAddr 3)] [.int (xs (i + 1)), .ref 0] M _
  refine yRF.call (zFF_le L xs) _ rfl rfl rfl rfl rfl h1 ?_
  show yRF (zFF L xs) 166 734 [(3, .int (nI i)), (2, .ref 93), (1, .ref 0), (0, .retAddr 3)] [.long v1] M1 _
  refine yRF.adv 6 (pc' := 740) (lv' := [(3, .int (nI i)), (2, .ref 93), (1, .ref 0), (0, .retAddr 3)]) (st' := [.int (nI i + 1), .retAddr 3, .ref 93]) (M' := M1) rfl ?_
  refine yRF.sld (i + 1) _ _ _ rfl hL (nI_add i 1) (by omega) ?_
  show yRF (zFF L xs) 166 741 [(3, .int (nI i)), (2, .ref 93), (1, .ref 0), (0, .retAddr 3)] [.int (xs (i + 1)), .ref 93] M1 _
  refine yRF.call (zFF_le L xs) _ rfl rfl rfl rfl rfl h2 ?_
  show yRF (zFF L xs) 166 744 [(3, .int (nI i)), (2, .ref 93), (1, .ref 0), (0, .retAddr 3)] [.long v2] M2 _
  refine yRF.adv 2 (pc' := 1061) (lv' := [(3, .int (nI i)), (2, .ref 93), (1, .ref 0), (0, .retAddr 3)]) (st' := []) (M' := M2) rfl ?_
  exact K
theorem zlw_18 {Q : Option Value → zMm → Prop} {L : Nat} {xs : Nat → Int32} {i : Nat} {M M1 M2 : zMm} {v1 v2 : Int64} (hL : L < 2 ^ 31) (hi : i + 5 ≤ L) (h1 : yOk 56 0 (lv_args 0 (.ref 0 :: [.int (xs (i + 1)), .int (xs (i + 2))])) [] M (some (.long v1)) M1) (h2 : yOk 152 0 (lv_args 0 (.ref 93 :: [.int (xs (i + 1)), .int (xs (i + 2))])) [] M1 (some (.long v2)) M2) (K : yRF (zFF L xs) 166 1061 [(3, .int (nI i)), (2, .ref 93), (1, .ref 0), (0, .retAddr 3)] [] M2 Q) : yRF (zFF L xs) 166 748 [(3, .int (nI i)), (2, .ref 93), (1, .ref 0), (0, .retAddr 3)] [] M Q := by
  refine yRF.adv 5 (pc' := 753) (lv' := [(3, .int (nI i)), (2, .ref 93), (1, .ref 0), (0, .retAddr 3)]) (st' := [.int (nI i + 1), .retAddr 3, .ref 0]) (M' := M) rfl ?_
  refine yRF.sld (i + 1) _ _ _ rfl hL (nI_add i 1) (by omega) ?_
  show yRF (zFF L xs) 166 754 [(3, .int (nI i)), (2, .ref 93), (1, .ref 0), (0, .retAddr 3)] [.int (xs (i + 1)), .ref 0] M _
  refine yRF.adv 4 (pc' := 758) (lv' := [(3, .int (nI i)), (2, .ref 93), (1, .ref 0), (0, .retAddr 3)]) (st' := [.int (nI i + 2), .retAddr 3, .int (xs (i + 1)), .ref 0]) (M' := M) rfl ?_
  refine yRF.sld (i + 2) _ _ _ rfl hL (nI_add i 2) (by omega) ?_
  show yRF (zFF L xs) 166 759 [(3, .int (nI i)), (2, .ref 93), (1, .ref 0), (0, .retAddr 3)] [.int (xs (i + 2)), .int (xs (i + 1)), .ref 0] M _
  refine yRF.call (zFF_le L xs) _ rfl rfl rfl rfl rfl h1 ?_
  show yRF (zFF L xs) 166 762 [(3, .int (nI i)), (2, .ref 93), (1, .ref 0), (0, .retAddr 3)] [.long v1] M1 _
  refine yRF.adv 6 (pc' := 768) (lv' := [(3, .int (nI i)), (2, .ref 93), (1, .ref 0), (0, .retAddr 3)]) (st' := [.int (nI i + 1), .retAddr 3, .ref 93]) (M' := M1) rfl ?_
  refine yRF.sld (i + 1) _ _ _ rfl hL (nI_add i 1) (by omega) ?_
  show yRF (zFF L xs) 166 769 [(3, .int (nI i)), (2, .ref 93), (1, .ref 0), (0, .retAddr 3)] [.int (xs (i + 1)), .ref 93] M1 _
  refine yRF.adv 4 (pc' := 773) (lv' := [(3, .int (nI i)), (2, .ref 93), (1, .ref 0), (0, .retAddr 3)]) (st' := [.int (nI i + 2), .retAddr 3, .int (xs (i + 1)), .ref 93]) (M' := M1) rfl ?_
  refine yRF.sld (i + 2) _ _ _ rfl hL (nI_add i 2) (by omega) ?_
  show yRF (zFF L xs) 166 774 [(3, .int (nI i)), (2, .ref 93), (1, .ref 0), (0, .retAddr 3)] [.int (xs (i + 2)), .int (xs (i + 1)), .ref 93] M1 _
  refine yRF.call (zFF_le L xs) _ rfl rfl rfl rfl rfl h2 ?_
  show yRF (zFF L xs) 166 777 [(3, .int (nI i)), (2, .ref 93), (1, .ref 0), (0, .retAddr 3)] [.long v2] M2 _
  refine yRF.adv 2 (pc' := 1061) (lv' := [(3, .int (nI i)), (2, .ref 93), (1, .ref 0), (0, .retAddr 3)]) (st' := []) (M' := M2) rfl ?_
  exact K
theorem zlw_19 {Q : Option Value → zMm → Prop} {L : Nat} {xs : Nat → Int32} {i : Nat} {M M1 M2 : zMm} {v1 v2 : Int32} (hL : L < 2 ^ 31) (hi : i + 5 ≤ L) (h1 : yOk 57 0 (lv_args 0 (.ref 0 :: [.int (xs (i + 1)), .int (xs (i + 2)), .int (xs (i + 3))])) [] M (some (.int v1)) M1) (h2 : yOk 153 0 (lv_args 0 (.ref 93 :: [.int (xs (i + 1)), .int (xs (i + 2)), .int (xs (i + 3))])) [] M1 (some (.int v2)) M2) (K : yRF (zFF L xs) 166 1061 [(3, .int (nI i)), (2, .ref 93), (1, .ref 0), (0, .retAddr 3)] [] M2 Q) : yRF (zFF L xs) 166 781 [(3, .int (nI i)), (2, .ref 93), (1, .ref 0), (0, .retAddr 3)] [] M Q := by
  refine yRF.adv 5 (pc' := 786) (lv' := [(3, .int (nI i)), (2, .ref 93), (1, .ref 0), (0, .retAddr 3)]) (st' := [.int (nI i + 1), .retAddr 3, .ref 0]) (M' := M) rfl ?_
  refine yRF.sld (i + 1) _ _ _ rfl hL (nI_add i 1) (by omega) ?_
  show yRF (zFF L xs) 166 787 [(3, .int (nI i)), (2, .ref 93), (1, .ref 0), (0, .retAddr 3)] [.int (xs (i + 1)), .ref 0] M _
  refine yRF.adv 4 (pc' := 791) (lv' := [(3, .int (nI i)), (2, .ref 93), (1, .ref 0), (0, .retAddr 3)]) (st' := [.int (nI i + 2), .retAddr 3, .int (xs (i + 1)), .ref 0]) (M' := M) rfl ?_
  refine yRF.sld (i + 2) _ _ _ rfl hL (nI_add i 2) (by omega) ?_
  show yRF (zFF L xs) 166 792 [(3, .int (nI i)), (2, .ref 93), (1, .ref 0), (0, .retAddr 3)] [.int (xs (i + 2)), .int (xs (i + 1)), .ref 0] M _
  refine yRF.adv 4 (pc' := 796) (lv' := [(3, .int (nI i)), (2, .ref 93), (1, .ref 0), (0, .retAddr 3)]) (st' := [.int (nI i + 3), .retAddr 3, .int (xs (i + 2)), .int (xs (i + 1)), .ref 0]) (M' := M) rfl ?_
  refine yRF.sld (i + 3) _ _ _ rfl hL (nI_add i 3) (by omega) ?_
  show yRF (zFF L xs) 166 797 [(3, .int (nI i)), (2, .ref 93), (1, .ref 0), (0, .retAddr 3)] [.int (xs (i + 3)), .int (xs (i + 2)), .int (xs (i + 1)), .ref 0] M _
  refine yRF.call (zFF_le L xs) _ rfl rfl rfl rfl rfl h1 ?_
  show yRF (zFF L xs) 166 800 [(3, .int (nI i)), (2, .ref 93), (1, .ref 0), (0, .retAddr 3)] [.int v1] M1 _
  refine yRF.adv 6 (pc' := 806) (lv' := [(3, .int (nI i)), (2, .ref 93), (1, .ref 0), (0, .retAddr 3)]) (st' := [.int (nI i + 1), .retAddr 3, .ref 93]) (M' := M1) rfl ?_
  refine yRF.sld (i + 1) _ _ _ rfl hL (nI_add i 1) (by omega) ?_
  show yRF (zFF L xs) 166 807 [(3, .int (nI i)), (2, .ref 93), (1, .ref 0), (0, .retAddr 3)] [.int (xs (i + 1)), .ref 93] M1 _
  refine yRF.adv 4 (pc' := 811) (lv' := [(3, .int (nI i)), (2, .ref 93), (1, .ref 0), (0, .retAddr 3)]) (st' := [.int (nI i + 2), .retAddr 3, .int (xs (i + 1)), .ref 93]) (M' := M1) rfl ?_
  refine yRF.sld (i + 2) _ _ _ rfl hL (nI_add i 2) (by omega) ?_
  show yRF (zFF L xs) 166 812 [(3, .int (nI i)), (2, .ref 93), (1, .ref 0), (0, .retAddr 3)] [.int (xs (i + 2)), .int (xs (i + 1)), .ref 93] M1 _
  refine yRF.adv 4 (pc' := 816) (lv' := [(3, .int (nI i)), (2, .ref 93), (1, .ref 0), (0, .retAddr 3)]) (st' := [.int (nI i + 3), .retAddr 3, .int (xs (i + 2)), .int (xs (i + 1)), .ref 93]) (M' := M1) rfl ?_
  refine yRF.sld (i + 3) _ _ _ rfl hL (nI_add i 3) (by omega) ?_
  show yRF (zFF L xs) 166 817 [(3, .int (nI i)), (2, .ref 93), (1, .ref 0), (0, .retAddr 3)] [.int (xs (i + 3)), .int (xs (i + 2)), .int (xs (i + 1)), .ref 93] M1 _
  refine yRF.call (zFF_le L xs) _ rfl rfl rfl rfl rfl h2 ?_
  show yRF (zFF L xs) 166 820 [(3, .int (nI i)), (2, .ref 93), (1, .ref 0), (0, .retAddr 3)] [.int v2] M2 _
  refine yRF.adv 2 (pc' := 1061) (lv' := [(3, .int (nI i)), (2, .ref 93), (1, .ref 0), (0, .retAddr 3)]) (st' := []) (M' := M2) rfl ?_
  exact K
theorem zlw_20 {Q : Option Value → zMm → Prop} {L : Nat} {xs : Nat → Int32} {i : Nat} {M M1 M2 : zMm} {v1 v2 : Int32} (hL : L < 2 ^ 31) (hi : i + 5 ≤ L) (h1 : yOk 58 0 (lv_args 0 (.ref 0 :: [.int (xs (i + 1))])) [] M (some (.int v1)) M1) (h2 : yOk 154 0 (lv_args 0 (.ref 93 :: [.int (xs (i + 1))])) [] M1 (some (.int v2)) M2) (K : yRF (zFF L xs) 166 1061 [(3, .int (nI i)), (2, .ref 93), (1, .ref 0), (0, .retAddr 3)] [] M2 Q) : yRF (zFF L xs) 166 824 [(3, .int (nI i)), (2, .ref 93), (1, .ref 0), (0, .retAddr 3)] [] M Q := by
  refine yRF.adv 5 (pc' := 829) (lv' := [(3, .int (nI i)), (2, .ref 93), (1, .ref 0), (0, .retAddr 3)]) (st' := [.int (nI i + 1), .retAddr 3, .ref 0]) (M' := M) rfl ?_
  refine yRF.sld (i + 1) _ _ _ rfl hL (nI_add i 1) (by omega) ?_
  show yRF (zFF L xs) 166 830 [(3, .int (nI i)), (2, .ref 93), (1, .ref 0), (0, .retAddr 3)] [.int (xs (i + 1)), .ref 0] M _
  refine yRF.call (zFF_le L xs) _ rfl rfl rfl rfl rfl h1 ?_
  show yRF (zFF L xs) 166 833 [(3, .int (nI i)), (2, .ref 93), (1, .ref 0), (0, .retAddr 3)] [.int v1] M1 _
  refine yRF.adv 6 (pc' := 839) (lv' := [(3, .int (nI i)), (2, .ref 93), (1, .ref 0), (0, .retAddr 3)]) (st' := [.int (nI i + 1), .retAddr 3, .ref 93]) (M' := M1) rfl ?_
  refine yRF.sld (i + 1) _ _ _ rfl hL (nI_add i 1) (by omega) ?_
  show yRF (zFF L xs) 166 840 [(3, .int (nI i)), (2, .ref 93), (1, .ref 0), (0, .retAddr 3)] [.int (xs (i + 1)), .ref 93] M1 _
  refine yRF.call (zFF_le L xs) _ rfl rfl rfl rfl rfl h2 ?_
  show yRF (zFF L xs) 166 843 [(3, .int (nI i)), (2, .ref 93), (1, .ref 0), (0, .retAddr 3)] [.int v2] M2 _
  refine yRF.adv 2 (pc' := 1061) (lv' := [(3, .int (nI i)), (2, .ref 93), (1, .ref 0), (0, .retAddr 3)]) (st' := []) (M' := M2) rfl ?_
  exact K
theorem zlw_21 {Q : Option Value → zMm → Prop} {L : Nat} {xs : Nat → Int32} {i : Nat} {M M1 M2 : zMm} {v1 v2 : Int32} (hL : L < 2 ^ 31) (hi : i + 5 ≤ L) (h1 : yOk 59 0 (lv_args 0 (.ref 0 :: [.int (xs (i + 1)), .int (xs (i + 2)), .int (xs (i + 3))])) [] M (some (.int v1)) M1) (h2 : yOk 155 0 (lv_args 0 (.ref 93 :: [.int (xs (i + 1)), .int (xs (i + 2)), .int (xs (i + 3))])) [] M1 (some (.int v2)) M2) (K : yRF (zFF L xs) 166 1061 [(3, .int (nI i)), (2, .ref 93), (1, .ref 0), (0, .retAddr 3)] [] M2 Q) : yRF (zFF L xs) 166 847 [(3, .int (nI i)), (2, .ref 93), (1, .ref 0), (0, .retAddr 3)] [] M Q := by
  refine yRF.adv 5 (pc' := 852) (lv' := [(3, .int (nI i)), (2, .ref 93), (1, .ref 0), (0, .retAddr 3)]) (st' := [.int (nI i + 1), .retAddr 3, .ref 0]) (M' := M) rfl ?_
  refine yRF.sld (i + 1) _ _ _ rfl hL (nI_add i 1) (by omega) ?_
  show yRF (zFF L xs) 166 853 [(3, .int (nI i)), (2, .ref 93), (1, .ref 0), (0, .retAddr 3)] [.int (xs (i + 1)), .ref 0] M _
  refine yRF.adv 4 (pc' := 857) (lv' := [(3, .int (nI i)), (2, .ref 93), (1, .ref 0), (0, .retAddr 3)]) (st' := [.int (nI i + 2), .retAddr 3, .int (xs (i + 1)), .ref 0]) (M' := M) rfl ?_
  refine yRF.sld (i + 2) _ _ _ rfl hL (nI_add i 2) (by omega) ?_
  show yRF (zFF L xs) 166 858 [(3, .int (nI i)), (2, .ref 93), (1, .ref 0), (0, .retAddr 3)] [.int (xs (i + 2)), .int (xs (i + 1)), .ref 0] M _
  refine yRF.adv 4 (pc' := 862) (lv' := [(3, .int (nI i)), (2, .ref 93), (1, .ref 0), (0, .retAddr 3)]) (st' := [.int (nI i + 3), .retAddr 3, .int (xs (i + 2)), .int (xs (i + 1)), .ref 0]) (M' := M) rfl ?_
  refine yRF.sld (i + 3) _ _ _ rfl hL (nI_add i 3) (by omega) ?_
  show yRF (zFF L xs) 166 863 [(3, .int (nI i)), (2, .ref 93), (1, .ref 0), (0, .retAddr 3)] [.int (xs (i + 3)), .int (xs (i + 2)), .int (xs (i + 1)), .ref 0] M _
  refine yRF.call (zFF_le L xs) _ rfl rfl rfl rfl rfl h1 ?_
  show yRF (zFF L xs) 166 866 [(3, .int (nI i)), (2, .ref 93), (1, .ref 0), (0, .retAddr 3)] [.int v1] M1 _
  refine yRF.adv 6 (pc' := 872) (lv' := [(3, .int (nI i)), (2, .ref 93), (1, .ref 0), (0, .retAddr 3)]) (st' := [.int (nI i + 1), .retAddr 3, .ref 93]) (M' := M1) rfl ?_
  refine yRF.sld (i + 1) _ _ _ rfl hL (nI_add i 1) (by omega) ?_
  show yRF (zFF L xs) 166 873 [(3, .int (nI i)), (2, .ref 93), (1, .ref 0), (0, .retAddr 3)] [.int (xs (i + 1)), .ref 93] M1 _
  refine yRF.adv 4 (pc' := 877) (lv' := [(3, .int (nI i)), (2, .ref 93), (1, .ref 0), (0, .retAddr 3)]) (st' := [.int (nI i + 2), .retAddr 3, .int (xs (i + 1)), .ref 93]) (M' := M1) rfl ?_
  refine yRF.sld (i + 2) _ _ _ rfl hL (nI_add i 2) (by omega) ?_
  show yRF (zFF L xs) 166 878 [(3, .int (nI i)), (2, .ref 93), (1, .ref 0), (0, .retAddr 3)] [.int (xs (i + 2)), .int (xs (i + 1)), .ref 93] M1 _
  refine yRF.adv 4 (pc' := 882) (lv' := [(3, .int (nI i)), (2, .ref 93), (1, .ref 0), (0, .retAddr 3)]) (st' := [.int (nI i + 3), .retAddr 3, .int (xs (i + 2)), .int (xs (i + 1)), .ref 93]) (M' := M1) rfl ?_
  refine yRF.sld (i + 3) _ _ _ rfl hL (nI_add i 3) (by omega) ?_
  show yRF (zFF L xs) 166 883 [(3, .int (nI i)), (2, .ref 93), (1, .ref 0), (0, .retAddr 3)] [.int (xs (i + 3)), .int (xs (i + 2)), .int (xs (i + 1)), .ref 93] M1 _
  refine yRF.call (zFF_le L xs) _ rfl rfl rfl rfl rfl h2 ?_
  show yRF (zFF L xs) 166 886 [(3, .int (nI i)), (2, .ref 93), (1, .ref 0), (0, .retAddr 3)] [.int v2] M2 _
  refine yRF.adv 2 (pc' := 1061) (lv' := [(3, .int (nI i)), (2, .ref 93), (1, .ref 0), (0, .retAddr 3)]) (st' := []) (M' := M2) rfl ?_
  exact K
theorem zlw_22 {Q : Option Value → zMm → Prop} {L : Nat} {xs : Nat → Int32} {i : Nat} {M M1 M2 : zMm} {v1 v2 : Int64} (hL : L < 2 ^ 31) (hi : i + 5 ≤ L) (h1 : yOk 60 0 (lv_args 0 (.ref 0 :: [.int (xs (i + 1)), .int (xs (i + 2)), .int (xs (i + 3))])) [] M (some (.long v1)) M1) (h2 : yOk 156 0 (lv_args 0 (.ref 93 :: [.int (xs (i + 1)), .int (xs (i + 2)), .int (xs (i + 3))])) [] M1 (some (.long v2)) M2) (K : yRF (zFF L xs) 166 1061 [(3, .int (nI i)), (2, .ref 93), (1, .ref 0), (0, .retAddr 3)] [] M2 Q) : yRF (zFF L xs) 166 890 [(3, .int (nI i)), (2, .ref 93), (1, .ref 0), (0, .retAddr 3)] [] M Q := by
  refine yRF.adv 5 (pc' := 895) (lv' := [(3, .int (nI i)), (2, .ref 93), (1, .ref 0), (0, .retAddr 3)]) (st' := [.int (nI i + 1), .retAddr 3, .ref 0]) (M' := M) rfl ?_
  refine yRF.sld (i + 1) _ _ _ rfl hL (nI_add i 1) (by omega) ?_
  show yRF (zFF L xs) 166 896 [(3, .int (nI i)), (2, .ref 93), (1, .ref 0), (0, .retAddr 3)] [.int (xs (i + 1)), .ref 0] M _
  refine yRF.adv 4 (pc' := 900) (lv' := [(3, .int (nI i)), (2, .ref 93), (1, .ref 0), (0, .retAddr 3)]) (st' := [.int (nI i + 2), .retAddr 3, .int (xs (i + 1)), .ref 0]) (M' := M) rfl ?_
  refine yRF.sld (i + 2) _ _ _ rfl hL (nI_add i 2) (by omega) ?_
  show yRF (zFF L xs) 166 901 [(3, .int (nI i)), (2, .ref 93), (1, .ref 0), (0, .retAddr 3)] [.int (xs (i + 2)), .int (xs (i + 1)), .ref 0] M _
  refine yRF.adv 4 (pc' := 905) (lv' := [(3, .int (nI i)), (2, .ref 93), (1, .ref 0), (0, .retAddr 3)]) (st' := [.int (nI i + 3), .retAddr 3, .int (xs (i + 2)), .int (xs (i + 1)), .ref 0]) (M' := M) rfl ?_
  refine yRF.sld (i + 3) _ _ _ rfl hL (nI_add i 3) (by omega) ?_
  show yRF (zFF L xs) 166 906 [(3, .int (nI i)), (2, .ref 93), (1, .ref 0), (0, .retAddr 3)] [.int (xs (i + 3)), .int (xs (i + 2)), .int (xs (i + 1)), .ref 0] M _
  refine yRF.call (zFF_le L xs) _ rfl rfl rfl rfl rfl h1 ?_
  show yRF (zFF L xs) 166 909 [(3, .int (nI i)), (2, .ref 93), (1, .ref 0), (0, .retAddr 3)] [.long v1] M1 _
  refine yRF.adv 6 (pc' := 915) (lv' := [(3, .int (nI i)), (2, .ref 93), (1, .ref 0), (0, .retAddr 3)]) (st' := [.int (nI i + 1), .retAddr 3, .ref 93]) (M' := M1) rfl ?_
  refine yRF.sld (i + 1) _ _ _ rfl hL (nI_add i 1) (by omega) ?_
  show yRF (zFF L xs) 166 916 [(3, .int (nI i)), (2, .ref 93), (1, .ref 0), (0, .retAddr 3)] [.int (xs (i + 1)), .ref 93] M1 _
  refine yRF.adv 4 (pc' := 920) (lv' := [(3, .int (nI i)), (2, .ref 93), (1, .ref 0), (0, .retAddr 3)]) (st' := [.int (nI i + 2), .retAddr 3, .int (xs (i + 1)), .ref 93]) (M' := M1) rfl ?_
  refine yRF.sld (i + 2) _ _ _ rfl hL (nI_add i 2) (by omega) ?_
  show yRF (zFF L xs) 166 921 [(3, .int (nI i)), (2, .ref 93), (1, .ref 0), (0, .retAddr 3)] [.int (xs (i + 2)), .int (xs (i + 1)), .ref 93] M1 _
  refine yRF.adv 4 (pc' := 925) (lv' := [(3, .int (nI i)), (2, .ref 93), (1, .ref 0), (0, .retAddr 3)]) (st' := [.int (nI i + 3), .retAddr 3, .int (xs (i + 2)), .int (xs (i + 1)), .ref 93]) (M' := M1) rfl ?_
  refine yRF.sld (i + 3) _ _ _ rfl hL (nI_add i 3) (by omega) ?_
  show yRF (zFF L xs) 166 926 [(3, .int (nI i)), (2, .ref 93), (1, .ref 0), (0, .retAddr 3)] [.int (xs (i + 3)), .int (xs (i + 2)), .int (xs (i + 1)), .ref 93] M1 _
  refine yRF.call (zFF_le L xs) _ rfl rfl rfl rfl rfl h2 ?_
  show yRF (zFF L xs) 166 929 [(3, .int (nI i)), (2, .ref 93), (1, .ref 0), (0, .retAddr 3)] [.long v2] M2 _
  refine yRF.adv 2 (pc' := 1061) (lv' := [(3, .int (nI i)), (2, .ref 93), (1, .ref 0), (0, .retAddr 3)]) (st' := []) (M' := M2) rfl ?_
  exact K
theorem zlw_23 {Q : Option Value → zMm → Prop} {L : Nat} {xs : Nat → Int32} {i : Nat} {M M1 M2 : zMm} {v1 v2 : Int32} (hL : L < 2 ^ 31) (hi : i + 5 ≤ L) (h1 : yOk 61 0 (lv_args 0 (.ref 0 :: [.int (xs (i + 1))])) [] M (some (.int v1)) M1) (h2 : yOk 158 0 (lv_args 0 (.ref 93 :: [.int (xs (i + 1))])) [] M1 (some (.int v2)) M2) (K : yRF (zFF L xs) 166 1061 [(3, .int (nI i)), (2, .ref 93), (1, .ref 0), (0, .retAddr 3)] [] M2 Q) : yRF (zFF L xs) 166 933 [(3, .int (nI i)), (2, .ref 93), (1, .ref 0), (0, .retAddr 3)] [] M Q := by
  refine yRF.adv 5 (pc' := 938) (lv' := [(3, .int (nI i)), (2, .ref 93), (1, .ref 0), (0, .retAddr 3)]) (st' := [.int (nI i + 1), .retAddr 3, .ref 0]) (M' := M) rfl ?_
  refine yRF.sld (i + 1) _ _ _ rfl hL (nI_add i 1) (by omega) ?_
  show yRF (zFF L xs) 166 939 [(3, .int (nI i)), (2, .ref 93), (1, .ref 0), (0, .retAddr 3)] [.int (xs (i + 1)), .ref 0] M _
  refine yRF.call (zFF_le L xs) _ rfl rfl rfl rfl rfl h1 ?_
  show yRF (zFF L xs) 166 942 [(3, .int (nI i)), (2, .ref 93), (1, .ref 0), (0, .retAddr 3)] [.int v1] M1 _
  refine yRF.adv 6 (pc' := 948) (lv' := [(3, .int (nI i)), (2, .ref 93), (1, .ref 0), (0, .retAddr 3)]) (st' := [.int (nI i + 1), .retAddr 3, .ref 93]) (M' := M1) rfl ?_
  refine yRF.sld (i + 1) _ _ _ rfl hL (nI_add i 1) (by omega) ?_
  show yRF (zFF L xs) 166 949 [(3, .int (nI i)), (2, .ref 93), (1, .ref 0), (0, .retAddr 3)] [.int (xs (i + 1)), .ref 93] M1 _
  refine yRF.call (zFF_le L xs) _ rfl rfl rfl rfl rfl h2 ?_
  show yRF (zFF L xs) 166 952 [(3, .int (nI i)), (2, .ref 93), (1, .ref 0), (0, .retAddr 3)] [.int v2] M2 _
  refine yRF.adv 2 (pc' := 1061) (lv' := [(3, .int (nI i)), (2, .ref 93), (1, .ref 0), (0, .retAddr 3)]) (st' := []) (M' := M2) rfl ?_
  exact K
theorem zlw_24 {Q : Option Value → zMm → Prop} {L : Nat} {xs : Nat → Int32} {i : Nat} {M M1 M2 : zMm} {v1 v2 : Int32} (hL : L < 2 ^ 31) (hi : i + 5 ≤ L) (h1 : yOk 62 0 (lv_args 0 (.ref 0 :: [.int (xs (i + 1))])) [] M (some (.int v1)) M1) (h2 : yOk 159 0 (lv_args 0 (.ref 93 :: [.int (xs (i + 1))])) [] M1 (some (.int v2)) M2) (K : yRF (zFF L xs) 166 1061 [(3, .int (nI i)), (2, .ref 93), (1, .ref 0), (0, .retAddr 3)] [] M2 Q) : yRF (zFF L xs) 166 956 [(3, .int (nI i)), (2, .ref 93), (1, .ref 0), (0, .retAddr 3)] [] M Q := by
  refine yRF.adv 5 (pc' := 961) (lv' := [(3, .int (nI i)), (2, .ref 93), (1, .ref 0), (0, .retAddr 3)]) (st' := [.int (nI i + 1), .retAddr 3, .ref 0]) (M' := M) rfl ?_
  refine yRF.sld (i + 1) _ _ _ rfl hL (nI_add i 1) (by omega) ?_
  show yRF (zFF L xs) 166 962 [(3, .int (nI i)), (2, .ref 93), (1, .ref 0), (0, .retAddr 3)] [.int (xs (i + 1)), .ref 0] M _
  refine yRF.call (zFF_le L xs) _ rfl rfl rfl rfl rfl h1 ?_
  show yRF (zFF L xs) 166 965 [(3, .int (nI i)), (2, .ref 93), (1, .ref 0), (0, .retAddr 3)] [.int v1] M1 _
  refine yRF.adv 6 (pc' := 971) (lv' := [(3, .int (nI i)), (2, .ref 93), (1, .ref 0), (0, .retAddr 3)]) (st' := [.int (nI i + 1), .retAddr 3, .ref 93]) (M' := M1) rfl ?_
  refine yRF.sld (i + 1) _ _ _ rfl hL (nI_add i 1) (by omega) ?_
  show yRF (zFF L xs) 166 972 [(3, .int (nI i)), (2, .ref 93), (1, .ref 0), (0, .retAddr 3)] [.int (xs (i + 1)), .ref 93] M1 _
  refine yRF.call (zFF_le L xs) _ rfl rfl rfl rfl rfl h2 ?_
  show yRF (zFF L xs) 166 975 [(3, .int (nI i)), (2, .ref 93), (1, .ref 0), (0, .retAddr 3)] [.int v2] M2 _
  refine yRF.adv 2 (pc' := 1061) (lv' := [(3, .int (nI i)), (2, .ref 93), (1, .ref 0), (0, .retAddr 3)]) (st' := []) (M' := M2) rfl ?_
  exact K
theorem zlw_25 {Q : Option Value → zMm → Prop} {L : Nat} {xs : Nat → Int32} {i : Nat} {M M1 M2 : zMm} {v1 v2 : Int32} (hL : L < 2 ^ 31) (hi : i + 5 ≤ L) (h1 : yOk 63 0 (lv_args 0 (.ref 0 :: [.int (xs (i + 1)), .int (xs (i + 2))])) [] M (some (.int v1)) M1) (h2 : yOk 160 0 (lv_args 0 (.ref 93 :: [.int (xs (i + 1)), .int (xs (i + 2))])) [] M1 (some (.int v2)) M2) (K : yRF (zFF L xs) 166 1061 [(3, .int (nI i)), (2, .ref 93), (1, .ref 0), (0, .retAddr 3)] [] M2 Q) : yRF (zFF L xs) 166 979 [(3, .int (nI i)), (2, .ref 93), (1, .ref 0), (0, .retAddr 3)] [] M Q := by
  refine yRF.adv 5 (pc' := 984) (lv' := [(3, .int (nI i)), (2, .ref 93), (1, .ref 0), (0, .retAddr 3)]) (st' := [.int (nI i + 1), .retAddr 3, .ref 0]) (M' := M) rfl ?_
  refine yRF.sld (i + 1) _ _ _ rfl hL (nI_add i 1) (by omega) ?_
  show yRF (zFF L xs) 166 985 [(3, .int (nI i)), (2, .ref 93), (1, .ref 0), (0, .retAddr 3)] [.int (xs (i + 1)), .ref 0] M _
  refine yRF.adv 4 (pc' := 989) (lv' := [(3, .int (nI i)), (2, .ref 93), (1, .ref 0), (0, .retAddr 3)]) (st' := [.int (nI i + 2), .retAddr 3, .int (xs (i + 1)), .ref 0]) (M' := M) rfl ?_
  refine yRF.sld (i + 2) _ _ _ rfl hL (nI_add i 2) (by omega) ?_
  show yRF (zFF L xs) 166 990 [(3, .int (nI i)), (2, .ref 93), (1, .ref 0), (0, .retAddr 3)] [.int (xs (i + 2)), .int (xs (i + 1)), .ref 0] M _
  refine yRF.call (zFF_le L xs) _ rfl rfl rfl rfl rfl h1 ?_
  show yRF (zFF L xs) 166 993 [(3, .int (nI i)), (2, .ref 93), (1, .ref 0), (0, .retAddr 3)] [.int v1] M1 _
  refine yRF.adv 6 (pc' := 999) (lv' := [(3, .int (nI i)), (2, .ref 93), (1, .ref 0), (0, .retAddr 3)]) (st' := [.int (nI i + 1), .retAddr 3, .ref 93]) (M' := M1) rfl ?_
  refine yRF.sld (i + 1) _ _ _ rfl hL (nI_add i 1) (by omega) ?_
  show yRF (zFF L xs) 166 1000 [(3, .int (nI i)), (2, .ref 93), (1, .ref 0), (0, .retAddr 3)] [.int (xs (i + 1)), .ref 93] M1 _
  refine yRF.adv 4 (pc' := 1004) (lv' := [(3, .int (nI i)), (2, .ref 93), (1, .ref 0), (0, .retAddr 3)]) (st' := [.int (nI i + 2), .retAddr 3, .int (xs (i + 1)), .ref 93]) (M' := M1) rfl ?_
  refine yRF.sld (i + 2) _ _ _ rfl hL (nI_add i 2) (by omega) ?_
  show yRF (zFF L xs) 166 1005 [(3, .int (nI i)), (2, .ref 93), (1, .ref 0), (0, .retAddr 3)] [.int (xs (i + 2)), .int (xs (i + 1)), .ref 93] M1 _
  refine yRF.call (zFF_le L xs) _ rfl rfl rfl rfl rfl h2 ?_
  show yRF (zFF L xs) 166 1008 [(3, .int (nI i)), (2, .ref 93), (1, .ref 0), (0, .retAddr 3)] [.int v2] M2 _
  refine yRF.adv 2 (pc' := 1061) (lv' := [(3, .int (nI i)), (2, .ref 93), (1, .ref 0), (0, .retAddr 3)]) (st' := []) (M' := M2) rfl ?_
  exact K
theorem zlw_26 {Q : Option Value → zMm → Prop} {L : Nat} {xs : Nat → Int32} {i : Nat} {M M1 M2 : zMm} {v1 v2 : Int32} (hL : L < 2 ^ 31) (hi : i + 5 ≤ L) (h1 : yOk 64 0 (lv_args 0 (.ref 0 :: [])) [] M (some (.int v1)) M1) (h2 : yOk 161 0 (lv_args 0 (.ref 93 :: [])) [] M1 (some (.int v2)) M2) (K : yRF (zFF L xs) 166 1061 [(3, .int (nI i)), (2, .ref 93), (1, .ref 0), (0, .retAddr 3)] [] M2 Q) : yRF (zFF L xs) 166 1012 [(3, .int (nI i)), (2, .ref 93), (1, .ref 0), (0, .retAddr 3)] [] M Q := by
  refine yRF.adv 1 (pc' := 1013) (lv' := [(3, .int (nI i)), (2, .ref 93), (1, .ref 0), (0, .retAddr 3)]) (st' := [.ref 0]) (M' := M) rfl ?_
  refine yRF.call (zFF_le L xs) _ rfl rfl rfl rfl rfl h1 ?_
  show yRF (zFF L xs) 166 1016 [(3, .int (nI i)), (2, .ref 93), (1, .ref 0), (0, .retAddr 3)] [.int v1] M1 _
  refine yRF.adv 2 (pc' := 1018) (lv' := [(3, .int (nI i)), (2, .ref 93), (1, .ref 0), (0, .retAddr 3)]) (st' := [.ref 93]) (M' := M1) rfl ?_
  refine yRF.call (zFF_le L xs) _ rfl rfl rfl rfl rfl h2 ?_
  show yRF (zFF L xs) 166 1021 [(3, .int (nI i)), (2, .ref 93), (1, .ref 0), (0, .retAddr 3)] [.int v2] M2 _
  refine yRF.adv 2 (pc' := 1061) (lv' := [(3, .int (nI i)), (2, .ref 93), (1, .ref 0), (0, .retAddr 3)]) (st' := []) (M' := M2) rfl ?_
  exact K
theorem zlw_27 {Q : Option Value → zMm → Prop} {L : Nat} {xs : Nat → Int32} {i : Nat} {M M1 M2 : zMm} {v1 v2 : Int32} (hL : L < 2 ^ 31) (hi : i + 5 ≤ L) (h1 : yOk 65 0 (lv_args 0 (.ref 0 :: [])) [] M (some (.int v1)) M1) (h2 : yOk 162 0 (lv_args 0 (.ref 93 :: [])) [] M1 (some (.int v2)) M2) (K : yRF (zFF L xs) 166 1061 [(3, .int (nI i)), (2, .ref 93), (1, .ref 0), (0, .retAddr 3)] [] M2 Q) : yRF (zFF L xs) 166 1025 [(3, .int (nI i)), (2, .ref 93), (1, .ref 0), (0, .retAddr 3)] [] M Q := by
  refine yRF.adv 1 (pc' := 1026) (lv' := [(3, .int (nI i)), (2, .ref 93), (1, .ref 0), (0, .retAddr 3)]) (st' := [.ref 0]) (M' := M) rfl ?_
  refine yRF.call (zFF_le L xs) _ rfl rfl rfl rfl rfl h1 ?_
  show yRF (zFF L xs) 166 1029 [(3, .int (nI i)), (2, .ref 93), (1, .ref 0), (0, .retAddr 3)] [.int v1] M1 _
  refine yRF.adv 2 (pc' := 1031) (lv' := [(3, .int (nI i)), (2, .ref 93), (1, .ref 0), (0, .retAddr 3)]) (st' := [.ref 93]) (M' := M1) rfl ?_
  refine yRF.call (zFF_le L xs) _ rfl rfl rfl rfl rfl h2 ?_
  show yRF (zFF L xs) 166 1034 [(3, .int (nI i)), (2, .ref 93), (1, .ref 0), (0, .retAddr 3)] [.int v2] M2 _
  refine yRF.adv 2 (pc' := 1061) (lv' := [(3, .int (nI i)), (2, .ref 93), (1, .ref 0), (0, .retAddr 3)]) (st' := []) (M' := M2) rfl ?_
  exact K
theorem zlw_28 {Q : Option Value → zMm → Prop} {L : Nat} {xs : Nat → Int32} {i : Nat} {M M1 M2 : zMm} {v1 v2 : Int32} (hL : L < 2 ^ 31) (hi : i + 5 ≤ L) (h1 : yOk 66 0 (lv_args 0 (.ref 0 :: [.int (xs (i + 1))])) [] M (some (.int v1)) M1) (h2 : yOk 163 0 (lv_args 0 (.ref 93 :: [.int (xs (i + 1))])) [] M1 (some (.int v2)) M2) (hv : v1 = v2) (K : yRF (zFF L xs) 166 1061 [(3, .int (nI i)), (2, .ref 93), (1, .ref 0), (0, .retAddr 3)] [] M2 Q) : yRF (zFF L xs) 166 1038 [(3, .int (nI i)), (2, .ref 93), (1, .ref 0), (0, .retAddr 3)] [] M Q := by
  refine yRF.adv 5 (pc' := 1043) (lv' := [(3, .int (nI i)), (2, .ref 93), (1, .ref 0), (0, .retAddr 3)]) (st' := [.int (nI i + 1), .retAddr 3, .ref 0]) (M' := M) rfl ?_
  refine yRF.sld (i + 1) _ _ _ rfl hL (nI_add i 1) (by omega) ?_
  show yRF (zFF L xs) 166 1044 [(3, .int (nI i)), (2, .ref 93), (1, .ref 0), (0, .retAddr 3)] [.int (xs (i + 1)), .ref 0] M _
  refine yRF.call (zFF_le L xs) _ rfl rfl rfl rfl rfl h1 ?_
  show yRF (zFF L xs) 166 1047 [(3, .int (nI i)), (2, .ref 93), (1, .ref 0), (0, .retAddr 3)] [.int v1] M1 _
  refine yRF.adv 5 (pc' := 1052) (lv' := [(3, .int (nI i)), (2, .ref 93), (1, .ref 0), (0, .retAddr 3)]) (st' := [.int (nI i + 1), .retAddr 3, .ref 93, .int v1]) (M' := M1) rfl ?_
  refine yRF.sld (i + 1) _ _ _ rfl hL (nI_add i 1) (by omega) ?_
  show yRF (zFF L xs) 166 1053 [(3, .int (nI i)), (2, .ref 93), (1, .ref 0), (0, .retAddr 3)] [.int (xs (i + 1)), .ref 93, .int v1] M1 _
  refine yRF.call (zFF_le L xs) _ rfl rfl rfl rfl rfl h2 ?_
  show yRF (zFF L xs) 166 1056 [(3, .int (nI i)), (2, .ref 93), (1, .ref 0), (0, .retAddr 3)] [.int v2, .int v1] M2 _
  refine yRF.if2 .eq _ _ _ _ rfl (fun q => ?_) (fun q => absurd hv (zeq_f q))
  exact K
