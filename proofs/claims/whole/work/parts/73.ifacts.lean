def sheetL (k : Nat) : List LD := [.inl (5, [0, 0, k + 1 + 3]), .inr (0, 40, [])]
def tapeL (k : Nat) : List LD := [.inl (8, [k + 1 + 3, 0, 0, 0, 0, 0]), .inr (2, 320, [])]
def toldL (k : Nat) : List LD := [.inl (9, [k + 1 + 3, k + 2 + 3, 0]), .inr (0, 8, []), .inr (0, 8, [])]
def foreL (k : Nat) : List LD := .inl (1, [k + 1 + 3]) :: fieldL (k + 1)
def stgL (k : Nat) : List LD := .inl (7, [k + 1 + 3, k + 2 + 3]) :: ([.inr (4, 9, [k + 10, k + 18, k + 26, k + 34, k + 42, k + 50, k + 58, k + 66, k + 74])] ++ fieldL (k + 2) ++ fieldL (k + 10) ++ fieldL (k + 18) ++ fieldL (k + 26) ++ fieldL (k + 34) ++ fieldL (k + 42) ++ fieldL (k + 50) ++ fieldL (k + 58) ++ fieldL (k + 66) ++ fieldL (k + 74))
def oddsL (k : Nat) : List LD := .inl (2, [k + 1 + 3, k + 83 + 3, 1]) :: (stgL (k + 1) ++ [.inr (1, 11, [])])
def replL (k : Nat) : List LD := .inl (4, [k + 1 + 3, k + 83 + 3, k + 84 + 3, 0, 0, 0, 0]) :: (stgL (k + 1) ++ [.inr (0, 4, [])] ++ [.inr (0, 4, [])])
def readL (k : Nat) : List LD := .inl (3, [k + 1 + 3, k + 3 + 3, k + 11 + 3, 0, 0, 0]) :: (tapeL (k + 1) ++ fieldL (k + 3) ++ [.inr (0, 9, [])])
def kegL (k : Nat) : List LD := .inl (10, [k + 1 + 3, k + 9 + 3, k + 17 + 3, k + 29 + 3, k + 38 + 3, k + 122 + 3, k + 207 + 3, k + 210 + 3, k + 218 + 3, 0, k + 226 + 3, 0]) :: (fieldL (k + 1) ++ fieldL (k + 9) ++ readL (k + 17) ++ foreL (k + 29) ++ oddsL (k + 38) ++ replL (k + 122) ++ toldL (k + 207) ++ fieldL (k + 210) ++ fieldL (k + 218) ++ [.inr (5, 4, [k + 227, k + 229, k + 231, k + 233])] ++ sheetL (k + 227) ++ sheetL (k + 229) ++ sheetL (k + 231) ++ sheetL (k + 233))
theorem len_sheet (k : Nat) : (sheetL k).length = 2 := rfl
theorem len_told (k : Nat) : (toldL k).length = 3 := rfl
theorem len_read (k : Nat) : (readL k).length = 12 := rfl
theorem len_fore (k : Nat) : (foreL k).length = 9 := rfl
theorem len_stg (k : Nat) : (stgL k).length = 82 := rfl
theorem len_odds (k : Nat) : (oddsL k).length = 84 := by unfold oddsL; rw [List.length_cons, List.length_append, len_stg]; rfl
theorem len_repl (k : Nat) : (replL k).length = 85 := by unfold replL; rw [List.length_cons, List.length_append, List.length_append, len_stg]; rfl
def modL (k : Nat) : List LD := .inl (11, [k + 1 + 3, 0, k + 2 + 3, 0, 0, 0, k + 3 + 3, 0, k + 4 + 3, 0, 0, 0, 0, 0, 0, 0, 0, k + 5 + 3, k + 6 + 3, k + 7 + 3, k + 8 + 3, k + 9 + 3, 0, k + 10 + 3, k + 11 + 3, k + 12 + 3, k + 13 + 3, 0]) :: ([.inr (0, 235, [])] ++ [.inr (0, 47, [])] ++ [.inr (0, 9, [])] ++ [.inr (0, 320, [])] ++ [.inr (0, 15, [])] ++ [.inr (0, 64, [])] ++ [.inr (0, 4, [])] ++ [.inr (0, 4, [])] ++ [.inr (0, 16, [])] ++ [.inr (3, 2, [])] ++ [.inr (0, 4, [])] ++ [.inr (0, 4, [])] ++ [.inr (0, 160, [])])
set_option maxRecDepth 100000 in
theorem nX0_21 : FN2 RX0 21 6 5 [0, 2, 0, 0, 0] := ⟨RX6, TX6, tyX6, rfl, inlX6, tyX6_ok, (wm_3 _ (List.mem_of_getElem? (i := 4) rfl)), (wm_3 _ (List.mem_of_getElem? (i := 5) rfl)), (wm_3 _ (List.mem_of_getElem? (i := 6) rfl)), by decide, fun j hj ad => match j, hj with | 0, _ => rfl | 1, _ => rfl | 2, _ => rfl | 3, _ => rfl | 4, _ => rfl | q + 5, h => absurd h (by omega)⟩
set_option maxRecDepth 100000 in
theorem iX0_23 : CI RX0 23 yX6_init cX6_init 1 := ⟨Or.inr (List.mem_of_getElem? (i := 6) rfl), (wm_3 _ (List.mem_of_getElem? (i := 9) rfl)), (wm_3 _ (List.mem_of_getElem? (i := 6) rfl)), (wm_3 _ (List.mem_of_getElem? (i := 10) rfl)), rfl, by decide, by decide, by decide +kernel⟩
set_option maxRecDepth 100000 in
theorem nX1_9 : FN2 RX1 9 0 10 [0, 0, 0, 0, 0, 2, 2, 2, 2, 2] := ⟨RX0, TX0, tyX0, rfl, inlX0, tyX0_ok, (wm_5 _ (List.mem_of_getElem? (i := 1) rfl)), (wm_1 _ (List.mem_of_getElem? (i := 14) rfl)), (wm_1 _ (List.mem_of_getElem? (i := 15) rfl)), by decide, fun j hj ad => match j, hj with | 0, _ => rfl | 1, _ => rfl | 2, _ => rfl | 3, _ => rfl | 4, _ => rfl | 5, _ => rfl | 6, _ => rfl | 7, _ => rfl | 8, _ => rfl | 9, _ => rfl | q + 10, h => absurd h (by omega)⟩
set_option maxRecDepth 100000 in
theorem iX1_11 : CI RX1 11 yX0_init cX0_init 1 := ⟨Or.inl (wm_5 _ (List.mem_of_getElem? (i := 3) rfl)), (wm_2 _ (List.mem_of_getElem? (i := 21) rfl)), (wm_1 _ (List.mem_of_getElem? (i := 15) rfl)), (wm_2 _ (List.mem_of_getElem? (i := 22) rfl)), rfl, by decide, by decide, by decide +kernel⟩
set_option maxRecDepth 100000 in
theorem nX7_9 : FN2 RX7 9 0 10 [0, 0, 0, 0, 0, 2, 2, 2, 2, 2] := ⟨RX0, TX0, tyX0, rfl, inlX0, tyX0_ok, (wm_5 _ (List.mem_of_getElem? (i := 18) rfl)), (wm_1 _ (List.mem_of_getElem? (i := 14) rfl)), (wm_1 _ (List.mem_of_getElem? (i := 15) rfl)), by decide, fun j hj ad => match j, hj with | 0, _ => rfl | 1, _ => rfl | 2, _ => rfl | 3, _ => rfl | 4, _ => rfl | 5, _ => rfl | 6, _ => rfl | 7, _ => rfl | 8, _ => rfl | 9, _ => rfl | q + 10, h => absurd h (by omega)⟩
set_option maxRecDepth 100000 in
theorem iX7_17 : CI RX7 17 yX0_init cX0_init 1 := ⟨Or.inl (wm_5 _ (List.mem_of_getElem? (i := 21) rfl)), (wm_2 _ (List.mem_of_getElem? (i := 21) rfl)), (wm_1 _ (List.mem_of_getElem? (i := 15) rfl)), (wm_2 _ (List.mem_of_getElem? (i := 22) rfl)), rfl, by decide, by decide, by decide +kernel⟩
set_option maxRecDepth 100000 in
theorem nX2_9 : FN2 RX2 9 7 2 [2, 2] := ⟨RX7, TX7, tyX7, rfl, inlX7, tyX7_ok, (wm_5 _ (List.mem_of_getElem? (i := 7) rfl)), (wm_5 _ (List.mem_of_getElem? (i := 8) rfl)), (wm_5 _ (List.mem_of_getElem? (i := 9) rfl)), by decide, fun j hj ad => match j, hj with | 0, _ => rfl | 1, _ => rfl | q + 2, h => absurd h (by omega)⟩
set_option maxRecDepth 100000 in
theorem iX2_11 : CI RX2 11 yX7_init cX7_init 2 := ⟨Or.inl (wm_5 _ (List.mem_of_getElem? (i := 14) rfl)), (wm_5 _ (List.mem_of_getElem? (i := 15) rfl)), (wm_5 _ (List.mem_of_getElem? (i := 9) rfl)), (wm_5 _ (List.mem_of_getElem? (i := 16) rfl)), rfl, by decide, by decide, by decide +kernel⟩
set_option maxRecDepth 100000 in
theorem nX4_9 : FN2 RX4 9 7 2 [2, 2] := ⟨RX7, TX7, tyX7, rfl, inlX7, tyX7_ok, (wm_6 _ (List.mem_of_getElem? (i := 1) rfl)), (wm_5 _ (List.mem_of_getElem? (i := 8) rfl)), (wm_5 _ (List.mem_of_getElem? (i := 9) rfl)), by decide, fun j hj ad => match j, hj with | 0, _ => rfl | 1, _ => rfl | q + 2, h => absurd h (by omega)⟩
set_option maxRecDepth 100000 in
theorem iX4_11 : CI RX4 11 yX7_init cX7_init 2 := ⟨Or.inl (wm_6 _ (List.mem_of_getElem? (i := 5) rfl)), (wm_5 _ (List.mem_of_getElem? (i := 15) rfl)), (wm_5 _ (List.mem_of_getElem? (i := 9) rfl)), (wm_5 _ (List.mem_of_getElem? (i := 16) rfl)), rfl, by decide, by decide, by decide +kernel⟩
set_option maxRecDepth 100000 in
theorem nX3_9 : FN2 RX3 9 8 6 [2, 0, 0, 0, 0, 0] := ⟨RX8, TX8, tyX8, rfl, inlX8, tyX8_ok, (wm_4 _ (List.mem_of_getElem? (i := 9) rfl)), (wm_4 _ (List.mem_of_getElem? (i := 10) rfl)), (wm_4 _ (List.mem_of_getElem? (i := 11) rfl)), by decide, fun j hj ad => match j, hj with | 0, _ => rfl | 1, _ => rfl | 2, _ => rfl | 3, _ => rfl | 4, _ => rfl | 5, _ => rfl | q + 6, h => absurd h (by omega)⟩
set_option maxRecDepth 100000 in
theorem iX3_11 : CI RX3 11 yX8_init cX8_init 1 := ⟨Or.inr (List.mem_of_getElem? (i := 9) rfl), (wm_4 _ (List.mem_of_getElem? (i := 16) rfl)), (wm_4 _ (List.mem_of_getElem? (i := 11) rfl)), (wm_4 _ (List.mem_of_getElem? (i := 17) rfl)), rfl, by decide, by decide, by decide +kernel⟩
set_option maxRecDepth 100000 in
theorem nX3_18 : FN2 RX3 18 0 10 [0, 0, 0, 0, 0, 2, 2, 2, 2, 2] := ⟨RX0, TX0, tyX0, rfl, inlX0, tyX0_ok, (wm_4 _ (List.mem_of_getElem? (i := 13) rfl)), (wm_1 _ (List.mem_of_getElem? (i := 14) rfl)), (wm_1 _ (List.mem_of_getElem? (i := 15) rfl)), by decide, fun j hj ad => match j, hj with | 0, _ => rfl | 1, _ => rfl | 2, _ => rfl | 3, _ => rfl | 4, _ => rfl | 5, _ => rfl | 6, _ => rfl | 7, _ => rfl | 8, _ => rfl | 9, _ => rfl | q + 10, h => absurd h (by omega)⟩
set_option maxRecDepth 100000 in
theorem iX3_20 : CI RX3 20 yX0_init cX0_init 1 := ⟨Or.inl (wm_4 _ (List.mem_of_getElem? (i := 21) rfl)), (wm_2 _ (List.mem_of_getElem? (i := 21) rfl)), (wm_1 _ (List.mem_of_getElem? (i := 15) rfl)), (wm_2 _ (List.mem_of_getElem? (i := 22) rfl)), rfl, by decide, by decide, by decide +kernel⟩
set_option maxRecDepth 100000 in
theorem nX10_7 : FN2 RX10 7 0 10 [0, 0, 0, 0, 0, 2, 2, 2, 2, 2] := ⟨RX0, TX0, tyX0, rfl, inlX0, tyX0_ok, (wm_1 _ (List.mem_of_getElem? (i := 13) rfl)), (wm_1 _ (List.mem_of_getElem? (i := 14) rfl)), (wm_1 _ (List.mem_of_getElem? (i := 15) rfl)), by decide, fun j hj ad => match j, hj with | 0, _ => rfl | 1, _ => rfl | 2, _ => rfl | 3, _ => rfl | 4, _ => rfl | 5, _ => rfl | 6, _ => rfl | 7, _ => rfl | 8, _ => rfl | 9, _ => rfl | q + 10, h => absurd h (by omega)⟩
set_option maxRecDepth 100000 in
theorem iX10_9 : CI RX10 9 yX0_init cX0_init 1 := ⟨Or.inl (wm_2 _ (List.mem_of_getElem? (i := 20) rfl)), (wm_2 _ (List.mem_of_getElem? (i := 21) rfl)), (wm_1 _ (List.mem_of_getElem? (i := 15) rfl)), (wm_2 _ (List.mem_of_getElem? (i := 22) rfl)), rfl, by decide, by decide, by decide +kernel⟩
set_option maxRecDepth 100000 in
theorem nX10_19 : FN2 RX10 19 3 6 [2, 2, 2, 0, 0, 0] := ⟨RX3, TX3, tyX3, rfl, inlX3, tyX3_ok, (wm_1 _ (List.mem_of_getElem? (i := 18) rfl)), (wm_1 _ (List.mem_of_getElem? (i := 19) rfl)), (wm_1 _ (List.mem_of_getElem? (i := 20) rfl)), by decide, fun j hj ad => match j, hj with | 0, _ => rfl | 1, _ => rfl | 2, _ => rfl | 3, _ => rfl | 4, _ => rfl | 5, _ => rfl | q + 6, h => absurd h (by omega)⟩
set_option maxRecDepth 100000 in
theorem iX10_21 : CI RX10 21 yX3_init cX3_init 1 := ⟨Or.inr (List.mem_of_getElem? (i := 0) rfl), (wm_4 _ (List.mem_of_getElem? (i := 6) rfl)), (wm_1 _ (List.mem_of_getElem? (i := 20) rfl)), (wm_4 _ (List.mem_of_getElem? (i := 7) rfl)), rfl, by decide, by decide, by decide +kernel⟩
set_option maxRecDepth 100000 in
theorem nX10_26 : FN2 RX10 26 1 1 [2] := ⟨RX1, TX1, tyX1, rfl, inlX1, tyX1_ok, (wm_1 _ (List.mem_of_getElem? (i := 22) rfl)), (wm_1 _ (List.mem_of_getElem? (i := 23) rfl)), (wm_2 _ (List.mem_of_getElem? (i := 0) rfl)), by decide, fun j hj ad => match j, hj with | 0, _ => rfl | q + 1, h => absurd h (by omega)⟩
set_option maxRecDepth 100000 in
theorem iX10_28 : CI RX10 28 yX1_init cX1_init 1 := ⟨Or.inr (List.mem_of_getElem? (i := 1) rfl), (wm_4 _ (List.mem_of_getElem? (i := 22) rfl)), (wm_2 _ (List.mem_of_getElem? (i := 0) rfl)), (wm_4 _ (List.mem_of_getElem? (i := 23) rfl)), rfl, by decide, by decide, by decide +kernel⟩
set_option maxRecDepth 100000 in
theorem nX10_33 : FN2 RX10 33 2 3 [2, 2, 1] := ⟨RX2, TX2, tyX2, rfl, inlX2, tyX2_ok, (wm_2 _ (List.mem_of_getElem? (i := 2) rfl)), (wm_2 _ (List.mem_of_getElem? (i := 3) rfl)), (wm_2 _ (List.mem_of_getElem? (i := 4) rfl)), by decide, fun j hj ad => match j, hj with | 0, _ => rfl | 1, _ => rfl | 2, _ => rfl | q + 3, h => absurd h (by omega)⟩
set_option maxRecDepth 100000 in
theorem iX10_35 : CI RX10 35 yX2_init cX2_init 1 := ⟨Or.inr (List.mem_of_getElem? (i := 2) rfl), (wm_5 _ (List.mem_of_getElem? (i := 4) rfl)), (wm_2 _ (List.mem_of_getElem? (i := 4) rfl)), (wm_5 _ (List.mem_of_getElem? (i := 5) rfl)), rfl, by decide, by decide, by decide +kernel⟩
set_option maxRecDepth 100000 in
theorem nX10_40 : FN2 RX10 40 4 7 [2, 2, 2, 0, 0, 0, 0] := ⟨RX4, TX4, tyX4, rfl, inlX4, tyX4_ok, (wm_2 _ (List.mem_of_getElem? (i := 6) rfl)), (wm_2 _ (List.mem_of_getElem? (i := 7) rfl)), (wm_2 _ (List.mem_of_getElem? (i := 8) rfl)), by decide, fun j hj ad => match j, hj with | 0, _ => rfl | 1, _ => rfl | 2, _ => rfl | 3, _ => rfl | 4, _ => rfl | 5, _ => rfl | 6, _ => rfl | q + 7, h => absurd h (by omega)⟩
set_option maxRecDepth 100000 in
theorem iX10_42 : CI RX10 42 yX4_init cX4_init 1 := ⟨Or.inr (List.mem_of_getElem? (i := 3) rfl), (wm_5 _ (List.mem_of_getElem? (i := 22) rfl)), (wm_2 _ (List.mem_of_getElem? (i := 8) rfl)), (wm_5 _ (List.mem_of_getElem? (i := 23) rfl)), rfl, by decide, by decide, by decide +kernel⟩
set_option maxRecDepth 100000 in
theorem nX10_47 : FN2 RX10 47 9 3 [2, 2, 0] := ⟨RX9, TX9, tyX9, rfl, inlX9, tyX9_ok, (wm_2 _ (List.mem_of_getElem? (i := 10) rfl)), (wm_2 _ (List.mem_of_getElem? (i := 11) rfl)), (wm_2 _ (List.mem_of_getElem? (i := 12) rfl)), by decide, fun j hj ad => match j, hj with | 0, _ => rfl | 1, _ => rfl | 2, _ => rfl | q + 3, h => absurd h (by omega)⟩
set_option maxRecDepth 100000 in
theorem iX10_49 : CI RX10 49 yX9_init cX9_init 1 := ⟨Or.inr (List.mem_of_getElem? (i := 4) rfl), (wm_6 _ (List.mem_of_getElem? (i := 6) rfl)), (wm_2 _ (List.mem_of_getElem? (i := 12) rfl)), (wm_6 _ (List.mem_of_getElem? (i := 7) rfl)), rfl, by decide, by decide, by decide +kernel⟩
set_option maxRecDepth 100000 in
theorem nX10_60 : FN2 RX10 60 5 3 [0, 0, 2] := ⟨RX5, TX5, tyX5, rfl, inlX5, tyX5_ok, (wm_2 _ (List.mem_of_getElem? (i := 16) rfl)), (wm_2 _ (List.mem_of_getElem? (i := 18) rfl)), (wm_2 _ (List.mem_of_getElem? (i := 19) rfl)), by decide, fun j hj ad => match j, hj with | 0, _ => rfl | 1, _ => rfl | 2, _ => rfl | q + 3, h => absurd h (by omega)⟩
set_option maxRecDepth 100000 in
theorem iX10_66 : CI RX10 66 yX5_init cX5_init 1 := ⟨Or.inr (List.mem_of_getElem? (i := 5) rfl), (wm_6 _ (List.mem_of_getElem? (i := 11) rfl)), (wm_2 _ (List.mem_of_getElem? (i := 19) rfl)), (wm_6 _ (List.mem_of_getElem? (i := 12) rfl)), rfl, by decide, by decide, by decide +kernel⟩
