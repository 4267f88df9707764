theorem tm_1 {w : Cond} (h : w ∈ tables_1_1) : w ∈ tables_1 := List.mem_append_left _ h
theorem tm_2 {w : Cond} (h : w ∈ tables_1_2) : w ∈ tables_1 := List.mem_append_right _ (List.mem_append_left _ h)
theorem tm_3 {w : Cond} (h : w ∈ tables_1_3) : w ∈ tables_1 := List.mem_append_right _ (List.mem_append_right _ (List.mem_append_left _ h))
theorem tm_4 {w : Cond} (h : w ∈ tables_1_4) : w ∈ tables_1 := List.mem_append_right _ (List.mem_append_right _ (List.mem_append_right _ (List.mem_append_left _ h)))
theorem tm_5 {w : Cond} (h : w ∈ tables_1_5) : w ∈ tables_1 := List.mem_append_right _ (List.mem_append_right _ (List.mem_append_right _ (List.mem_append_right _ (List.mem_append_left _ h))))
theorem tm_6 {w : Cond} (h : w ∈ tables_1_6) : w ∈ tables_1 := List.mem_append_right _ (List.mem_append_right _ (List.mem_append_right _ (List.mem_append_right _ (List.mem_append_right _ (List.mem_append_left _ h)))))
theorem tm_7 {w : Cond} (h : w ∈ tables_1_7) : w ∈ tables_1 := List.mem_append_right _ (List.mem_append_right _ (List.mem_append_right _ (List.mem_append_right _ (List.mem_append_right _ (List.mem_append_right _ (List.mem_append_left _ h))))))
theorem tm_8 {w : Cond} (h : w ∈ tables_1_8) : w ∈ tables_1 := List.mem_append_right _ (List.mem_append_right _ (List.mem_append_right _ (List.mem_append_right _ (List.mem_append_right _ (List.mem_append_right _ (List.mem_append_right _ (h)))))))
theorem mi_X0 : Cond.initialized RX0 ∈ tp_W := tp_W_of (tm_1 (List.mem_of_getElem? (i := 9) rfl)) rfl
theorem mi_X1 : Cond.initialized RX1 ∈ tp_W := tp_W_of (tm_1 (List.mem_of_getElem? (i := 11) rfl)) rfl
theorem mi_X2 : Cond.initialized RX2 ∈ tp_W := tp_W_of (tm_1 (List.mem_of_getElem? (i := 6) rfl)) rfl
theorem mi_X3 : Cond.initialized RX3 ∈ tp_W := tp_W_of (tm_1 (List.mem_of_getElem? (i := 7) rfl)) rfl
theorem mi_X4 : Cond.initialized RX4 ∈ tp_W := tp_W_of (tm_1 (List.mem_of_getElem? (i := 4) rfl)) rfl
theorem mi_X5 : Cond.initialized RX5 ∈ tp_W := tp_W_of (tm_1 (List.mem_of_getElem? (i := 8) rfl)) rfl
theorem mi_X6 : Cond.initialized RX6 ∈ tp_W := tp_W_of (tm_1 (List.mem_of_getElem? (i := 10) rfl)) rfl
theorem mi_X7 : Cond.initialized RX7 ∈ tp_W := tp_W_of (tm_1 (List.mem_of_getElem? (i := 2) rfl)) rfl
theorem mi_X8 : Cond.initialized RX8 ∈ tp_W := tp_W_of (tm_1 (List.mem_of_getElem? (i := 3) rfl)) rfl
theorem mi_X9 : Cond.initialized RX9 ∈ tp_W := tp_W_of (tm_1 (List.mem_of_getElem? (i := 5) rfl)) rfl
theorem mi_X10 : Cond.initialized RX10 ∈ tp_W := tp_W_of (tm_1 (List.mem_of_getElem? (i := 1) rfl)) rfl
theorem mi_X11 : Cond.initialized RX11 ∈ tp_W := tp_W_of (tm_1 (List.mem_of_getElem? (i := 12) rfl)) rfl
theorem mi_sys : Cond.initialized "java/lang/System" ∈ tp_W := tp_W_of (tm_1 (List.mem_of_getElem? (i := 13) rfl)) rfl
theorem mi_math : Cond.initialized "java/lang/Math" ∈ tp_W := tp_W_of (tm_1 (List.mem_of_getElem? (i := 14) rfl)) rfl
theorem mi_J6 : Cond.initialized RJ6 ∈ tp_W := tp_W_of (tm_1 (List.mem_of_getElem? (i := 23) rfl)) rfl
theorem mc_X0_init : Cond.code yX0_init cX0_init 1 none ∈ tp_W := tp_W_of (tm_1 (List.mem_of_getElem? (i := 193) rfl)) rfl
theorem mn_X0_init : Cond.instanceMethod yX0_init ∈ tp_W := tp_W_of (tm_1 (List.mem_of_getElem? (i := 192) rfl)) rfl
theorem mc_X0_treesWith : Cond.code yX0_treesWith cX0_treesWith 7 (some .int) ∈ tp_W := tp_W_of (tm_3 (List.mem_of_getElem? (i := 229) rfl)) rfl
theorem mn_X0_treesWith : Cond.instanceMethod yX0_treesWith ∈ tp_W := tp_W_of (tm_3 (List.mem_of_getElem? (i := 227) rfl)) rfl
theorem mse_X0_treesWith : Cond.selects RX0 yX0_treesWith yX0_treesWith ∈ tp_W := tp_W_of (tm_3 (List.mem_of_getElem? (i := 228) rfl)) rfl
theorem mf_X0_treesWith : tp_MV yX0_treesWith (Cond.code yX0_treesWith cX0_treesWith 7 (some .int)) cX0_treesWith 7 (some .int) 3 := ⟨⟨rfl, mc_X0_treesWith, mi_X0, by decide +kernel, by decide⟩, mn_X0_treesWith, mse_X0_treesWith⟩
theorem mc_X0_addWay : Cond.code yX0_addWay cX0_addWay 3 none ∈ tp_W := tp_W_of (tm_3 (List.mem_of_getElem? (i := 239) rfl)) rfl
theorem mn_X0_addWay : Cond.instanceMethod yX0_addWay ∈ tp_W := tp_W_of (tm_3 (List.mem_of_getElem? (i := 238) rfl)) rfl
theorem mse_X0_addWay : Cond.selects RX0 yX0_addWay yX0_addWay ∈ tp_W := tp_W_p (y := yX0_addWay) (n := 5) (List.mem_of_getElem? (i := 29) (by decide +kernel))
theorem mf_X0_addWay : tp_MV yX0_addWay (Cond.code yX0_addWay cX0_addWay 3 none) cX0_addWay 3 none 2 := ⟨⟨rfl, mc_X0_addWay, mi_X0, by decide +kernel, by decide⟩, mn_X0_addWay, mse_X0_addWay⟩
theorem mc_X0_clearCells : Cond.code yX0_clearCells cX0_clearCells 3 none ∈ tp_W := tp_W_of (tm_3 (List.mem_of_getElem? (i := 234) rfl)) rfl
theorem mn_X0_clearCells : Cond.instanceMethod yX0_clearCells ∈ tp_W := tp_W_of (tm_3 (List.mem_of_getElem? (i := 233) rfl)) rfl
theorem mse_X0_clearCells : Cond.selects RX0 yX0_clearCells yX0_clearCells ∈ tp_W := tp_W_p (y := yX0_clearCells) (n := 5) (List.mem_of_getElem? (i := 28) (by decide +kernel))
theorem mf_X0_clearCells : tp_MV yX0_clearCells (Cond.code yX0_clearCells cX0_clearCells 3 none) cX0_clearCells 3 none 0 := ⟨⟨rfl, mc_X0_clearCells, mi_X0, by decide +kernel, by decide⟩, mn_X0_clearCells, mse_X0_clearCells⟩
theorem mc_X0_solve : Cond.code yX0_solve cX0_solve 8 none ∈ tp_W := tp_W_of (tm_4 (List.mem_of_getElem? (i := 69) rfl)) rfl
theorem mn_X0_solve : Cond.instanceMethod yX0_solve ∈ tp_W := tp_W_of (tm_4 (List.mem_of_getElem? (i := 67) rfl)) rfl
theorem mse_X0_solve : Cond.selects RX0 yX0_solve yX0_solve ∈ tp_W := tp_W_of (tm_4 (List.mem_of_getElem? (i := 68) rfl)) rfl
theorem mf_X0_solve : tp_MV yX0_solve (Cond.code yX0_solve cX0_solve 8 none) cX0_solve 8 none 3 := ⟨⟨rfl, mc_X0_solve, mi_X0, by decide +kernel, by decide⟩, mn_X0_solve, mse_X0_solve⟩
theorem mc_X0_place : Cond.code yX0_place cX0_place 3 (some .int) ∈ tp_W := tp_W_of (tm_4 (List.mem_of_getElem? (i := 72) rfl)) rfl
theorem ms_X0_place : Cond.static yX0_place ∈ tp_W := tp_W_of (tm_4 (List.mem_of_getElem? (i := 71) rfl)) rfl
theorem mf_X0_place : tp_MS yX0_place (Cond.code yX0_place cX0_place 3 (some .int)) cX0_place 3 (some .int) 3 := ⟨⟨rfl, mc_X0_place, mi_X0, by decide +kernel, by decide⟩, ms_X0_place⟩
theorem mc_X0_eliminate : Cond.code yX0_eliminate cX0_eliminate 9 (some .boolean) ∈ tp_W := tp_W_of (tm_4 (List.mem_of_getElem? (i := 4) rfl)) rfl
theorem mn_X0_eliminate : Cond.instanceMethod yX0_eliminate ∈ tp_W := tp_W_of (tm_4 (List.mem_of_getElem? (i := 3) rfl)) rfl
theorem mse_X0_eliminate : Cond.selects RX0 yX0_eliminate yX0_eliminate ∈ tp_W := tp_W_p (y := yX0_eliminate) (n := 5) (List.mem_of_getElem? (i := 30) (by decide +kernel))
theorem mf_X0_eliminate : tp_MV yX0_eliminate (Cond.code yX0_eliminate cX0_eliminate 9 (some .boolean)) cX0_eliminate 9 (some .boolean) 1 := ⟨⟨rfl, mc_X0_eliminate, mi_X0, by decide +kernel, by decide⟩, mn_X0_eliminate, mse_X0_eliminate⟩
theorem mc_X0_tellFraction : Cond.code yX0_tellFraction cX0_tellFraction 12 none ∈ tp_W := tp_W_of (tm_4 (List.mem_of_getElem? (i := 76) rfl)) rfl
theorem mn_X0_tellFraction : Cond.instanceMethod yX0_tellFraction ∈ tp_W := tp_W_of (tm_4 (List.mem_of_getElem? (i := 75) rfl)) rfl
theorem mse_X0_tellFraction : Cond.selects RX0 yX0_tellFraction yX0_tellFraction ∈ tp_W := tp_W_p (y := yX0_tellFraction) (n := 5) (List.mem_of_getElem? (i := 35) (by decide +kernel))
theorem mf_X0_tellFraction : tp_MV yX0_tellFraction (Cond.code yX0_tellFraction cX0_tellFraction 12 none) cX0_tellFraction 12 none 2 := ⟨⟨rfl, mc_X0_tellFraction, mi_X0, by decide +kernel, by decide⟩, mn_X0_tellFraction, mse_X0_tellFraction⟩
theorem mc_X0_spread : Cond.code yX0_spread cX0_spread 8 none ∈ tp_W := tp_W_of (tm_4 (List.mem_of_getElem? (i := 88) rfl)) rfl
theorem mn_X0_spread : Cond.instanceMethod yX0_spread ∈ tp_W := tp_W_of (tm_4 (List.mem_of_getElem? (i := 86) rfl)) rfl
theorem mse_X0_spread : Cond.selects RX0 yX0_spread yX0_spread ∈ tp_W := tp_W_of (tm_4 (List.mem_of_getElem? (i := 87) rfl)) rfl
theorem mf_X0_spread : tp_MV yX0_spread (Cond.code yX0_spread cX0_spread 8 none) cX0_spread 8 none 4 := ⟨⟨rfl, mc_X0_spread, mi_X0, by decide +kernel, by decide⟩, mn_X0_spread, mse_X0_spread⟩
theorem mc_X0_spreadOnce : Cond.code yX0_spreadOnce cX0_spreadOnce 8 none ∈ tp_W := tp_W_of (tm_4 (List.mem_of_getElem? (i := 93) rfl)) rfl
theorem mn_X0_spreadOnce : Cond.instanceMethod yX0_spreadOnce ∈ tp_W := tp_W_of (tm_4 (List.mem_of_getElem? (i := 92) rfl)) rfl
theorem mse_X0_spreadOnce : Cond.selects RX0 yX0_spreadOnce yX0_spreadOnce ∈ tp_W := tp_W_p (y := yX0_spreadOnce) (n := 5) (List.mem_of_getElem? (i := 36) (by decide +kernel))
theorem mf_X0_spreadOnce : tp_MV yX0_spreadOnce (Cond.code yX0_spreadOnce cX0_spreadOnce 8 none) cX0_spreadOnce 8 none 1 := ⟨⟨rfl, mc_X0_spreadOnce, mi_X0, by decide +kernel, by decide⟩, mn_X0_spreadOnce, mse_X0_spreadOnce⟩
theorem mc_X1_init : Cond.code yX1_init cX1_init 1 none ∈ tp_W := tp_W_of (tm_1 (List.mem_of_getElem? (i := 238) rfl)) rfl
theorem mn_X1_init : Cond.instanceMethod yX1_init ∈ tp_W := tp_W_of (tm_1 (List.mem_of_getElem? (i := 237) rfl)) rfl
theorem mc_X1_canBeHeard : Cond.code yX1_canBeHeard cX1_canBeHeard 2 (some .boolean) ∈ tp_W := tp_W_of (tm_4 (List.mem_of_getElem? (i := 207) rfl)) rfl
theorem ms_X1_canBeHeard : Cond.static yX1_canBeHeard ∈ tp_W := tp_W_of (tm_4 (List.mem_of_getElem? (i := 206) rfl)) rfl
theorem mf_X1_canBeHeard : tp_MS yX1_canBeHeard (Cond.code yX1_canBeHeard cX1_canBeHeard 2 (some .boolean)) cX1_canBeHeard 2 (some .boolean) 2 := ⟨⟨rfl, mc_X1_canBeHeard, mi_X1, by decide +kernel, by decide⟩, ms_X1_canBeHeard⟩
theorem mc_X1_size : Cond.code yX1_size cX1_size 1 (some .int) ∈ tp_W := tp_W_of (tm_4 (List.mem_of_getElem? (i := 215) rfl)) rfl
theorem mn_X1_size : Cond.instanceMethod yX1_size ∈ tp_W := tp_W_of (tm_4 (List.mem_of_getElem? (i := 213) rfl)) rfl
theorem mse_X1_size : Cond.selects RX1 yX1_size yX1_size ∈ tp_W := tp_W_of (tm_4 (List.mem_of_getElem? (i := 214) rfl)) rfl
theorem mf_X1_size : tp_MV yX1_size (Cond.code yX1_size cX1_size 1 (some .int)) cX1_size 1 (some .int) 0 := ⟨⟨rfl, mc_X1_size, mi_X1, by decide +kernel, by decide⟩, mn_X1_size, mse_X1_size⟩
theorem mc_X1_clear : Cond.code yX1_clear cX1_clear 1 none ∈ tp_W := tp_W_of (tm_2 (List.mem_of_getElem? (i := 146) rfl)) rfl
theorem mn_X1_clear : Cond.instanceMethod yX1_clear ∈ tp_W := tp_W_of (tm_2 (List.mem_of_getElem? (i := 144) rfl)) rfl
theorem mse_X1_clear : Cond.selects RX1 yX1_clear yX1_clear ∈ tp_W := tp_W_of (tm_2 (List.mem_of_getElem? (i := 145) rfl)) rfl
theorem mf_X1_clear : tp_MV yX1_clear (Cond.code yX1_clear cX1_clear 1 none) cX1_clear 1 none 0 := ⟨⟨rfl, mc_X1_clear, mi_X1, by decide +kernel, by decide⟩, mn_X1_clear, mse_X1_clear⟩
theorem mc_X1_add : Cond.code yX1_add cX1_add 3 (some .boolean) ∈ tp_W := tp_W_of (tm_4 (List.mem_of_getElem? (i := 211) rfl)) rfl
theorem mn_X1_add : Cond.instanceMethod yX1_add ∈ tp_W := tp_W_of (tm_4 (List.mem_of_getElem? (i := 209) rfl)) rfl
theorem mse_X1_add : Cond.selects RX1 yX1_add yX1_add ∈ tp_W := tp_W_of (tm_4 (List.mem_of_getElem? (i := 210) rfl)) rfl
theorem mf_X1_add : tp_MV yX1_add (Cond.code yX1_add cX1_add 3 (some .boolean)) cX1_add 3 (some .boolean) 2 := ⟨⟨rfl, mc_X1_add, mi_X1, by decide +kernel, by decide⟩, mn_X1_add, mse_X1_add⟩
theorem mc_X1_what : Cond.code yX1_what cX1_what 2 (some .int) ∈ tp_W := tp_W_of (tm_4 (List.mem_of_getElem? (i := 231) rfl)) rfl
theorem mn_X1_what : Cond.instanceMethod yX1_what ∈ tp_W := tp_W_of (tm_4 (List.mem_of_getElem? (i := 229) rfl)) rfl
theorem mse_X1_what : Cond.selects RX1 yX1_what yX1_what ∈ tp_W := tp_W_of (tm_4 (List.mem_of_getElem? (i := 230) rfl)) rfl
theorem mf_X1_what : tp_MV yX1_what (Cond.code yX1_what cX1_what 2 (some .int)) cX1_what 2 (some .int) 1 := ⟨⟨rfl, mc_X1_what, mi_X1, by decide +kernel, by decide⟩, mn_X1_what, mse_X1_what⟩
theorem mc_X1_value : Cond.code yX1_value cX1_value 2 (some .int) ∈ tp_W := tp_W_of (tm_4 (List.mem_of_getElem? (i := 235) rfl)) rfl
theorem mn_X1_value : Cond.instanceMethod yX1_value ∈ tp_W := tp_W_of (tm_4 (List.mem_of_getElem? (i := 233) rfl)) rfl
theorem mse_X1_value : Cond.selects RX1 yX1_value yX1_value ∈ tp_W := tp_W_of (tm_4 (List.mem_of_getElem? (i := 234) rfl)) rfl
theorem mf_X1_value : tp_MV yX1_value (Cond.code yX1_value cX1_value 2 (some .int)) cX1_value 2 (some .int) 1 := ⟨⟨rfl, mc_X1_value, mi_X1, by decide +kernel, by decide⟩, mn_X1_value, mse_X1_value⟩
theorem mc_X2_init : Cond.code yX2_init cX2_init 1 none ∈ tp_W := tp_W_of (tm_1 (List.mem_of_getElem? (i := 124) rfl)) rfl
theorem mn_X2_init : Cond.instanceMethod yX2_init ∈ tp_W := tp_W_of (tm_1 (List.mem_of_getElem? (i := 123) rfl)) rfl
theorem mc_X2_clear : Cond.code yX2_clear cX2_clear 2 none ∈ tp_W := tp_W_of (tm_2 (List.mem_of_getElem? (i := 134) rfl)) rfl
theorem mn_X2_clear : Cond.instanceMethod yX2_clear ∈ tp_W := tp_W_of (tm_2 (List.mem_of_getElem? (i := 132) rfl)) rfl
theorem mse_X2_clear : Cond.selects RX2 yX2_clear yX2_clear ∈ tp_W := tp_W_of (tm_2 (List.mem_of_getElem? (i := 133) rfl)) rfl
theorem mf_X2_clear : tp_MV yX2_clear (Cond.code yX2_clear cX2_clear 2 none) cX2_clear 2 none 0 := ⟨⟨rfl, mc_X2_clear, mi_X2, by decide +kernel, by decide⟩, mn_X2_clear, mse_X2_clear⟩
theorem mc_X2_copyFrom : Cond.code yX2_copyFrom cX2_copyFrom 2 none ∈ tp_W := tp_W_of (tm_2 (List.mem_of_getElem? (i := 224) rfl)) rfl
theorem mn_X2_copyFrom : Cond.instanceMethod yX2_copyFrom ∈ tp_W := tp_W_of (tm_2 (List.mem_of_getElem? (i := 222) rfl)) rfl
theorem mse_X2_copyFrom : Cond.selects RX2 yX2_copyFrom yX2_copyFrom ∈ tp_W := tp_W_of (tm_2 (List.mem_of_getElem? (i := 223) rfl)) rfl
theorem mf_X2_copyFrom : tp_MV yX2_copyFrom (Cond.code yX2_copyFrom cX2_copyFrom 2 none) cX2_copyFrom 2 none 1 := ⟨⟨rfl, mc_X2_copyFrom, mi_X2, by decide +kernel, by decide⟩, mn_X2_copyFrom, mse_X2_copyFrom⟩
theorem mc_X2_house : Cond.code yX2_house cX2_house 2 none ∈ tp_W := tp_W_of (tm_3 (List.mem_of_getElem? (i := 46) rfl)) rfl
theorem mn_X2_house : Cond.instanceMethod yX2_house ∈ tp_W := tp_W_of (tm_3 (List.mem_of_getElem? (i := 44) rfl)) rfl
theorem mse_X2_house : Cond.selects RX2 yX2_house yX2_house ∈ tp_W := tp_W_of (tm_3 (List.mem_of_getElem? (i := 45) rfl)) rfl
theorem mf_X2_house : tp_MV yX2_house (Cond.code yX2_house cX2_house 2 none) cX2_house 2 none 1 := ⟨⟨rfl, mc_X2_house, mi_X2, by decide +kernel, by decide⟩, mn_X2_house, mse_X2_house⟩
theorem mc_X2_walkers : Cond.code yX2_walkers cX2_walkers 3 (some .int) ∈ tp_W := tp_W_of (tm_2 (List.mem_of_getElem? (i := 216) rfl)) rfl
theorem mn_X2_walkers : Cond.instanceMethod yX2_walkers ∈ tp_W := tp_W_of (tm_2 (List.mem_of_getElem? (i := 214) rfl)) rfl
theorem mse_X2_walkers : Cond.selects RX2 yX2_walkers yX2_walkers ∈ tp_W := tp_W_of (tm_2 (List.mem_of_getElem? (i := 215) rfl)) rfl
theorem mf_X2_walkers : tp_MV yX2_walkers (Cond.code yX2_walkers cX2_walkers 3 (some .int)) cX2_walkers 3 (some .int) 0 := ⟨⟨rfl, mc_X2_walkers, mi_X2, by decide +kernel, by decide⟩, mn_X2_walkers, mse_X2_walkers⟩
theorem mc_X2_peopled : Cond.code yX2_peopled cX2_peopled 3 (some .int) ∈ tp_W := tp_W_of (tm_5 (List.mem_of_getElem? (i := 77) rfl)) rfl
theorem mn_X2_peopled : Cond.instanceMethod yX2_peopled ∈ tp_W := tp_W_of (tm_5 (List.mem_of_getElem? (i := 75) rfl)) rfl
theorem mse_X2_peopled : Cond.selects RX2 yX2_peopled yX2_peopled ∈ tp_W := tp_W_of (tm_5 (List.mem_of_getElem? (i := 76) rfl)) rfl
theorem mf_X2_peopled : tp_MV yX2_peopled (Cond.code yX2_peopled cX2_peopled 3 (some .int)) cX2_peopled 3 (some .int) 0 := ⟨⟨rfl, mc_X2_peopled, mi_X2, by decide +kernel, by decide⟩, mn_X2_peopled, mse_X2_peopled⟩
theorem mc_X2_hasPostsOf : Cond.code yX2_hasPostsOf cX2_hasPostsOf 3 (some .boolean) ∈ tp_W := tp_W_of (tm_3 (List.mem_of_getElem? (i := 199) rfl)) rfl
theorem mn_X2_hasPostsOf : Cond.instanceMethod yX2_hasPostsOf ∈ tp_W := tp_W_of (tm_3 (List.mem_of_getElem? (i := 197) rfl)) rfl
theorem mse_X2_hasPostsOf : Cond.selects RX2 yX2_hasPostsOf yX2_hasPostsOf ∈ tp_W := tp_W_of (tm_3 (List.mem_of_getElem? (i := 198) rfl)) rfl
theorem mf_X2_hasPostsOf : tp_MV yX2_hasPostsOf (Cond.code yX2_hasPostsOf cX2_hasPostsOf 3 (some .boolean)) cX2_hasPostsOf 3 (some .boolean) 1 := ⟨⟨rfl, mc_X2_hasPostsOf, mi_X2, by decide +kernel, by decide⟩, mn_X2_hasPostsOf, mse_X2_hasPostsOf⟩
theorem mc_X3_init : Cond.code yX3_init cX3_init 1 none ∈ tp_W := tp_W_of (tm_1 (List.mem_of_getElem? (i := 155) rfl)) rfl
theorem mn_X3_init : Cond.instanceMethod yX3_init ∈ tp_W := tp_W_of (tm_1 (List.mem_of_getElem? (i := 154) rfl)) rfl
theorem mc_X3_size : Cond.code yX3_size cX3_size 1 (some .int) ∈ tp_W := tp_W_of (tm_3 (List.mem_of_getElem? (i := 179) rfl)) rfl
theorem mn_X3_size : Cond.instanceMethod yX3_size ∈ tp_W := tp_W_of (tm_3 (List.mem_of_getElem? (i := 177) rfl)) rfl
theorem mse_X3_size : Cond.selects RX3 yX3_size yX3_size ∈ tp_W := tp_W_of (tm_3 (List.mem_of_getElem? (i := 178) rfl)) rfl
theorem mf_X3_size : tp_MV yX3_size (Cond.code yX3_size cX3_size 1 (some .int)) cX3_size 1 (some .int) 0 := ⟨⟨rfl, mc_X3_size, mi_X3, by decide +kernel, by decide⟩, mn_X3_size, mse_X3_size⟩
theorem mc_X3_forgetActs : Cond.code yX3_forgetActs cX3_forgetActs 1 none ∈ tp_W := tp_W_of (tm_5 (List.mem_of_getElem? (i := 65) rfl)) rfl
theorem mn_X3_forgetActs : Cond.instanceMethod yX3_forgetActs ∈ tp_W := tp_W_of (tm_5 (List.mem_of_getElem? (i := 63) rfl)) rfl
theorem mse_X3_forgetActs : Cond.selects RX3 yX3_forgetActs yX3_forgetActs ∈ tp_W := tp_W_of (tm_5 (List.mem_of_getElem? (i := 64) rfl)) rfl
theorem mf_X3_forgetActs : tp_MV yX3_forgetActs (Cond.code yX3_forgetActs cX3_forgetActs 1 none) cX3_forgetActs 1 none 0 := ⟨⟨rfl, mc_X3_forgetActs, mi_X3, by decide +kernel, by decide⟩, mn_X3_forgetActs, mse_X3_forgetActs⟩
theorem mc_X3_forgetAll : Cond.code yX3_forgetAll cX3_forgetAll 1 none ∈ tp_W := tp_W_of (tm_2 (List.mem_of_getElem? (i := 138) rfl)) rfl
theorem mn_X3_forgetAll : Cond.instanceMethod yX3_forgetAll ∈ tp_W := tp_W_of (tm_2 (List.mem_of_getElem? (i := 136) rfl)) rfl
theorem mse_X3_forgetAll : Cond.selects RX3 yX3_forgetAll yX3_forgetAll ∈ tp_W := tp_W_of (tm_2 (List.mem_of_getElem? (i := 137) rfl)) rfl
theorem mf_X3_forgetAll : tp_MV yX3_forgetAll (Cond.code yX3_forgetAll cX3_forgetAll 1 none) cX3_forgetAll 1 none 0 := ⟨⟨rfl, mc_X3_forgetAll, mi_X3, by decide +kernel, by decide⟩, mn_X3_forgetAll, mse_X3_forgetAll⟩
theorem mc_X3_push : Cond.code yX3_push cX3_push 2 none ∈ tp_W := tp_W_of (tm_2 (List.mem_of_getElem? (i := 237) rfl)) rfl
theorem mn_X3_push : Cond.instanceMethod yX3_push ∈ tp_W := tp_W_of (tm_2 (List.mem_of_getElem? (i := 235) rfl)) rfl
theorem mse_X3_push : Cond.selects RX3 yX3_push yX3_push ∈ tp_W := tp_W_of (tm_2 (List.mem_of_getElem? (i := 236) rfl)) rfl
theorem mf_X3_push : tp_MV yX3_push (Cond.code yX3_push cX3_push 2 none) cX3_push 2 none 1 := ⟨⟨rfl, mc_X3_push, mi_X3, by decide +kernel, by decide⟩, mn_X3_push, mse_X3_push⟩
theorem mc_X3_takeBack : Cond.code yX3_takeBack cX3_takeBack 2 (some .boolean) ∈ tp_W := tp_W_of (tm_3 (List.mem_of_getElem? (i := 171) rfl)) rfl
theorem mn_X3_takeBack : Cond.instanceMethod yX3_takeBack ∈ tp_W := tp_W_of (tm_3 (List.mem_of_getElem? (i := 169) rfl)) rfl
theorem mse_X3_takeBack : Cond.selects RX3 yX3_takeBack yX3_takeBack ∈ tp_W := tp_W_of (tm_3 (List.mem_of_getElem? (i := 170) rfl)) rfl
theorem mf_X3_takeBack : tp_MV yX3_takeBack (Cond.code yX3_takeBack cX3_takeBack 2 (some .boolean)) cX3_takeBack 2 (some .boolean) 1 := ⟨⟨rfl, mc_X3_takeBack, mi_X3, by decide +kernel, by decide⟩, mn_X3_takeBack, mse_X3_takeBack⟩
theorem mc_X3_isNumber : Cond.code yX3_isNumber cX3_isNumber 2 (some .boolean) ∈ tp_W := tp_W_of (tm_4 (List.mem_of_getElem? (i := 135) rfl)) rfl
theorem mn_X3_isNumber : Cond.instanceMethod yX3_isNumber ∈ tp_W := tp_W_of (tm_4 (List.mem_of_getElem? (i := 133) rfl)) rfl
theorem mse_X3_isNumber : Cond.selects RX3 yX3_isNumber yX3_isNumber ∈ tp_W := tp_W_of (tm_4 (List.mem_of_getElem? (i := 134) rfl)) rfl
theorem mf_X3_isNumber : tp_MV yX3_isNumber (Cond.code yX3_isNumber cX3_isNumber 2 (some .boolean)) cX3_isNumber 2 (some .boolean) 1 := ⟨⟨rfl, mc_X3_isNumber, mi_X3, by decide +kernel, by decide⟩, mn_X3_isNumber, mse_X3_isNumber⟩
theorem mc_X3_store : Cond.code yX3_store cX3_store 3 none ∈ tp_W := tp_W_of (tm_5 (List.mem_of_getElem? (i := 57) rfl)) rfl
theorem mn_X3_store : Cond.instanceMethod yX3_store ∈ tp_W := tp_W_of (tm_5 (List.mem_of_getElem? (i := 55) rfl)) rfl
theorem mse_X3_store : Cond.selects RX3 yX3_store yX3_store ∈ tp_W := tp_W_of (tm_5 (List.mem_of_getElem? (i := 56) rfl)) rfl
theorem mf_X3_store : tp_MV yX3_store (Cond.code yX3_store cX3_store 3 none) cX3_store 3 none 2 := ⟨⟨rfl, mc_X3_store, mi_X3, by decide +kernel, by decide⟩, mn_X3_store, mse_X3_store⟩
theorem mc_X3_bring : Cond.code yX3_bring cX3_bring 3 (some .boolean) ∈ tp_W := tp_W_of (tm_4 (List.mem_of_getElem? (i := 139) rfl)) rfl
theorem mn_X3_bring : Cond.instanceMethod yX3_bring ∈ tp_W := tp_W_of (tm_4 (List.mem_of_getElem? (i := 137) rfl)) rfl
theorem mse_X3_bring : Cond.selects RX3 yX3_bring yX3_bring ∈ tp_W := tp_W_of (tm_4 (List.mem_of_getElem? (i := 138) rfl)) rfl
theorem mf_X3_bring : tp_MV yX3_bring (Cond.code yX3_bring cX3_bring 3 (some .boolean)) cX3_bring 3 (some .boolean) 2 := ⟨⟨rfl, mc_X3_bring, mi_X3, by decide +kernel, by decide⟩, mn_X3_bring, mse_X3_bring⟩
theorem mc_X3_write : Cond.code yX3_write cX3_write 4 none ∈ tp_W := tp_W_of (tm_3 (List.mem_of_getElem? (i := 1) rfl)) rfl
theorem mn_X3_write : Cond.instanceMethod yX3_write ∈ tp_W := tp_W_of (tm_3 (List.mem_of_getElem? (i := 0) rfl)) rfl
theorem mse_X3_write : Cond.selects RX3 yX3_write yX3_write ∈ tp_W := tp_W_p (y := yX3_write) (n := 4) (List.mem_of_getElem? (i := 11) (by decide +kernel))
theorem mf_X3_write : tp_MV yX3_write (Cond.code yX3_write cX3_write 4 none) cX3_write 4 none 2 := ⟨⟨rfl, mc_X3_write, mi_X3, by decide +kernel, by decide⟩, mn_X3_write, mse_X3_write⟩
theorem mc_X3_read : Cond.code yX3_read cX3_read 4 none ∈ tp_W := tp_W_of (tm_3 (List.mem_of_getElem? (i := 175) rfl)) rfl
theorem mn_X3_read : Cond.instanceMethod yX3_read ∈ tp_W := tp_W_of (tm_3 (List.mem_of_getElem? (i := 174) rfl)) rfl
theorem mse_X3_read : Cond.selects RX3 yX3_read yX3_read ∈ tp_W := tp_W_p (y := yX3_read) (n := 4) (List.mem_of_getElem? (i := 25) (by decide +kernel))
theorem mf_X3_read : tp_MV yX3_read (Cond.code yX3_read cX3_read 4 none) cX3_read 4 none 2 := ⟨⟨rfl, mc_X3_read, mi_X3, by decide +kernel, by decide⟩, mn_X3_read, mse_X3_read⟩
theorem mc_X4_init : Cond.code yX4_init cX4_init 1 none ∈ tp_W := tp_W_of (tm_1 (List.mem_of_getElem? (i := 64) rfl)) rfl
theorem mn_X4_init : Cond.instanceMethod yX4_init ∈ tp_W := tp_W_of (tm_1 (List.mem_of_getElem? (i := 63) rfl)) rfl
theorem mc_X4_startAnew : Cond.code yX4_startAnew cX4_startAnew 1 none ∈ tp_W := tp_W_of (tm_2 (List.mem_of_getElem? (i := 13) rfl)) rfl
theorem mn_X4_startAnew : Cond.instanceMethod yX4_startAnew ∈ tp_W := tp_W_of (tm_2 (List.mem_of_getElem? (i := 11) rfl)) rfl
theorem mse_X4_startAnew : Cond.selects RX4 yX4_startAnew yX4_startAnew ∈ tp_W := tp_W_of (tm_2 (List.mem_of_getElem? (i := 12) rfl)) rfl
theorem mf_X4_startAnew : tp_MV yX4_startAnew (Cond.code yX4_startAnew cX4_startAnew 1 none) cX4_startAnew 1 none 0 := ⟨⟨rfl, mc_X4_startAnew, mi_X4, by decide +kernel, by decide⟩, mn_X4_startAnew, mse_X4_startAnew⟩
theorem mc_X4_clear : Cond.code yX4_clear cX4_clear 2 none ∈ tp_W := tp_W_of (tm_2 (List.mem_of_getElem? (i := 17) rfl)) rfl
theorem mn_X4_clear : Cond.instanceMethod yX4_clear ∈ tp_W := tp_W_of (tm_2 (List.mem_of_getElem? (i := 16) rfl)) rfl
theorem mse_X4_clear : Cond.selects RX4 yX4_clear yX4_clear ∈ tp_W := tp_W_p (y := yX4_clear) (n := 6) (List.mem_of_getElem? (i := 0) (by decide +kernel))
theorem mf_X4_clear : tp_MV yX4_clear (Cond.code yX4_clear cX4_clear 2 none) cX4_clear 2 none 0 := ⟨⟨rfl, mc_X4_clear, mi_X4, by decide +kernel, by decide⟩, mn_X4_clear, mse_X4_clear⟩
theorem mc_X4_copyFrom : Cond.code yX4_copyFrom cX4_copyFrom 2 none ∈ tp_W := tp_W_of (tm_2 (List.mem_of_getElem? (i := 127) rfl)) rfl
theorem mn_X4_copyFrom : Cond.instanceMethod yX4_copyFrom ∈ tp_W := tp_W_of (tm_2 (List.mem_of_getElem? (i := 125) rfl)) rfl
theorem mse_X4_copyFrom : Cond.selects RX4 yX4_copyFrom yX4_copyFrom ∈ tp_W := tp_W_of (tm_2 (List.mem_of_getElem? (i := 126) rfl)) rfl
theorem mf_X4_copyFrom : tp_MV yX4_copyFrom (Cond.code yX4_copyFrom cX4_copyFrom 2 none) cX4_copyFrom 2 none 1 := ⟨⟨rfl, mc_X4_copyFrom, mi_X4, by decide +kernel, by decide⟩, mn_X4_copyFrom, mse_X4_copyFrom⟩
theorem mc_X4_read : Cond.code yX4_read cX4_read 5 (some .int) ∈ tp_W := tp_W_of (tm_2 (List.mem_of_getElem? (i := 114) rfl)) rfl
theorem mn_X4_read : Cond.instanceMethod yX4_read ∈ tp_W := tp_W_of (tm_2 (List.mem_of_getElem? (i := 112) rfl)) rfl
theorem mse_X4_read : Cond.selects RX4 yX4_read yX4_read ∈ tp_W := tp_W_of (tm_2 (List.mem_of_getElem? (i := 113) rfl)) rfl
theorem mf_X4_read : tp_MV yX4_read (Cond.code yX4_read cX4_read 5 (some .int)) cX4_read 5 (some .int) 1 := ⟨⟨rfl, mc_X4_read, mi_X4, by decide +kernel, by decide⟩, mn_X4_read, mse_X4_read⟩
theorem mc_X4_addWay : Cond.code yX4_addWay cX4_addWay 3 (some .boolean) ∈ tp_W := tp_W_of (tm_2 (List.mem_of_getElem? (i := 21) rfl)) rfl
theorem mn_X4_addWay : Cond.instanceMethod yX4_addWay ∈ tp_W := tp_W_of (tm_2 (List.mem_of_getElem? (i := 20) rfl)) rfl
theorem mse_X4_addWay : Cond.selects RX4 yX4_addWay yX4_addWay ∈ tp_W := tp_W_p (y := yX4_addWay) (n := 6) (List.mem_of_getElem? (i := 1) (by decide +kernel))
theorem mf_X4_addWay : tp_MV yX4_addWay (Cond.code yX4_addWay cX4_addWay 3 (some .boolean)) cX4_addWay 3 (some .boolean) 2 := ⟨⟨rfl, mc_X4_addWay, mi_X4, by decide +kernel, by decide⟩, mn_X4_addWay, mse_X4_addWay⟩
theorem mc_X4_check : Cond.code yX4_check cX4_check 2 (some .int) ∈ tp_W := tp_W_of (tm_2 (List.mem_of_getElem? (i := 123) rfl)) rfl
theorem mn_X4_check : Cond.instanceMethod yX4_check ∈ tp_W := tp_W_of (tm_2 (List.mem_of_getElem? (i := 122) rfl)) rfl
theorem mse_X4_check : Cond.selects RX4 yX4_check yX4_check ∈ tp_W := tp_W_p (y := yX4_check) (n := 6) (List.mem_of_getElem? (i := 2) (by decide +kernel))
theorem mf_X4_check : tp_MV yX4_check (Cond.code yX4_check cX4_check 2 (some .int)) cX4_check 2 (some .int) 0 := ⟨⟨rfl, mc_X4_check, mi_X4, by decide +kernel, by decide⟩, mn_X4_check, mse_X4_check⟩
theorem mc_X4_measure : Cond.code yX4_measure cX4_measure 7 none ∈ tp_W := tp_W_of (tm_2 (List.mem_of_getElem? (i := 25) rfl)) rfl
theorem mn_X4_measure : Cond.instanceMethod yX4_measure ∈ tp_W := tp_W_of (tm_2 (List.mem_of_getElem? (i := 23) rfl)) rfl
theorem mse_X4_measure : Cond.selects RX4 yX4_measure yX4_measure ∈ tp_W := tp_W_of (tm_2 (List.mem_of_getElem? (i := 24) rfl)) rfl
theorem mf_X4_measure : tp_MV yX4_measure (Cond.code yX4_measure cX4_measure 7 none) cX4_measure 7 none 2 := ⟨⟨rfl, mc_X4_measure, mi_X4, by decide +kernel, by decide⟩, mn_X4_measure, mse_X4_measure⟩
theorem mc_X4_crossings : Cond.code yX4_crossings cX4_crossings 1 (some .int) ∈ tp_W := tp_W_of (tm_3 (List.mem_of_getElem? (i := 119) rfl)) rfl
theorem mn_X4_crossings : Cond.instanceMethod yX4_crossings ∈ tp_W := tp_W_of (tm_3 (List.mem_of_getElem? (i := 117) rfl)) rfl
theorem mse_X4_crossings : Cond.selects RX4 yX4_crossings yX4_crossings ∈ tp_W := tp_W_of (tm_3 (List.mem_of_getElem? (i := 118) rfl)) rfl
theorem mf_X4_crossings : tp_MV yX4_crossings (Cond.code yX4_crossings cX4_crossings 1 (some .int)) cX4_crossings 1 (some .int) 0 := ⟨⟨rfl, mc_X4_crossings, mi_X4, by decide +kernel, by decide⟩, mn_X4_crossings, mse_X4_crossings⟩
theorem mc_X4_waysInAll : Cond.code yX4_waysInAll cX4_waysInAll 1 (some .int) ∈ tp_W := tp_W_of (tm_5 (List.mem_of_getElem? (i := 73) rfl)) rfl
theorem mn_X4_waysInAll : Cond.instanceMethod yX4_waysInAll ∈ tp_W := tp_W_of (tm_5 (List.mem_of_getElem? (i := 71) rfl)) rfl
theorem mse_X4_waysInAll : Cond.selects RX4 yX4_waysInAll yX4_waysInAll ∈ tp_W := tp_W_of (tm_5 (List.mem_of_getElem? (i := 72) rfl)) rfl
theorem mf_X4_waysInAll : tp_MV yX4_waysInAll (Cond.code yX4_waysInAll cX4_waysInAll 1 (some .int)) cX4_waysInAll 1 (some .int) 0 := ⟨⟨rfl, mc_X4_waysInAll, mi_X4, by decide +kernel, by decide⟩, mn_X4_waysInAll, mse_X4_waysInAll⟩
theorem mc_X4_has : Cond.code yX4_has cX4_has 2 (some .boolean) ∈ tp_W := tp_W_of (tm_4 (List.mem_of_getElem? (i := 37) rfl)) rfl
theorem mn_X4_has : Cond.instanceMethod yX4_has ∈ tp_W := tp_W_of (tm_4 (List.mem_of_getElem? (i := 35) rfl)) rfl
theorem mse_X4_has : Cond.selects RX4 yX4_has yX4_has ∈ tp_W := tp_W_of (tm_4 (List.mem_of_getElem? (i := 36) rfl)) rfl
theorem mf_X4_has : tp_MV yX4_has (Cond.code yX4_has cX4_has 2 (some .boolean)) cX4_has 2 (some .boolean) 1 := ⟨⟨rfl, mc_X4_has, mi_X4, by decide +kernel, by decide⟩, mn_X4_has, mse_X4_has⟩
theorem mc_X4_hasPost : Cond.code yX4_hasPost cX4_hasPost 2 (some .boolean) ∈ tp_W := tp_W_of (tm_2 (List.mem_of_getElem? (i := 205) rfl)) rfl
theorem mn_X4_hasPost : Cond.instanceMethod yX4_hasPost ∈ tp_W := tp_W_of (tm_2 (List.mem_of_getElem? (i := 203) rfl)) rfl
theorem mse_X4_hasPost : Cond.selects RX4 yX4_hasPost yX4_hasPost ∈ tp_W := tp_W_of (tm_2 (List.mem_of_getElem? (i := 204) rfl)) rfl
theorem mf_X4_hasPost : tp_MV yX4_hasPost (Cond.code yX4_hasPost cX4_hasPost 2 (some .boolean)) cX4_hasPost 2 (some .boolean) 1 := ⟨⟨rfl, mc_X4_hasPost, mi_X4, by decide +kernel, by decide⟩, mn_X4_hasPost, mse_X4_hasPost⟩
theorem mc_X4_hasWay : Cond.code yX4_hasWay cX4_hasWay 3 (some .boolean) ∈ tp_W := tp_W_of (tm_3 (List.mem_of_getElem? (i := 31) rfl)) rfl
theorem mn_X4_hasWay : Cond.instanceMethod yX4_hasWay ∈ tp_W := tp_W_of (tm_3 (List.mem_of_getElem? (i := 29) rfl)) rfl
theorem mse_X4_hasWay : Cond.selects RX4 yX4_hasWay yX4_hasWay ∈ tp_W := tp_W_of (tm_3 (List.mem_of_getElem? (i := 30) rfl)) rfl
theorem mf_X4_hasWay : tp_MV yX4_hasWay (Cond.code yX4_hasWay cX4_hasWay 3 (some .boolean)) cX4_hasWay 3 (some .boolean) 2 := ⟨⟨rfl, mc_X4_hasWay, mi_X4, by decide +kernel, by decide⟩, mn_X4_hasWay, mse_X4_hasWay⟩
theorem mc_X4_degree : Cond.code yX4_degree cX4_degree 2 (some .int) ∈ tp_W := tp_W_of (tm_3 (List.mem_of_getElem? (i := 22) rfl)) rfl
theorem mn_X4_degree : Cond.instanceMethod yX4_degree ∈ tp_W := tp_W_of (tm_3 (List.mem_of_getElem? (i := 20) rfl)) rfl
theorem mse_X4_degree : Cond.selects RX4 yX4_degree yX4_degree ∈ tp_W := tp_W_of (tm_3 (List.mem_of_getElem? (i := 21) rfl)) rfl
theorem mf_X4_degree : tp_MV yX4_degree (Cond.code yX4_degree cX4_degree 2 (some .int)) cX4_degree 2 (some .int) 1 := ⟨⟨rfl, mc_X4_degree, mi_X4, by decide +kernel, by decide⟩, mn_X4_degree, mse_X4_degree⟩
theorem mc_X4_goal : Cond.code yX4_goal cX4_goal 3 (some .int) ∈ tp_W := tp_W_of (tm_3 (List.mem_of_getElem? (i := 27) rfl)) rfl
theorem mn_X4_goal : Cond.instanceMethod yX4_goal ∈ tp_W := tp_W_of (tm_3 (List.mem_of_getElem? (i := 25) rfl)) rfl
theorem mse_X4_goal : Cond.selects RX4 yX4_goal yX4_goal ∈ tp_W := tp_W_of (tm_3 (List.mem_of_getElem? (i := 26) rfl)) rfl
theorem mf_X4_goal : tp_MV yX4_goal (Cond.code yX4_goal cX4_goal 3 (some .int)) cX4_goal 3 (some .int) 2 := ⟨⟨rfl, mc_X4_goal, mi_X4, by decide +kernel, by decide⟩, mn_X4_goal, mse_X4_goal⟩
theorem mc_X4_far : Cond.code yX4_far cX4_far 2 (some .int) ∈ tp_W := tp_W_of (tm_5 (List.mem_of_getElem? (i := 7) rfl)) rfl
theorem mn_X4_far : Cond.instanceMethod yX4_far ∈ tp_W := tp_W_of (tm_5 (List.mem_of_getElem? (i := 5) rfl)) rfl
theorem mse_X4_far : Cond.selects RX4 yX4_far yX4_far ∈ tp_W := tp_W_of (tm_5 (List.mem_of_getElem? (i := 6) rfl)) rfl
theorem mf_X4_far : tp_MV yX4_far (Cond.code yX4_far cX4_far 2 (some .int)) cX4_far 2 (some .int) 1 := ⟨⟨rfl, mc_X4_far, mi_X4, by decide +kernel, by decide⟩, mn_X4_far, mse_X4_far⟩
theorem mc_X4_waysTo : Cond.code yX4_waysTo cX4_waysTo 5 (some .int) ∈ tp_W := tp_W_of (tm_3 (List.mem_of_getElem? (i := 97) rfl)) rfl
theorem mn_X4_waysTo : Cond.instanceMethod yX4_waysTo ∈ tp_W := tp_W_of (tm_3 (List.mem_of_getElem? (i := 95) rfl)) rfl
theorem mse_X4_waysTo : Cond.selects RX4 yX4_waysTo yX4_waysTo ∈ tp_W := tp_W_of (tm_3 (List.mem_of_getElem? (i := 96) rfl)) rfl
theorem mf_X4_waysTo : tp_MV yX4_waysTo (Cond.code yX4_waysTo cX4_waysTo 5 (some .int)) cX4_waysTo 5 (some .int) 2 := ⟨⟨rfl, mc_X4_waysTo, mi_X4, by decide +kernel, by decide⟩, mn_X4_waysTo, mse_X4_waysTo⟩
theorem mc_X4_reach : Cond.code yX4_reach cX4_reach 7 (some .int) ∈ tp_W := tp_W_of (tm_4 (List.mem_of_getElem? (i := 52) rfl)) rfl
theorem mn_X4_reach : Cond.instanceMethod yX4_reach ∈ tp_W := tp_W_of (tm_4 (List.mem_of_getElem? (i := 50) rfl)) rfl
theorem mse_X4_reach : Cond.selects RX4 yX4_reach yX4_reach ∈ tp_W := tp_W_of (tm_4 (List.mem_of_getElem? (i := 51) rfl)) rfl
theorem mf_X4_reach : tp_MV yX4_reach (Cond.code yX4_reach cX4_reach 7 (some .int)) cX4_reach 7 (some .int) 2 := ⟨⟨rfl, mc_X4_reach, mi_X4, by decide +kernel, by decide⟩, mn_X4_reach, mse_X4_reach⟩
theorem mc_X4_parishOf : Cond.code yX4_parishOf cX4_parishOf 6 (some .int) ∈ tp_W := tp_W_of (tm_4 (List.mem_of_getElem? (i := 60) rfl)) rfl
theorem mn_X4_parishOf : Cond.instanceMethod yX4_parishOf ∈ tp_W := tp_W_of (tm_4 (List.mem_of_getElem? (i := 58) rfl)) rfl
theorem mse_X4_parishOf : Cond.selects RX4 yX4_parishOf yX4_parishOf ∈ tp_W := tp_W_of (tm_4 (List.mem_of_getElem? (i := 59) rfl)) rfl
theorem mf_X4_parishOf : tp_MV yX4_parishOf (Cond.code yX4_parishOf cX4_parishOf 6 (some .int)) cX4_parishOf 6 (some .int) 1 := ⟨⟨rfl, mc_X4_parishOf, mi_X4, by decide +kernel, by decide⟩, mn_X4_parishOf, mse_X4_parishOf⟩
theorem mc_X5_init : Cond.code yX5_init cX5_init 1 none ∈ tp_W := tp_W_of (tm_1 (List.mem_of_getElem? (i := 174) rfl)) rfl
theorem mn_X5_init : Cond.instanceMethod yX5_init ∈ tp_W := tp_W_of (tm_1 (List.mem_of_getElem? (i := 173) rfl)) rfl
theorem mc_X5_load : Cond.code yX5_load cX5_load 3 none ∈ tp_W := tp_W_of (tm_3 (List.mem_of_getElem? (i := 111) rfl)) rfl
theorem mn_X5_load : Cond.instanceMethod yX5_load ∈ tp_W := tp_W_of (tm_3 (List.mem_of_getElem? (i := 109) rfl)) rfl
theorem mse_X5_load : Cond.selects RX5 yX5_load yX5_load ∈ tp_W := tp_W_of (tm_3 (List.mem_of_getElem? (i := 110) rfl)) rfl
theorem mf_X5_load : tp_MV yX5_load (Cond.code yX5_load cX5_load 3 none) cX5_load 3 none 1 := ⟨⟨rfl, mc_X5_load, mi_X5, by decide +kernel, by decide⟩, mn_X5_load, mse_X5_load⟩
theorem mc_X5_pour : Cond.code yX5_pour cX5_pour 3 none ∈ tp_W := tp_W_of (tm_4 (List.mem_of_getElem? (i := 123) rfl)) rfl
theorem mn_X5_pour : Cond.instanceMethod yX5_pour ∈ tp_W := tp_W_of (tm_4 (List.mem_of_getElem? (i := 121) rfl)) rfl
theorem mse_X5_pour : Cond.selects RX5 yX5_pour yX5_pour ∈ tp_W := tp_W_of (tm_4 (List.mem_of_getElem? (i := 122) rfl)) rfl
theorem mf_X5_pour : tp_MV yX5_pour (Cond.code yX5_pour cX5_pour 3 none) cX5_pour 3 none 1 := ⟨⟨rfl, mc_X5_pour, mi_X5, by decide +kernel, by decide⟩, mn_X5_pour, mse_X5_pour⟩
theorem mc_X5_holds : Cond.code yX5_holds cX5_holds 3 (some .boolean) ∈ tp_W := tp_W_of (tm_4 (List.mem_of_getElem? (i := 127) rfl)) rfl
theorem mn_X5_holds : Cond.instanceMethod yX5_holds ∈ tp_W := tp_W_of (tm_4 (List.mem_of_getElem? (i := 125) rfl)) rfl
theorem mse_X5_holds : Cond.selects RX5 yX5_holds yX5_holds ∈ tp_W := tp_W_of (tm_4 (List.mem_of_getElem? (i := 126) rfl)) rfl
theorem mf_X5_holds : tp_MV yX5_holds (Cond.code yX5_holds cX5_holds 3 (some .boolean)) cX5_holds 3 (some .boolean) 1 := ⟨⟨rfl, mc_X5_holds, mi_X5, by decide +kernel, by decide⟩, mn_X5_holds, mse_X5_holds⟩
theorem mc_X5_calm : Cond.code yX5_calm cX5_calm 6 (some .int) ∈ tp_W := tp_W_of (tm_3 (List.mem_of_getElem? (i := 115) rfl)) rfl
theorem mn_X5_calm : Cond.instanceMethod yX5_calm ∈ tp_W := tp_W_of (tm_3 (List.mem_of_getElem? (i := 113) rfl)) rfl
theorem mse_X5_calm : Cond.selects RX5 yX5_calm yX5_calm ∈ tp_W := tp_W_of (tm_3 (List.mem_of_getElem? (i := 114) rfl)) rfl
theorem mf_X5_calm : tp_MV yX5_calm (Cond.code yX5_calm cX5_calm 6 (some .int)) cX5_calm 6 (some .int) 1 := ⟨⟨rfl, mc_X5_calm, mi_X5, by decide +kernel, by decide⟩, mn_X5_calm, mse_X5_calm⟩
theorem mc_X5_burstAtOnce : Cond.code yX5_burstAtOnce cX5_burstAtOnce 7 (some .int) ∈ tp_W := tp_W_of (tm_3 (List.mem_of_getElem? (i := 123) rfl)) rfl
theorem mn_X5_burstAtOnce : Cond.instanceMethod yX5_burstAtOnce ∈ tp_W := tp_W_of (tm_3 (List.mem_of_getElem? (i := 122) rfl)) rfl
theorem mse_X5_burstAtOnce : Cond.selects RX5 yX5_burstAtOnce yX5_burstAtOnce ∈ tp_W := tp_W_p (y := yX5_burstAtOnce) (n := 3) (List.mem_of_getElem? (i := 21) (by decide +kernel))
theorem mf_X5_burstAtOnce : tp_MV yX5_burstAtOnce (Cond.code yX5_burstAtOnce cX5_burstAtOnce 7 (some .int)) cX5_burstAtOnce 7 (some .int) 2 := ⟨⟨rfl, mc_X5_burstAtOnce, mi_X5, by decide +kernel, by decide⟩, mn_X5_burstAtOnce, mse_X5_burstAtOnce⟩
theorem mc_X5_makeUnit : Cond.code yX5_makeUnit cX5_makeUnit 4 (some .int) ∈ tp_W := tp_W_of (tm_4 (List.mem_of_getElem? (i := 106) rfl)) rfl
theorem mn_X5_makeUnit : Cond.instanceMethod yX5_makeUnit ∈ tp_W := tp_W_of (tm_4 (List.mem_of_getElem? (i := 104) rfl)) rfl
theorem mse_X5_makeUnit : Cond.selects RX5 yX5_makeUnit yX5_makeUnit ∈ tp_W := tp_W_of (tm_4 (List.mem_of_getElem? (i := 105) rfl)) rfl
theorem mf_X5_makeUnit : tp_MV yX5_makeUnit (Cond.code yX5_makeUnit cX5_makeUnit 4 (some .int)) cX5_makeUnit 4 (some .int) 1 := ⟨⟨rfl, mc_X5_makeUnit, mi_X5, by decide +kernel, by decide⟩, mn_X5_makeUnit, mse_X5_makeUnit⟩
theorem mc_X5_fillTwice : Cond.code yX5_fillTwice cX5_fillTwice 3 none ∈ tp_W := tp_W_of (tm_4 (List.mem_of_getElem? (i := 110) rfl)) rfl
theorem mn_X5_fillTwice : Cond.instanceMethod yX5_fillTwice ∈ tp_W := tp_W_of (tm_4 (List.mem_of_getElem? (i := 109) rfl)) rfl
theorem mse_X5_fillTwice : Cond.selects RX5 yX5_fillTwice yX5_fillTwice ∈ tp_W := tp_W_p (y := yX5_fillTwice) (n := 3) (List.mem_of_getElem? (i := 37) (by decide +kernel))
theorem mf_X5_fillTwice : tp_MV yX5_fillTwice (Cond.code yX5_fillTwice cX5_fillTwice 3 none) cX5_fillTwice 3 none 1 := ⟨⟨rfl, mc_X5_fillTwice, mi_X5, by decide +kernel, by decide⟩, mn_X5_fillTwice, mse_X5_fillTwice⟩
theorem mc_X6_init : Cond.code yX6_init cX6_init 1 none ∈ tp_W := tp_W_of (tm_1 (List.mem_of_getElem? (i := 219) rfl)) rfl
theorem mn_X6_init : Cond.instanceMethod yX6_init ∈ tp_W := tp_W_of (tm_1 (List.mem_of_getElem? (i := 218) rfl)) rfl
theorem mc_X6_size : Cond.code yX6_size cX6_size 1 (some .int) ∈ tp_W := tp_W_of (tm_4 (List.mem_of_getElem? (i := 160) rfl)) rfl
theorem mn_X6_size : Cond.instanceMethod yX6_size ∈ tp_W := tp_W_of (tm_4 (List.mem_of_getElem? (i := 158) rfl)) rfl
theorem mse_X6_size : Cond.selects RX6 yX6_size yX6_size ∈ tp_W := tp_W_of (tm_4 (List.mem_of_getElem? (i := 159) rfl)) rfl
theorem mf_X6_size : tp_MV yX6_size (Cond.code yX6_size cX6_size 1 (some .int)) cX6_size 1 (some .int) 0 := ⟨⟨rfl, mc_X6_size, mi_X6, by decide +kernel, by decide⟩, mn_X6_size, mse_X6_size⟩
theorem mc_X6_clear : Cond.code yX6_clear cX6_clear 1 none ∈ tp_W := tp_W_of (tm_2 (List.mem_of_getElem? (i := 142) rfl)) rfl
theorem mn_X6_clear : Cond.instanceMethod yX6_clear ∈ tp_W := tp_W_of (tm_2 (List.mem_of_getElem? (i := 140) rfl)) rfl
theorem mse_X6_clear : Cond.selects RX6 yX6_clear yX6_clear ∈ tp_W := tp_W_of (tm_2 (List.mem_of_getElem? (i := 141) rfl)) rfl
theorem mf_X6_clear : tp_MV yX6_clear (Cond.code yX6_clear cX6_clear 1 none) cX6_clear 1 none 0 := ⟨⟨rfl, mc_X6_clear, mi_X6, by decide +kernel, by decide⟩, mn_X6_clear, mse_X6_clear⟩
theorem mc_X6_add : Cond.code yX6_add cX6_add 4 (some .boolean) ∈ tp_W := tp_W_of (tm_4 (List.mem_of_getElem? (i := 156) rfl)) rfl
theorem mn_X6_add : Cond.instanceMethod yX6_add ∈ tp_W := tp_W_of (tm_4 (List.mem_of_getElem? (i := 154) rfl)) rfl
theorem mse_X6_add : Cond.selects RX6 yX6_add yX6_add ∈ tp_W := tp_W_of (tm_4 (List.mem_of_getElem? (i := 155) rfl)) rfl
theorem mf_X6_add : tp_MV yX6_add (Cond.code yX6_add cX6_add 4 (some .boolean)) cX6_add 4 (some .boolean) 3 := ⟨⟨rfl, mc_X6_add, mi_X6, by decide +kernel, by decide⟩, mn_X6_add, mse_X6_add⟩
theorem mc_X6_start : Cond.code yX6_start cX6_start 2 (some .int) ∈ tp_W := tp_W_of (tm_4 (List.mem_of_getElem? (i := 180) rfl)) rfl
theorem mn_X6_start : Cond.instanceMethod yX6_start ∈ tp_W := tp_W_of (tm_4 (List.mem_of_getElem? (i := 178) rfl)) rfl
theorem mse_X6_start : Cond.selects RX6 yX6_start yX6_start ∈ tp_W := tp_W_of (tm_4 (List.mem_of_getElem? (i := 179) rfl)) rfl
theorem mf_X6_start : tp_MV yX6_start (Cond.code yX6_start cX6_start 2 (some .int)) cX6_start 2 (some .int) 1 := ⟨⟨rfl, mc_X6_start, mi_X6, by decide +kernel, by decide⟩, mn_X6_start, mse_X6_start⟩
theorem mc_X6_steps : Cond.code yX6_steps cX6_steps 2 (some .int) ∈ tp_W := tp_W_of (tm_4 (List.mem_of_getElem? (i := 184) rfl)) rfl
theorem mn_X6_steps : Cond.instanceMethod yX6_steps ∈ tp_W := tp_W_of (tm_4 (List.mem_of_getElem? (i := 182) rfl)) rfl
theorem mse_X6_steps : Cond.selects RX6 yX6_steps yX6_steps ∈ tp_W := tp_W_of (tm_4 (List.mem_of_getElem? (i := 183) rfl)) rfl
theorem mf_X6_steps : tp_MV yX6_steps (Cond.code yX6_steps cX6_steps 2 (some .int)) cX6_steps 2 (some .int) 1 := ⟨⟨rfl, mc_X6_steps, mi_X6, by decide +kernel, by decide⟩, mn_X6_steps, mse_X6_steps⟩
theorem mc_X6_place : Cond.code yX6_place cX6_place 2 (some .int) ∈ tp_W := tp_W_of (tm_4 (List.mem_of_getElem? (i := 188) rfl)) rfl
theorem mn_X6_place : Cond.instanceMethod yX6_place ∈ tp_W := tp_W_of (tm_4 (List.mem_of_getElem? (i := 186) rfl)) rfl
theorem mse_X6_place : Cond.selects RX6 yX6_place yX6_place ∈ tp_W := tp_W_of (tm_4 (List.mem_of_getElem? (i := 187) rfl)) rfl
theorem mf_X6_place : tp_MV yX6_place (Cond.code yX6_place cX6_place 2 (some .int)) cX6_place 2 (some .int) 1 := ⟨⟨rfl, mc_X6_place, mi_X6, by decide +kernel, by decide⟩, mn_X6_place, mse_X6_place⟩
theorem mc_X7_init : Cond.code yX7_init cX7_init 1 none ∈ tp_W := tp_W_of (tm_1 (List.mem_of_getElem? (i := 36) rfl)) rfl
theorem mn_X7_init : Cond.instanceMethod yX7_init ∈ tp_W := tp_W_of (tm_1 (List.mem_of_getElem? (i := 35) rfl)) rfl
theorem mc_X7_size : Cond.code yX7_size cX7_size 1 (some .int) ∈ tp_W := tp_W_of (tm_2 (List.mem_of_getElem? (i := 94) rfl)) rfl
theorem mn_X7_size : Cond.instanceMethod yX7_size ∈ tp_W := tp_W_of (tm_2 (List.mem_of_getElem? (i := 92) rfl)) rfl
theorem mse_X7_size : Cond.selects RX7 yX7_size yX7_size ∈ tp_W := tp_W_of (tm_2 (List.mem_of_getElem? (i := 93) rfl)) rfl
theorem mf_X7_size : tp_MV yX7_size (Cond.code yX7_size cX7_size 1 (some .int)) cX7_size 1 (some .int) 0 := ⟨⟨rfl, mc_X7_size, mi_X7, by decide +kernel, by decide⟩, mn_X7_size, mse_X7_size⟩
theorem mc_X7_at : Cond.code yX7_at cX7_at 2 (some .int) ∈ tp_W := tp_W_of (tm_2 (List.mem_of_getElem? (i := 119) rfl)) rfl
theorem mn_X7_at : Cond.instanceMethod yX7_at ∈ tp_W := tp_W_of (tm_2 (List.mem_of_getElem? (i := 117) rfl)) rfl
theorem mse_X7_at : Cond.selects RX7 yX7_at yX7_at ∈ tp_W := tp_W_of (tm_2 (List.mem_of_getElem? (i := 118) rfl)) rfl
theorem mf_X7_at : tp_MV yX7_at (Cond.code yX7_at cX7_at 2 (some .int)) cX7_at 2 (some .int) 1 := ⟨⟨rfl, mc_X7_at, mi_X7, by decide +kernel, by decide⟩, mn_X7_at, mse_X7_at⟩
theorem mc_X7_add : Cond.code yX7_add cX7_add 2 none ∈ tp_W := tp_W_of (tm_2 (List.mem_of_getElem? (i := 98) rfl)) rfl
theorem mn_X7_add : Cond.instanceMethod yX7_add ∈ tp_W := tp_W_of (tm_2 (List.mem_of_getElem? (i := 96) rfl)) rfl
theorem mse_X7_add : Cond.selects RX7 yX7_add yX7_add ∈ tp_W := tp_W_of (tm_2 (List.mem_of_getElem? (i := 97) rfl)) rfl
theorem mf_X7_add : tp_MV yX7_add (Cond.code yX7_add cX7_add 2 none) cX7_add 2 none 1 := ⟨⟨rfl, mc_X7_add, mi_X7, by decide +kernel, by decide⟩, mn_X7_add, mse_X7_add⟩
theorem mc_X7_cut : Cond.code yX7_cut cX7_cut 2 none ∈ tp_W := tp_W_of (tm_2 (List.mem_of_getElem? (i := 106) rfl)) rfl
theorem mn_X7_cut : Cond.instanceMethod yX7_cut ∈ tp_W := tp_W_of (tm_2 (List.mem_of_getElem? (i := 104) rfl)) rfl
theorem mse_X7_cut : Cond.selects RX7 yX7_cut yX7_cut ∈ tp_W := tp_W_of (tm_2 (List.mem_of_getElem? (i := 105) rfl)) rfl
theorem mf_X7_cut : tp_MV yX7_cut (Cond.code yX7_cut cX7_cut 2 none) cX7_cut 2 none 1 := ⟨⟨rfl, mc_X7_cut, mi_X7, by decide +kernel, by decide⟩, mn_X7_cut, mse_X7_cut⟩
theorem mc_X8_init : Cond.code yX8_init cX8_init 1 none ∈ tp_W := tp_W_of (tm_1 (List.mem_of_getElem? (i := 50) rfl)) rfl
theorem mn_X8_init : Cond.instanceMethod yX8_init ∈ tp_W := tp_W_of (tm_1 (List.mem_of_getElem? (i := 49) rfl)) rfl
theorem mc_X8_size : Cond.code yX8_size cX8_size 1 (some .int) ∈ tp_W := tp_W_of (tm_5 (List.mem_of_getElem? (i := 81) rfl)) rfl
theorem mn_X8_size : Cond.instanceMethod yX8_size ∈ tp_W := tp_W_of (tm_5 (List.mem_of_getElem? (i := 79) rfl)) rfl
theorem mse_X8_size : Cond.selects RX8 yX8_size yX8_size ∈ tp_W := tp_W_of (tm_5 (List.mem_of_getElem? (i := 80) rfl)) rfl
theorem mf_X8_size : tp_MV yX8_size (Cond.code yX8_size cX8_size 1 (some .int)) cX8_size 1 (some .int) 0 := ⟨⟨rfl, mc_X8_size, mi_X8, by decide +kernel, by decide⟩, mn_X8_size, mse_X8_size⟩
theorem mc_X8_at : Cond.code yX8_at cX8_at 2 (some .long) ∈ tp_W := tp_W_of (tm_5 (List.mem_of_getElem? (i := 172) rfl)) rfl
theorem mn_X8_at : Cond.instanceMethod yX8_at ∈ tp_W := tp_W_of (tm_5 (List.mem_of_getElem? (i := 170) rfl)) rfl
theorem mse_X8_at : Cond.selects RX8 yX8_at yX8_at ∈ tp_W := tp_W_of (tm_5 (List.mem_of_getElem? (i := 171) rfl)) rfl
theorem mf_X8_at : tp_MV yX8_at (Cond.code yX8_at cX8_at 2 (some .long)) cX8_at 2 (some .long) 1 := ⟨⟨rfl, mc_X8_at, mi_X8, by decide +kernel, by decide⟩, mn_X8_at, mse_X8_at⟩
theorem mc_X8_add : Cond.code yX8_add cX8_add 3 none ∈ tp_W := tp_W_of (tm_3 (List.mem_of_getElem? (i := 64) rfl)) rfl
theorem mn_X8_add : Cond.instanceMethod yX8_add ∈ tp_W := tp_W_of (tm_3 (List.mem_of_getElem? (i := 62) rfl)) rfl
theorem mse_X8_add : Cond.selects RX8 yX8_add yX8_add ∈ tp_W := tp_W_of (tm_3 (List.mem_of_getElem? (i := 63) rfl)) rfl
theorem mf_X8_add : tp_MV yX8_add (Cond.code yX8_add cX8_add 3 none) cX8_add 3 none 1 := ⟨⟨rfl, mc_X8_add, mi_X8, by decide +kernel, by decide⟩, mn_X8_add, mse_X8_add⟩
theorem mc_X8_tell : Cond.code yX8_tell cX8_tell 1 none ∈ tp_W := tp_W_of (tm_3 (List.mem_of_getElem? (i := 60) rfl)) rfl
theorem mn_X8_tell : Cond.instanceMethod yX8_tell ∈ tp_W := tp_W_of (tm_3 (List.mem_of_getElem? (i := 58) rfl)) rfl
theorem mse_X8_tell : Cond.selects RX8 yX8_tell yX8_tell ∈ tp_W := tp_W_of (tm_3 (List.mem_of_getElem? (i := 59) rfl)) rfl
theorem mf_X8_tell : tp_MV yX8_tell (Cond.code yX8_tell cX8_tell 1 none) cX8_tell 1 none 0 := ⟨⟨rfl, mc_X8_tell, mi_X8, by decide +kernel, by decide⟩, mn_X8_tell, mse_X8_tell⟩
theorem mc_X8_tell_ : Cond.code yX8_tell_ cX8_tell_ 3 none ∈ tp_W := tp_W_of (tm_3 (List.mem_of_getElem? (i := 56) rfl)) rfl
theorem mn_X8_tell_ : Cond.instanceMethod yX8_tell_ ∈ tp_W := tp_W_of (tm_3 (List.mem_of_getElem? (i := 54) rfl)) rfl
theorem mse_X8_tell_ : Cond.selects RX8 yX8_tell_ yX8_tell_ ∈ tp_W := tp_W_of (tm_3 (List.mem_of_getElem? (i := 55) rfl)) rfl
theorem mf_X8_tell_ : tp_MV yX8_tell_ (Cond.code yX8_tell_ cX8_tell_ 3 none) cX8_tell_ 3 none 1 := ⟨⟨rfl, mc_X8_tell_, mi_X8, by decide +kernel, by decide⟩, mn_X8_tell_, mse_X8_tell_⟩
theorem mc_X8_tell__ : Cond.code yX8_tell__ cX8_tell__ 5 none ∈ tp_W := tp_W_of (tm_3 (List.mem_of_getElem? (i := 52) rfl)) rfl
theorem mn_X8_tell__ : Cond.instanceMethod yX8_tell__ ∈ tp_W := tp_W_of (tm_3 (List.mem_of_getElem? (i := 50) rfl)) rfl
theorem mse_X8_tell__ : Cond.selects RX8 yX8_tell__ yX8_tell__ ∈ tp_W := tp_W_of (tm_3 (List.mem_of_getElem? (i := 51) rfl)) rfl
theorem mf_X8_tell__ : tp_MV yX8_tell__ (Cond.code yX8_tell__ cX8_tell__ 5 none) cX8_tell__ 5 none 2 := ⟨⟨rfl, mc_X8_tell__, mi_X8, by decide +kernel, by decide⟩, mn_X8_tell__, mse_X8_tell__⟩
theorem mc_X8_tellRow : Cond.code yX8_tellRow cX8_tellRow 4 none ∈ tp_W := tp_W_of (tm_3 (List.mem_of_getElem? (i := 131) rfl)) rfl
theorem mn_X8_tellRow : Cond.instanceMethod yX8_tellRow ∈ tp_W := tp_W_of (tm_3 (List.mem_of_getElem? (i := 129) rfl)) rfl
theorem mse_X8_tellRow : Cond.selects RX8 yX8_tellRow yX8_tellRow ∈ tp_W := tp_W_of (tm_3 (List.mem_of_getElem? (i := 130) rfl)) rfl
theorem mf_X8_tellRow : tp_MV yX8_tellRow (Cond.code yX8_tellRow cX8_tellRow 4 none) cX8_tellRow 4 none 2 := ⟨⟨rfl, mc_X8_tellRow, mi_X8, by decide +kernel, by decide⟩, mn_X8_tellRow, mse_X8_tellRow⟩
theorem mc_X9_init : Cond.code yX9_init cX9_init 1 none ∈ tp_W := tp_W_of (tm_1 (List.mem_of_getElem? (i := 89) rfl)) rfl
theorem mn_X9_init : Cond.instanceMethod yX9_init ∈ tp_W := tp_W_of (tm_1 (List.mem_of_getElem? (i := 88) rfl)) rfl
theorem mc_X9_copyFrom : Cond.code yX9_copyFrom cX9_copyFrom 2 none ∈ tp_W := tp_W_of (tm_2 (List.mem_of_getElem? (i := 196) rfl)) rfl
theorem mn_X9_copyFrom : Cond.instanceMethod yX9_copyFrom ∈ tp_W := tp_W_of (tm_2 (List.mem_of_getElem? (i := 194) rfl)) rfl
theorem mse_X9_copyFrom : Cond.selects RX9 yX9_copyFrom yX9_copyFrom ∈ tp_W := tp_W_of (tm_2 (List.mem_of_getElem? (i := 195) rfl)) rfl
theorem mf_X9_copyFrom : tp_MV yX9_copyFrom (Cond.code yX9_copyFrom cX9_copyFrom 2 none) cX9_copyFrom 2 none 1 := ⟨⟨rfl, mc_X9_copyFrom, mi_X9, by decide +kernel, by decide⟩, mn_X9_copyFrom, mse_X9_copyFrom⟩
theorem mc_X9_read : Cond.code yX9_read cX9_read 5 (some .int) ∈ tp_W := tp_W_of (tm_2 (List.mem_of_getElem? (i := 154) rfl)) rfl
theorem mn_X9_read : Cond.instanceMethod yX9_read ∈ tp_W := tp_W_of (tm_2 (List.mem_of_getElem? (i := 152) rfl)) rfl
theorem mse_X9_read : Cond.selects RX9 yX9_read yX9_read ∈ tp_W := tp_W_of (tm_2 (List.mem_of_getElem? (i := 153) rfl)) rfl
theorem mf_X9_read : tp_MV yX9_read (Cond.code yX9_read cX9_read 5 (some .int)) cX9_read 5 (some .int) 1 := ⟨⟨rfl, mc_X9_read, mi_X9, by decide +kernel, by decide⟩, mn_X9_read, mse_X9_read⟩
theorem mc_X9_takeThing : Cond.code yX9_takeThing cX9_takeThing 3 (some .boolean) ∈ tp_W := tp_W_of (tm_2 (List.mem_of_getElem? (i := 163) rfl)) rfl
theorem mn_X9_takeThing : Cond.instanceMethod yX9_takeThing ∈ tp_W := tp_W_of (tm_2 (List.mem_of_getElem? (i := 162) rfl)) rfl
theorem mse_X9_takeThing : Cond.selects RX9 yX9_takeThing yX9_takeThing ∈ tp_W := tp_W_p (y := yX9_takeThing) (n := 9) (List.mem_of_getElem? (i := 3) (by decide +kernel))
theorem mf_X9_takeThing : tp_MV yX9_takeThing (Cond.code yX9_takeThing cX9_takeThing 3 (some .boolean)) cX9_takeThing 3 (some .boolean) 1 := ⟨⟨rfl, mc_X9_takeThing, mi_X9, by decide +kernel, by decide⟩, mn_X9_takeThing, mse_X9_takeThing⟩
theorem mc_X9_takeNext : Cond.code yX9_takeNext cX9_takeNext 3 (some .boolean) ∈ tp_W := tp_W_of (tm_2 (List.mem_of_getElem? (i := 181) rfl)) rfl
theorem mn_X9_takeNext : Cond.instanceMethod yX9_takeNext ∈ tp_W := tp_W_of (tm_2 (List.mem_of_getElem? (i := 180) rfl)) rfl
theorem mse_X9_takeNext : Cond.selects RX9 yX9_takeNext yX9_takeNext ∈ tp_W := tp_W_p (y := yX9_takeNext) (n := 9) (List.mem_of_getElem? (i := 6) (by decide +kernel))
theorem mf_X9_takeNext : tp_MV yX9_takeNext (Cond.code yX9_takeNext cX9_takeNext 3 (some .boolean)) cX9_takeNext 3 (some .boolean) 1 := ⟨⟨rfl, mc_X9_takeNext, mi_X9, by decide +kernel, by decide⟩, mn_X9_takeNext, mse_X9_takeNext⟩
theorem mc_X9_takeDigit : Cond.code yX9_takeDigit cX9_takeDigit 2 (some .boolean) ∈ tp_W := tp_W_of (tm_2 (List.mem_of_getElem? (i := 185) rfl)) rfl
theorem mn_X9_takeDigit : Cond.instanceMethod yX9_takeDigit ∈ tp_W := tp_W_of (tm_2 (List.mem_of_getElem? (i := 184) rfl)) rfl
theorem mse_X9_takeDigit : Cond.selects RX9 yX9_takeDigit yX9_takeDigit ∈ tp_W := tp_W_p (y := yX9_takeDigit) (n := 9) (List.mem_of_getElem? (i := 7) (by decide +kernel))
theorem mf_X9_takeDigit : tp_MV yX9_takeDigit (Cond.code yX9_takeDigit cX9_takeDigit 2 (some .boolean)) cX9_takeDigit 2 (some .boolean) 1 := ⟨⟨rfl, mc_X9_takeDigit, mi_X9, by decide +kernel, by decide⟩, mn_X9_takeDigit, mse_X9_takeDigit⟩
theorem mc_X9_isLetter : Cond.code yX9_isLetter cX9_isLetter 1 (some .boolean) ∈ tp_W := tp_W_of (tm_2 (List.mem_of_getElem? (i := 173) rfl)) rfl
theorem ms_X9_isLetter : Cond.static yX9_isLetter ∈ tp_W := tp_W_of (tm_2 (List.mem_of_getElem? (i := 172) rfl)) rfl
theorem mf_X9_isLetter : tp_MS yX9_isLetter (Cond.code yX9_isLetter cX9_isLetter 1 (some .boolean)) cX9_isLetter 1 (some .boolean) 1 := ⟨⟨rfl, mc_X9_isLetter, mi_X9, by decide +kernel, by decide⟩, ms_X9_isLetter⟩
theorem mc_X9_strengthOf : Cond.code yX9_strengthOf cX9_strengthOf 1 (some .int) ∈ tp_W := tp_W_of (tm_2 (List.mem_of_getElem? (i := 192) rfl)) rfl
theorem ms_X9_strengthOf : Cond.static yX9_strengthOf ∈ tp_W := tp_W_of (tm_2 (List.mem_of_getElem? (i := 191) rfl)) rfl
theorem mf_X9_strengthOf : tp_MS yX9_strengthOf (Cond.code yX9_strengthOf cX9_strengthOf 1 (some .int)) cX9_strengthOf 1 (some .int) 1 := ⟨⟨rfl, mc_X9_strengthOf, mi_X9, by decide +kernel, by decide⟩, ms_X9_strengthOf⟩
theorem mc_X9_emit : Cond.code yX9_emit cX9_emit 2 none ∈ tp_W := tp_W_of (tm_2 (List.mem_of_getElem? (i := 177) rfl)) rfl
theorem mn_X9_emit : Cond.instanceMethod yX9_emit ∈ tp_W := tp_W_of (tm_2 (List.mem_of_getElem? (i := 176) rfl)) rfl
theorem mse_X9_emit : Cond.selects RX9 yX9_emit yX9_emit ∈ tp_W := tp_W_p (y := yX9_emit) (n := 9) (List.mem_of_getElem? (i := 5) (by decide +kernel))
theorem mf_X9_emit : tp_MV yX9_emit (Cond.code yX9_emit cX9_emit 2 none) cX9_emit 2 none 1 := ⟨⟨rfl, mc_X9_emit, mi_X9, by decide +kernel, by decide⟩, mn_X9_emit, mse_X9_emit⟩
theorem mc_X9_hold : Cond.code yX9_hold cX9_hold 2 none ∈ tp_W := tp_W_of (tm_2 (List.mem_of_getElem? (i := 167) rfl)) rfl
theorem mn_X9_hold : Cond.instanceMethod yX9_hold ∈ tp_W := tp_W_of (tm_2 (List.mem_of_getElem? (i := 166) rfl)) rfl
theorem mse_X9_hold : Cond.selects RX9 yX9_hold yX9_hold ∈ tp_W := tp_W_p (y := yX9_hold) (n := 9) (List.mem_of_getElem? (i := 4) (by decide +kernel))
theorem mf_X9_hold : tp_MV yX9_hold (Cond.code yX9_hold cX9_hold 2 none) cX9_hold 2 none 1 := ⟨⟨rfl, mc_X9_hold, mi_X9, by decide +kernel, by decide⟩, mn_X9_hold, mse_X9_hold⟩
theorem mc_X9_emitWaiting : Cond.code yX9_emitWaiting cX9_emitWaiting 2 none ∈ tp_W := tp_W_of (tm_2 (List.mem_of_getElem? (i := 189) rfl)) rfl
theorem mn_X9_emitWaiting : Cond.instanceMethod yX9_emitWaiting ∈ tp_W := tp_W_of (tm_2 (List.mem_of_getElem? (i := 188) rfl)) rfl
theorem mse_X9_emitWaiting : Cond.selects RX9 yX9_emitWaiting yX9_emitWaiting ∈ tp_W := tp_W_p (y := yX9_emitWaiting) (n := 9) (List.mem_of_getElem? (i := 8) (by decide +kernel))
theorem mf_X9_emitWaiting : tp_MV yX9_emitWaiting (Cond.code yX9_emitWaiting cX9_emitWaiting 2 none) cX9_emitWaiting 2 none 1 := ⟨⟨rfl, mc_X9_emitWaiting, mi_X9, by decide +kernel, by decide⟩, mn_X9_emitWaiting, mse_X9_emitWaiting⟩
theorem mc_X9_turn : Cond.code yX9_turn cX9_turn 8 (some .int) ∈ tp_W := tp_W_of (tm_3 (List.mem_of_getElem? (i := 35) rfl)) rfl
theorem mn_X9_turn : Cond.instanceMethod yX9_turn ∈ tp_W := tp_W_of (tm_3 (List.mem_of_getElem? (i := 33) rfl)) rfl
theorem mse_X9_turn : Cond.selects RX9 yX9_turn yX9_turn ∈ tp_W := tp_W_of (tm_3 (List.mem_of_getElem? (i := 34) rfl)) rfl
theorem mf_X9_turn : tp_MV yX9_turn (Cond.code yX9_turn cX9_turn 8 (some .int)) cX9_turn 8 (some .int) 4 := ⟨⟨rfl, mc_X9_turn, mi_X9, by decide +kernel, by decide⟩, mn_X9_turn, mse_X9_turn⟩
theorem mc_X9_letterValue : Cond.code yX9_letterValue cX9_letterValue 5 (some .int) ∈ tp_W := tp_W_of (tm_3 (List.mem_of_getElem? (i := 38) rfl)) rfl
theorem ms_X9_letterValue : Cond.static yX9_letterValue ∈ tp_W := tp_W_of (tm_3 (List.mem_of_getElem? (i := 37) rfl)) rfl
theorem mf_X9_letterValue : tp_MS yX9_letterValue (Cond.code yX9_letterValue cX9_letterValue 5 (some .int)) cX9_letterValue 5 (some .int) 5 := ⟨⟨rfl, mc_X9_letterValue, mi_X9, by decide +kernel, by decide⟩, ms_X9_letterValue⟩
theorem mc_X9_joined : Cond.code yX9_joined cX9_joined 3 (some .int) ∈ tp_W := tp_W_of (tm_3 (List.mem_of_getElem? (i := 41) rfl)) rfl
theorem ms_X9_joined : Cond.static yX9_joined ∈ tp_W := tp_W_of (tm_3 (List.mem_of_getElem? (i := 40) rfl)) rfl
theorem mf_X9_joined : tp_MS yX9_joined (Cond.code yX9_joined cX9_joined 3 (some .int)) cX9_joined 3 (some .int) 3 := ⟨⟨rfl, mc_X9_joined, mi_X9, by decide +kernel, by decide⟩, ms_X9_joined⟩
theorem mc_X10_init : Cond.code yX10_init cX10_init 1 none ∈ tp_W := tp_W_of (tm_1 (List.mem_of_getElem? (i := 28) rfl)) rfl
theorem mn_X10_init : Cond.instanceMethod yX10_init ∈ tp_W := tp_W_of (tm_1 (List.mem_of_getElem? (i := 27) rfl)) rfl
theorem mc_X10_sign : Cond.code yX10_sign cX10_sign 2 (some .int) ∈ tp_W := tp_W_of (tm_2 (List.mem_of_getElem? (i := 90) rfl)) rfl
theorem mn_X10_sign : Cond.instanceMethod yX10_sign ∈ tp_W := tp_W_of (tm_2 (List.mem_of_getElem? (i := 88) rfl)) rfl
theorem mse_X10_sign : Cond.selects RX10 yX10_sign yX10_sign ∈ tp_W := tp_W_of (tm_2 (List.mem_of_getElem? (i := 89) rfl)) rfl
theorem mf_X10_sign : tp_MV yX10_sign (Cond.code yX10_sign cX10_sign 2 (some .int)) cX10_sign 2 (some .int) 1 := ⟨⟨rfl, mc_X10_sign, mi_X10, by decide +kernel, by decide⟩, mn_X10_sign, mse_X10_sign⟩
theorem mc_X10_end : Cond.code yX10_end cX10_end 2 (some .boolean) ∈ tp_W := tp_W_of (tm_2 (List.mem_of_getElem? (i := 102) rfl)) rfl
theorem mn_X10_end : Cond.instanceMethod yX10_end ∈ tp_W := tp_W_of (tm_2 (List.mem_of_getElem? (i := 100) rfl)) rfl
theorem mse_X10_end : Cond.selects RX10 yX10_end yX10_end ∈ tp_W := tp_W_of (tm_2 (List.mem_of_getElem? (i := 101) rfl)) rfl
theorem mf_X10_end : tp_MV yX10_end (Cond.code yX10_end cX10_end 2 (some .boolean)) cX10_end 2 (some .boolean) 1 := ⟨⟨rfl, mc_X10_end, mi_X10, by decide +kernel, by decide⟩, mn_X10_end, mse_X10_end⟩
theorem mc_X10_net : Cond.code yX10_net cX10_net 2 (some .int) ∈ tp_W := tp_W_of (tm_2 (List.mem_of_getElem? (i := 110) rfl)) rfl
theorem mn_X10_net : Cond.instanceMethod yX10_net ∈ tp_W := tp_W_of (tm_2 (List.mem_of_getElem? (i := 108) rfl)) rfl
theorem mse_X10_net : Cond.selects RX10 yX10_net yX10_net ∈ tp_W := tp_W_of (tm_2 (List.mem_of_getElem? (i := 109) rfl)) rfl
theorem mf_X10_net : tp_MV yX10_net (Cond.code yX10_net cX10_net 2 (some .int)) cX10_net 2 (some .int) 0 := ⟨⟨rfl, mc_X10_net, mi_X10, by decide +kernel, by decide⟩, mn_X10_net, mse_X10_net⟩
theorem mc_X10_rule : Cond.code yX10_rule cX10_rule 2 (some .int) ∈ tp_W := tp_W_of (tm_2 (List.mem_of_getElem? (i := 150) rfl)) rfl
theorem mn_X10_rule : Cond.instanceMethod yX10_rule ∈ tp_W := tp_W_of (tm_2 (List.mem_of_getElem? (i := 148) rfl)) rfl
theorem mse_X10_rule : Cond.selects RX10 yX10_rule yX10_rule ∈ tp_W := tp_W_of (tm_2 (List.mem_of_getElem? (i := 149) rfl)) rfl
theorem mf_X10_rule : tp_MV yX10_rule (Cond.code yX10_rule cX10_rule 2 (some .int)) cX10_rule 2 (some .int) 0 := ⟨⟨rfl, mc_X10_rule, mi_X10, by decide +kernel, by decide⟩, mn_X10_rule, mse_X10_rule⟩
theorem mc_X10_post : Cond.code yX10_post cX10_post 3 (some .int) ∈ tp_W := tp_W_of (tm_5 (List.mem_of_getElem? (i := 89) rfl)) rfl
theorem mn_X10_post : Cond.instanceMethod yX10_post ∈ tp_W := tp_W_of (tm_5 (List.mem_of_getElem? (i := 87) rfl)) rfl
theorem mse_X10_post : Cond.selects RX10 yX10_post yX10_post ∈ tp_W := tp_W_of (tm_5 (List.mem_of_getElem? (i := 88) rfl)) rfl
theorem mf_X10_post : tp_MV yX10_post (Cond.code yX10_post cX10_post 3 (some .int)) cX10_post 3 (some .int) 2 := ⟨⟨rfl, mc_X10_post, mi_X10, by decide +kernel, by decide⟩, mn_X10_post, mse_X10_post⟩
theorem mc_X10_turnNow : Cond.code yX10_turnNow cX10_turnNow 2 (some .int) ∈ tp_W := tp_W_of (tm_5 (List.mem_of_getElem? (i := 154) rfl)) rfl
theorem mn_X10_turnNow : Cond.instanceMethod yX10_turnNow ∈ tp_W := tp_W_of (tm_5 (List.mem_of_getElem? (i := 153) rfl)) rfl
theorem mse_X10_turnNow : Cond.selects RX10 yX10_turnNow yX10_turnNow ∈ tp_W := tp_W_p (y := yX10_turnNow) (n := 19) (List.mem_of_getElem? (i := 49) (by decide +kernel))
theorem mf_X10_turnNow : tp_MV yX10_turnNow (Cond.code yX10_turnNow cX10_turnNow 2 (some .int)) cX10_turnNow 2 (some .int) 1 := ⟨⟨rfl, mc_X10_turnNow, mi_X10, by decide +kernel, by decide⟩, mn_X10_turnNow, mse_X10_turnNow⟩
theorem mc_X10_way : Cond.code yX10_way cX10_way 3 (some .int) ∈ tp_W := tp_W_of (tm_5 (List.mem_of_getElem? (i := 161) rfl)) rfl
theorem mn_X10_way : Cond.instanceMethod yX10_way ∈ tp_W := tp_W_of (tm_5 (List.mem_of_getElem? (i := 159) rfl)) rfl
theorem mse_X10_way : Cond.selects RX10 yX10_way yX10_way ∈ tp_W := tp_W_of (tm_5 (List.mem_of_getElem? (i := 160) rfl)) rfl
theorem mf_X10_way : tp_MV yX10_way (Cond.code yX10_way cX10_way 3 (some .int)) cX10_way 3 (some .int) 2 := ⟨⟨rfl, mc_X10_way, mi_X10, by decide +kernel, by decide⟩, mn_X10_way, mse_X10_way⟩
theorem mc_X10_sheet : Cond.code yX10_sheet cX10_sheet 8 (some .int) ∈ tp_W := tp_W_of (tm_2 (List.mem_of_getElem? (i := 201) rfl)) rfl
theorem mn_X10_sheet : Cond.instanceMethod yX10_sheet ∈ tp_W := tp_W_of (tm_2 (List.mem_of_getElem? (i := 199) rfl)) rfl
theorem mse_X10_sheet : Cond.selects RX10 yX10_sheet yX10_sheet ∈ tp_W := tp_W_of (tm_2 (List.mem_of_getElem? (i := 200) rfl)) rfl
theorem mf_X10_sheet : tp_MV yX10_sheet (Cond.code yX10_sheet cX10_sheet 8 (some .int)) cX10_sheet 8 (some .int) 4 := ⟨⟨rfl, mc_X10_sheet, mi_X10, by decide +kernel, by decide⟩, mn_X10_sheet, mse_X10_sheet⟩
theorem mc_X10_sheetEntry : Cond.code yX10_sheetEntry cX10_sheetEntry 3 (some .int) ∈ tp_W := tp_W_of (tm_2 (List.mem_of_getElem? (i := 208) rfl)) rfl
theorem ms_X10_sheetEntry : Cond.static yX10_sheetEntry ∈ tp_W := tp_W_of (tm_2 (List.mem_of_getElem? (i := 207) rfl)) rfl
theorem mf_X10_sheetEntry : tp_MS yX10_sheetEntry (Cond.code yX10_sheetEntry cX10_sheetEntry 3 (some .int)) cX10_sheetEntry 3 (some .int) 2 := ⟨⟨rfl, mc_X10_sheetEntry, mi_X10, by decide +kernel, by decide⟩, ms_X10_sheetEntry⟩
theorem mc_X10_comes : Cond.code yX10_comes cX10_comes 3 (some .int) ∈ tp_W := tp_W_of (tm_2 (List.mem_of_getElem? (i := 220) rfl)) rfl
theorem mn_X10_comes : Cond.instanceMethod yX10_comes ∈ tp_W := tp_W_of (tm_2 (List.mem_of_getElem? (i := 218) rfl)) rfl
theorem mse_X10_comes : Cond.selects RX10 yX10_comes yX10_comes ∈ tp_W := tp_W_of (tm_2 (List.mem_of_getElem? (i := 219) rfl)) rfl
theorem mf_X10_comes : tp_MV yX10_comes (Cond.code yX10_comes cX10_comes 3 (some .int)) cX10_comes 3 (some .int) 2 := ⟨⟨rfl, mc_X10_comes, mi_X10, by decide +kernel, by decide⟩, mn_X10_comes, mse_X10_comes⟩
theorem mc_X10_goes : Cond.code yX10_goes cX10_goes 2 (some .int) ∈ tp_W := tp_W_of (tm_3 (List.mem_of_getElem? (i := 6) rfl)) rfl
theorem mn_X10_goes : Cond.instanceMethod yX10_goes ∈ tp_W := tp_W_of (tm_3 (List.mem_of_getElem? (i := 4) rfl)) rfl
theorem mse_X10_goes : Cond.selects RX10 yX10_goes yX10_goes ∈ tp_W := tp_W_of (tm_3 (List.mem_of_getElem? (i := 5) rfl)) rfl
theorem mf_X10_goes : tp_MV yX10_goes (Cond.code yX10_goes cX10_goes 2 (some .int)) cX10_goes 2 (some .int) 1 := ⟨⟨rfl, mc_X10_goes, mi_X10, by decide +kernel, by decide⟩, mn_X10_goes, mse_X10_goes⟩
theorem mc_X10_walks : Cond.code yX10_walks cX10_walks 2 (some .int) ∈ tp_W := tp_W_of (tm_3 (List.mem_of_getElem? (i := 68) rfl)) rfl
theorem mn_X10_walks : Cond.instanceMethod yX10_walks ∈ tp_W := tp_W_of (tm_3 (List.mem_of_getElem? (i := 66) rfl)) rfl
theorem mse_X10_walks : Cond.selects RX10 yX10_walks yX10_walks ∈ tp_W := tp_W_of (tm_3 (List.mem_of_getElem? (i := 67) rfl)) rfl
theorem mf_X10_walks : tp_MV yX10_walks (Cond.code yX10_walks cX10_walks 2 (some .int)) cX10_walks 2 (some .int) 1 := ⟨⟨rfl, mc_X10_walks, mi_X10, by decide +kernel, by decide⟩, mn_X10_walks, mse_X10_walks⟩
theorem mc_X10_bursts : Cond.code yX10_bursts cX10_bursts 2 (some .int) ∈ tp_W := tp_W_of (tm_3 (List.mem_of_getElem? (i := 81) rfl)) rfl
theorem mn_X10_bursts : Cond.instanceMethod yX10_bursts ∈ tp_W := tp_W_of (tm_3 (List.mem_of_getElem? (i := 79) rfl)) rfl
theorem mse_X10_bursts : Cond.selects RX10 yX10_bursts yX10_bursts ∈ tp_W := tp_W_of (tm_3 (List.mem_of_getElem? (i := 80) rfl)) rfl
theorem mf_X10_bursts : tp_MV yX10_bursts (Cond.code yX10_bursts cX10_bursts 2 (some .int)) cX10_bursts 2 (some .int) 1 := ⟨⟨rfl, mc_X10_bursts, mi_X10, by decide +kernel, by decide⟩, mn_X10_bursts, mse_X10_bursts⟩
theorem mc_X10_calms : Cond.code yX10_calms cX10_calms 1 (some .int) ∈ tp_W := tp_W_of (tm_3 (List.mem_of_getElem? (i := 103) rfl)) rfl
theorem mn_X10_calms : Cond.instanceMethod yX10_calms ∈ tp_W := tp_W_of (tm_3 (List.mem_of_getElem? (i := 101) rfl)) rfl
theorem mse_X10_calms : Cond.selects RX10 yX10_calms yX10_calms ∈ tp_W := tp_W_of (tm_3 (List.mem_of_getElem? (i := 102) rfl)) rfl
theorem mf_X10_calms : tp_MV yX10_calms (Cond.code yX10_calms cX10_calms 1 (some .int)) cX10_calms 1 (some .int) 0 := ⟨⟨rfl, mc_X10_calms, mi_X10, by decide +kernel, by decide⟩, mn_X10_calms, mse_X10_calms⟩
theorem mc_X10_points : Cond.code yX10_points cX10_points 3 (some .int) ∈ tp_W := tp_W_of (tm_3 (List.mem_of_getElem? (i := 135) rfl)) rfl
theorem mn_X10_points : Cond.instanceMethod yX10_points ∈ tp_W := tp_W_of (tm_3 (List.mem_of_getElem? (i := 133) rfl)) rfl
theorem mse_X10_points : Cond.selects RX10 yX10_points yX10_points ∈ tp_W := tp_W_of (tm_3 (List.mem_of_getElem? (i := 134) rfl)) rfl
theorem mf_X10_points : tp_MV yX10_points (Cond.code yX10_points cX10_points 3 (some .int)) cX10_points 3 (some .int) 2 := ⟨⟨rfl, mc_X10_points, mi_X10, by decide +kernel, by decide⟩, mn_X10_points, mse_X10_points⟩
theorem mc_X10_day : Cond.code yX10_day cX10_day 7 (some .int) ∈ tp_W := tp_W_of (tm_3 (List.mem_of_getElem? (i := 144) rfl)) rfl
theorem mn_X10_day : Cond.instanceMethod yX10_day ∈ tp_W := tp_W_of (tm_3 (List.mem_of_getElem? (i := 142) rfl)) rfl
theorem mse_X10_day : Cond.selects RX10 yX10_day yX10_day ∈ tp_W := tp_W_of (tm_3 (List.mem_of_getElem? (i := 143) rfl)) rfl
theorem mf_X10_day : tp_MV yX10_day (Cond.code yX10_day cX10_day 7 (some .int)) cX10_day 7 (some .int) 0 := ⟨⟨rfl, mc_X10_day, mi_X10, by decide +kernel, by decide⟩, mn_X10_day, mse_X10_day⟩
theorem mc_X10_undo : Cond.code yX10_undo cX10_undo 1 (some .int) ∈ tp_W := tp_W_of (tm_3 (List.mem_of_getElem? (i := 167) rfl)) rfl
theorem mn_X10_undo : Cond.instanceMethod yX10_undo ∈ tp_W := tp_W_of (tm_3 (List.mem_of_getElem? (i := 165) rfl)) rfl
theorem mse_X10_undo : Cond.selects RX10 yX10_undo yX10_undo ∈ tp_W := tp_W_of (tm_3 (List.mem_of_getElem? (i := 166) rfl)) rfl
theorem mf_X10_undo : tp_MV yX10_undo (Cond.code yX10_undo cX10_undo 1 (some .int)) cX10_undo 1 (some .int) 0 := ⟨⟨rfl, mc_X10_undo, mi_X10, by decide +kernel, by decide⟩, mn_X10_undo, mse_X10_undo⟩
theorem mc_X10_kept : Cond.code yX10_kept cX10_kept 2 (some .int) ∈ tp_W := tp_W_of (tm_2 (List.mem_of_getElem? (i := 233) rfl)) rfl
theorem mn_X10_kept : Cond.instanceMethod yX10_kept ∈ tp_W := tp_W_of (tm_2 (List.mem_of_getElem? (i := 232) rfl)) rfl
theorem mse_X10_kept : Cond.selects RX10 yX10_kept yX10_kept ∈ tp_W := tp_W_p (y := yX10_kept) (n := 19) (List.mem_of_getElem? (i := 10) (by decide +kernel))
theorem mf_X10_kept : tp_MV yX10_kept (Cond.code yX10_kept cX10_kept 2 (some .int)) cX10_kept 2 (some .int) 1 := ⟨⟨rfl, mc_X10_kept, mi_X10, by decide +kernel, by decide⟩, mn_X10_kept, mse_X10_kept⟩
theorem mc_X10_act : Cond.code yX10_act cX10_act 4 (some .int) ∈ tp_W := tp_W_of (tm_3 (List.mem_of_getElem? (i := 163) rfl)) rfl
theorem mn_X10_act : Cond.instanceMethod yX10_act ∈ tp_W := tp_W_of (tm_3 (List.mem_of_getElem? (i := 162) rfl)) rfl
theorem mse_X10_act : Cond.selects RX10 yX10_act yX10_act ∈ tp_W := tp_W_p (y := yX10_act) (n := 19) (List.mem_of_getElem? (i := 24) (by decide +kernel))
theorem mf_X10_act : tp_MV yX10_act (Cond.code yX10_act cX10_act 4 (some .int)) cX10_act 4 (some .int) 3 := ⟨⟨rfl, mc_X10_act, mi_X10, by decide +kernel, by decide⟩, mn_X10_act, mse_X10_act⟩
theorem mc_X10_actComes : Cond.code yX10_actComes cX10_actComes 3 (some .int) ∈ tp_W := tp_W_of (tm_2 (List.mem_of_getElem? (i := 229) rfl)) rfl
theorem mn_X10_actComes : Cond.instanceMethod yX10_actComes ∈ tp_W := tp_W_of (tm_2 (List.mem_of_getElem? (i := 228) rfl)) rfl
theorem mse_X10_actComes : Cond.selects RX10 yX10_actComes yX10_actComes ∈ tp_W := tp_W_p (y := yX10_actComes) (n := 19) (List.mem_of_getElem? (i := 9) (by decide +kernel))
theorem mf_X10_actComes : tp_MV yX10_actComes (Cond.code yX10_actComes cX10_actComes 3 (some .int)) cX10_actComes 3 (some .int) 2 := ⟨⟨rfl, mc_X10_actComes, mi_X10, by decide +kernel, by decide⟩, mn_X10_actComes, mse_X10_actComes⟩
theorem mc_X10_actGoes : Cond.code yX10_actGoes cX10_actGoes 3 (some .int) ∈ tp_W := tp_W_of (tm_3 (List.mem_of_getElem? (i := 10) rfl)) rfl
theorem mn_X10_actGoes : Cond.instanceMethod yX10_actGoes ∈ tp_W := tp_W_of (tm_3 (List.mem_of_getElem? (i := 9) rfl)) rfl
theorem mse_X10_actGoes : Cond.selects RX10 yX10_actGoes yX10_actGoes ∈ tp_W := tp_W_p (y := yX10_actGoes) (n := 19) (List.mem_of_getElem? (i := 12) (by decide +kernel))
theorem mf_X10_actGoes : tp_MV yX10_actGoes (Cond.code yX10_actGoes cX10_actGoes 3 (some .int)) cX10_actGoes 3 (some .int) 1 := ⟨⟨rfl, mc_X10_actGoes, mi_X10, by decide +kernel, by decide⟩, mn_X10_actGoes, mse_X10_actGoes⟩
theorem mc_X10_actWalks : Cond.code yX10_actWalks cX10_actWalks 5 (some .int) ∈ tp_W := tp_W_of (tm_3 (List.mem_of_getElem? (i := 72) rfl)) rfl
theorem mn_X10_actWalks : Cond.instanceMethod yX10_actWalks ∈ tp_W := tp_W_of (tm_3 (List.mem_of_getElem? (i := 71) rfl)) rfl
theorem mse_X10_actWalks : Cond.selects RX10 yX10_actWalks yX10_actWalks ∈ tp_W := tp_W_p (y := yX10_actWalks) (n := 19) (List.mem_of_getElem? (i := 15) (by decide +kernel))
theorem mf_X10_actWalks : tp_MV yX10_actWalks (Cond.code yX10_actWalks cX10_actWalks 5 (some .int)) cX10_actWalks 5 (some .int) 1 := ⟨⟨rfl, mc_X10_actWalks, mi_X10, by decide +kernel, by decide⟩, mn_X10_actWalks, mse_X10_actWalks⟩
theorem mc_X10_actBursts : Cond.code yX10_actBursts cX10_actBursts 2 (some .int) ∈ tp_W := tp_W_of (tm_3 (List.mem_of_getElem? (i := 85) rfl)) rfl
theorem mn_X10_actBursts : Cond.instanceMethod yX10_actBursts ∈ tp_W := tp_W_of (tm_3 (List.mem_of_getElem? (i := 84) rfl)) rfl
theorem mse_X10_actBursts : Cond.selects RX10 yX10_actBursts yX10_actBursts ∈ tp_W := tp_W_p (y := yX10_actBursts) (n := 19) (List.mem_of_getElem? (i := 17) (by decide +kernel))
theorem mf_X10_actBursts : tp_MV yX10_actBursts (Cond.code yX10_actBursts cX10_actBursts 2 (some .int)) cX10_actBursts 2 (some .int) 1 := ⟨⟨rfl, mc_X10_actBursts, mi_X10, by decide +kernel, by decide⟩, mn_X10_actBursts, mse_X10_actBursts⟩
theorem mc_X10_actCalms : Cond.code yX10_actCalms cX10_actCalms 3 (some .int) ∈ tp_W := tp_W_of (tm_3 (List.mem_of_getElem? (i := 107) rfl)) rfl
theorem mn_X10_actCalms : Cond.instanceMethod yX10_actCalms ∈ tp_W := tp_W_of (tm_3 (List.mem_of_getElem? (i := 106) rfl)) rfl
theorem mse_X10_actCalms : Cond.selects RX10 yX10_actCalms yX10_actCalms ∈ tp_W := tp_W_p (y := yX10_actCalms) (n := 19) (List.mem_of_getElem? (i := 20) (by decide +kernel))
theorem mf_X10_actCalms : tp_MV yX10_actCalms (Cond.code yX10_actCalms cX10_actCalms 3 (some .int)) cX10_actCalms 3 (some .int) 0 := ⟨⟨rfl, mc_X10_actCalms, mi_X10, by decide +kernel, by decide⟩, mn_X10_actCalms, mse_X10_actCalms⟩
theorem mc_X10_actPoints : Cond.code yX10_actPoints cX10_actPoints 4 (some .int) ∈ tp_W := tp_W_of (tm_3 (List.mem_of_getElem? (i := 139) rfl)) rfl
theorem mn_X10_actPoints : Cond.instanceMethod yX10_actPoints ∈ tp_W := tp_W_of (tm_3 (List.mem_of_getElem? (i := 138) rfl)) rfl
theorem mse_X10_actPoints : Cond.selects RX10 yX10_actPoints yX10_actPoints ∈ tp_W := tp_W_p (y := yX10_actPoints) (n := 19) (List.mem_of_getElem? (i := 22) (by decide +kernel))
theorem mf_X10_actPoints : tp_MV yX10_actPoints (Cond.code yX10_actPoints cX10_actPoints 4 (some .int)) cX10_actPoints 4 (some .int) 2 := ⟨⟨rfl, mc_X10_actPoints, mi_X10, by decide +kernel, by decide⟩, mn_X10_actPoints, mse_X10_actPoints⟩
theorem mc_X10_checkDay : Cond.code yX10_checkDay cX10_checkDay 7 (some .int) ∈ tp_W := tp_W_of (tm_3 (List.mem_of_getElem? (i := 148) rfl)) rfl
theorem mn_X10_checkDay : Cond.instanceMethod yX10_checkDay ∈ tp_W := tp_W_of (tm_3 (List.mem_of_getElem? (i := 147) rfl)) rfl
theorem mse_X10_checkDay : Cond.selects RX10 yX10_checkDay yX10_checkDay ∈ tp_W := tp_W_p (y := yX10_checkDay) (n := 19) (List.mem_of_getElem? (i := 23) (by decide +kernel))
theorem mf_X10_checkDay : tp_MV yX10_checkDay (Cond.code yX10_checkDay cX10_checkDay 7 (some .int)) cX10_checkDay 7 (some .int) 0 := ⟨⟨rfl, mc_X10_checkDay, mi_X10, by decide +kernel, by decide⟩, mn_X10_checkDay, mse_X10_checkDay⟩
theorem mc_X10_isAct : Cond.code yX10_isAct cX10_isAct 1 (some .boolean) ∈ tp_W := tp_W_of (tm_3 (List.mem_of_getElem? (i := 152) rfl)) rfl
theorem ms_X10_isAct : Cond.static yX10_isAct ∈ tp_W := tp_W_of (tm_3 (List.mem_of_getElem? (i := 151) rfl)) rfl
theorem mf_X10_isAct : tp_MS yX10_isAct (Cond.code yX10_isAct cX10_isAct 1 (some .boolean)) cX10_isAct 1 (some .boolean) 1 := ⟨⟨rfl, mc_X10_isAct, mi_X10, by decide +kernel, by decide⟩, ms_X10_isAct⟩
theorem mc_X10_signsOf : Cond.code yX10_signsOf cX10_signsOf 1 (some .int) ∈ tp_W := tp_W_of (tm_3 (List.mem_of_getElem? (i := 155) rfl)) rfl
theorem ms_X10_signsOf : Cond.static yX10_signsOf ∈ tp_W := tp_W_of (tm_3 (List.mem_of_getElem? (i := 154) rfl)) rfl
theorem mf_X10_signsOf : tp_MS yX10_signsOf (Cond.code yX10_signsOf cX10_signsOf 1 (some .int)) cX10_signsOf 1 (some .int) 1 := ⟨⟨rfl, mc_X10_signsOf, mi_X10, by decide +kernel, by decide⟩, ms_X10_signsOf⟩
theorem mc_X10_isSecondDigit : Cond.code yX10_isSecondDigit cX10_isSecondDigit 2 (some .boolean) ∈ tp_W := tp_W_of (tm_3 (List.mem_of_getElem? (i := 158) rfl)) rfl
theorem ms_X10_isSecondDigit : Cond.static yX10_isSecondDigit ∈ tp_W := tp_W_of (tm_3 (List.mem_of_getElem? (i := 157) rfl)) rfl
theorem mf_X10_isSecondDigit : tp_MS yX10_isSecondDigit (Cond.code yX10_isSecondDigit cX10_isSecondDigit 2 (some .boolean)) cX10_isSecondDigit 2 (some .boolean) 2 := ⟨⟨rfl, mc_X10_isSecondDigit, mi_X10, by decide +kernel, by decide⟩, ms_X10_isSecondDigit⟩
theorem mc_X10_isDigit : Cond.code yX10_isDigit cX10_isDigit 1 (some .boolean) ∈ tp_W := tp_W_of (tm_2 (List.mem_of_getElem? (i := 170) rfl)) rfl
theorem ms_X10_isDigit : Cond.static yX10_isDigit ∈ tp_W := tp_W_of (tm_2 (List.mem_of_getElem? (i := 169) rfl)) rfl
theorem mf_X10_isDigit : tp_MS yX10_isDigit (Cond.code yX10_isDigit cX10_isDigit 1 (some .boolean)) cX10_isDigit 1 (some .boolean) 1 := ⟨⟨rfl, mc_X10_isDigit, mi_X10, by decide +kernel, by decide⟩, ms_X10_isDigit⟩
theorem mc_X10_stepOf : Cond.code yX10_stepOf cX10_stepOf 4 (some .int) ∈ tp_W := tp_W_of (tm_3 (List.mem_of_getElem? (i := 14) rfl)) rfl
theorem mn_X10_stepOf : Cond.instanceMethod yX10_stepOf ∈ tp_W := tp_W_of (tm_3 (List.mem_of_getElem? (i := 13) rfl)) rfl
theorem mse_X10_stepOf : Cond.selects RX10 yX10_stepOf yX10_stepOf ∈ tp_W := tp_W_p (y := yX10_stepOf) (n := 19) (List.mem_of_getElem? (i := 13) (by decide +kernel))
theorem mf_X10_stepOf : tp_MV yX10_stepOf (Cond.code yX10_stepOf cX10_stepOf 4 (some .int)) cX10_stepOf 4 (some .int) 2 := ⟨⟨rfl, mc_X10_stepOf, mi_X10, by decide +kernel, by decide⟩, mn_X10_stepOf, mse_X10_stepOf⟩
theorem mc_X10_stride : Cond.code yX10_stride cX10_stride 7 (some .int) ∈ tp_W := tp_W_of (tm_3 (List.mem_of_getElem? (i := 18) rfl)) rfl
theorem mn_X10_stride : Cond.instanceMethod yX10_stride ∈ tp_W := tp_W_of (tm_3 (List.mem_of_getElem? (i := 17) rfl)) rfl
theorem mse_X10_stride : Cond.selects RX10 yX10_stride yX10_stride ∈ tp_W := tp_W_p (y := yX10_stride) (n := 19) (List.mem_of_getElem? (i := 14) (by decide +kernel))
theorem mf_X10_stride : tp_MV yX10_stride (Cond.code yX10_stride cX10_stride 7 (some .int)) cX10_stride 7 (some .int) 3 := ⟨⟨rfl, mc_X10_stride, mi_X10, by decide +kernel, by decide⟩, mn_X10_stride, mse_X10_stride⟩
theorem mc_X10_walkHome : Cond.code yX10_walkHome cX10_walkHome 6 (some .int) ∈ tp_W := tp_W_of (tm_3 (List.mem_of_getElem? (i := 76) rfl)) rfl
theorem mn_X10_walkHome : Cond.instanceMethod yX10_walkHome ∈ tp_W := tp_W_of (tm_3 (List.mem_of_getElem? (i := 75) rfl)) rfl
theorem mse_X10_walkHome : Cond.selects RX10 yX10_walkHome yX10_walkHome ∈ tp_W := tp_W_p (y := yX10_walkHome) (n := 19) (List.mem_of_getElem? (i := 16) (by decide +kernel))
theorem mf_X10_walkHome : tp_MV yX10_walkHome (Cond.code yX10_walkHome cX10_walkHome 6 (some .int)) cX10_walkHome 6 (some .int) 3 := ⟨⟨rfl, mc_X10_walkHome, mi_X10, by decide +kernel, by decide⟩, mn_X10_walkHome, mse_X10_walkHome⟩
theorem mc_X10_canBurst : Cond.code yX10_canBurst cX10_canBurst 3 (some .boolean) ∈ tp_W := tp_W_of (tm_3 (List.mem_of_getElem? (i := 89) rfl)) rfl
theorem mn_X10_canBurst : Cond.instanceMethod yX10_canBurst ∈ tp_W := tp_W_of (tm_3 (List.mem_of_getElem? (i := 88) rfl)) rfl
theorem mse_X10_canBurst : Cond.selects RX10 yX10_canBurst yX10_canBurst ∈ tp_W := tp_W_p (y := yX10_canBurst) (n := 19) (List.mem_of_getElem? (i := 18) (by decide +kernel))
theorem mf_X10_canBurst : tp_MV yX10_canBurst (Cond.code yX10_canBurst cX10_canBurst 3 (some .boolean)) cX10_canBurst 3 (some .boolean) 2 := ⟨⟨rfl, mc_X10_canBurst, mi_X10, by decide +kernel, by decide⟩, mn_X10_canBurst, mse_X10_canBurst⟩
theorem mc_X10_burst : Cond.code yX10_burst cX10_burst 7 (some .int) ∈ tp_W := tp_W_of (tm_3 (List.mem_of_getElem? (i := 93) rfl)) rfl
theorem mn_X10_burst : Cond.instanceMethod yX10_burst ∈ tp_W := tp_W_of (tm_3 (List.mem_of_getElem? (i := 92) rfl)) rfl
theorem mse_X10_burst : Cond.selects RX10 yX10_burst yX10_burst ∈ tp_W := tp_W_p (y := yX10_burst) (n := 19) (List.mem_of_getElem? (i := 19) (by decide +kernel))
theorem mf_X10_burst : tp_MV yX10_burst (Cond.code yX10_burst cX10_burst 7 (some .int)) cX10_burst 7 (some .int) 2 := ⟨⟨rfl, mc_X10_burst, mi_X10, by decide +kernel, by decide⟩, mn_X10_burst, mse_X10_burst⟩
theorem mc_X10_later : Cond.code yX10_later cX10_later 6 (some .int) ∈ tp_W := tp_W_of (tm_3 (List.mem_of_getElem? (i := 183) rfl)) rfl
theorem mn_X10_later : Cond.instanceMethod yX10_later ∈ tp_W := tp_W_of (tm_3 (List.mem_of_getElem? (i := 181) rfl)) rfl
theorem mse_X10_later : Cond.selects RX10 yX10_later yX10_later ∈ tp_W := tp_W_of (tm_3 (List.mem_of_getElem? (i := 182) rfl)) rfl
theorem mf_X10_later : tp_MV yX10_later (Cond.code yX10_later cX10_later 6 (some .int)) cX10_later 6 (some .int) 2 := ⟨⟨rfl, mc_X10_later, mi_X10, by decide +kernel, by decide⟩, mn_X10_later, mse_X10_later⟩
theorem mc_X10_home : Cond.code yX10_home cX10_home 3 (some .int) ∈ tp_W := tp_W_of (tm_3 (List.mem_of_getElem? (i := 187) rfl)) rfl
theorem mn_X10_home : Cond.instanceMethod yX10_home ∈ tp_W := tp_W_of (tm_3 (List.mem_of_getElem? (i := 185) rfl)) rfl
theorem mse_X10_home : Cond.selects RX10 yX10_home yX10_home ∈ tp_W := tp_W_of (tm_3 (List.mem_of_getElem? (i := 186) rfl)) rfl
theorem mf_X10_home : tp_MV yX10_home (Cond.code yX10_home cX10_home 3 (some .int)) cX10_home 3 (some .int) 1 := ⟨⟨rfl, mc_X10_home, mi_X10, by decide +kernel, by decide⟩, mn_X10_home, mse_X10_home⟩
theorem mc_X10_pass : Cond.code yX10_pass cX10_pass 8 (some .int) ∈ tp_W := tp_W_of (tm_3 (List.mem_of_getElem? (i := 191) rfl)) rfl
theorem mn_X10_pass : Cond.instanceMethod yX10_pass ∈ tp_W := tp_W_of (tm_3 (List.mem_of_getElem? (i := 189) rfl)) rfl
theorem mse_X10_pass : Cond.selects RX10 yX10_pass yX10_pass ∈ tp_W := tp_W_of (tm_3 (List.mem_of_getElem? (i := 190) rfl)) rfl
theorem mf_X10_pass : tp_MV yX10_pass (Cond.code yX10_pass cX10_pass 8 (some .int)) cX10_pass 8 (some .int) 3 := ⟨⟨rfl, mc_X10_pass, mi_X10, by decide +kernel, by decide⟩, mn_X10_pass, mse_X10_pass⟩
theorem mc_X10_round : Cond.code yX10_round cX10_round 5 (some .int) ∈ tp_W := tp_W_of (tm_3 (List.mem_of_getElem? (i := 195) rfl)) rfl
theorem mn_X10_round : Cond.instanceMethod yX10_round ∈ tp_W := tp_W_of (tm_3 (List.mem_of_getElem? (i := 193) rfl)) rfl
theorem mse_X10_round : Cond.selects RX10 yX10_round yX10_round ∈ tp_W := tp_W_of (tm_3 (List.mem_of_getElem? (i := 194) rfl)) rfl
theorem mf_X10_round : tp_MV yX10_round (Cond.code yX10_round cX10_round 5 (some .int)) cX10_round 5 (some .int) 1 := ⟨⟨rfl, mc_X10_round, mi_X10, by decide +kernel, by decide⟩, mn_X10_round, mse_X10_round⟩
theorem mc_X10_follows : Cond.code yX10_follows cX10_follows 5 (some .int) ∈ tp_W := tp_W_of (tm_3 (List.mem_of_getElem? (i := 203) rfl)) rfl
theorem mn_X10_follows : Cond.instanceMethod yX10_follows ∈ tp_W := tp_W_of (tm_3 (List.mem_of_getElem? (i := 201) rfl)) rfl
theorem mse_X10_follows : Cond.selects RX10 yX10_follows yX10_follows ∈ tp_W := tp_W_of (tm_3 (List.mem_of_getElem? (i := 202) rfl)) rfl
theorem mf_X10_follows : tp_MV yX10_follows (Cond.code yX10_follows cX10_follows 5 (some .int)) cX10_follows 5 (some .int) 1 := ⟨⟨rfl, mc_X10_follows, mi_X10, by decide +kernel, by decide⟩, mn_X10_follows, mse_X10_follows⟩
theorem mc_X10_trackOf : Cond.code yX10_trackOf cX10_trackOf 5 (some .int) ∈ tp_W := tp_W_of (tm_3 (List.mem_of_getElem? (i := 207) rfl)) rfl
theorem mn_X10_trackOf : Cond.instanceMethod yX10_trackOf ∈ tp_W := tp_W_of (tm_3 (List.mem_of_getElem? (i := 206) rfl)) rfl
theorem mse_X10_trackOf : Cond.selects RX10 yX10_trackOf yX10_trackOf ∈ tp_W := tp_W_p (y := yX10_trackOf) (n := 19) (List.mem_of_getElem? (i := 26) (by decide +kernel))
theorem mf_X10_trackOf : tp_MV yX10_trackOf (Cond.code yX10_trackOf cX10_trackOf 5 (some .int)) cX10_trackOf 5 (some .int) 1 := ⟨⟨rfl, mc_X10_trackOf, mi_X10, by decide +kernel, by decide⟩, mn_X10_trackOf, mse_X10_trackOf⟩
theorem mc_X10_tree : Cond.code yX10_tree cX10_tree 4 (some .int) ∈ tp_W := tp_W_of (tm_3 (List.mem_of_getElem? (i := 217) rfl)) rfl
theorem mn_X10_tree : Cond.instanceMethod yX10_tree ∈ tp_W := tp_W_of (tm_3 (List.mem_of_getElem? (i := 215) rfl)) rfl
theorem mse_X10_tree : Cond.selects RX10 yX10_tree yX10_tree ∈ tp_W := tp_W_of (tm_3 (List.mem_of_getElem? (i := 216) rfl)) rfl
theorem mf_X10_tree : tp_MV yX10_tree (Cond.code yX10_tree cX10_tree 4 (some .int)) cX10_tree 4 (some .int) 0 := ⟨⟨rfl, mc_X10_tree, mi_X10, by decide +kernel, by decide⟩, mn_X10_tree, mse_X10_tree⟩
theorem mc_X10_isFirstOfRing : Cond.code yX10_isFirstOfRing cX10_isFirstOfRing 4 (some .boolean) ∈ tp_W := tp_W_of (tm_3 (List.mem_of_getElem? (i := 221) rfl)) rfl
theorem mn_X10_isFirstOfRing : Cond.instanceMethod yX10_isFirstOfRing ∈ tp_W := tp_W_of (tm_3 (List.mem_of_getElem? (i := 220) rfl)) rfl
theorem mse_X10_isFirstOfRing : Cond.selects RX10 yX10_isFirstOfRing yX10_isFirstOfRing ∈ tp_W := tp_W_p (y := yX10_isFirstOfRing) (n := 19) (List.mem_of_getElem? (i := 27) (by decide +kernel))
theorem mf_X10_isFirstOfRing : tp_MV yX10_isFirstOfRing (Cond.code yX10_isFirstOfRing cX10_isFirstOfRing 4 (some .boolean)) cX10_isFirstOfRing 4 (some .boolean) 1 := ⟨⟨rfl, mc_X10_isFirstOfRing, mi_X10, by decide +kernel, by decide⟩, mn_X10_isFirstOfRing, mse_X10_isFirstOfRing⟩
theorem mc_X10_trees : Cond.code yX10_trees cX10_trees 3 (some .int) ∈ tp_W := tp_W_of (tm_3 (List.mem_of_getElem? (i := 225) rfl)) rfl
theorem mn_X10_trees : Cond.instanceMethod yX10_trees ∈ tp_W := tp_W_of (tm_3 (List.mem_of_getElem? (i := 223) rfl)) rfl
theorem mse_X10_trees : Cond.selects RX10 yX10_trees yX10_trees ∈ tp_W := tp_W_of (tm_3 (List.mem_of_getElem? (i := 224) rfl)) rfl
theorem mf_X10_trees : tp_MV yX10_trees (Cond.code yX10_trees cX10_trees 3 (some .int)) cX10_trees 3 (some .int) 0 := ⟨⟨rfl, mc_X10_trees, mi_X10, by decide +kernel, by decide⟩, mn_X10_trees, mse_X10_trees⟩
theorem mc_X10_plants : Cond.code yX10_plants cX10_plants 5 (some .int) ∈ tp_W := tp_W_of (tm_4 (List.mem_of_getElem? (i := 8) rfl)) rfl
theorem mn_X10_plants : Cond.instanceMethod yX10_plants ∈ tp_W := tp_W_of (tm_4 (List.mem_of_getElem? (i := 6) rfl)) rfl
theorem mse_X10_plants : Cond.selects RX10 yX10_plants yX10_plants ∈ tp_W := tp_W_of (tm_4 (List.mem_of_getElem? (i := 7) rfl)) rfl
theorem mf_X10_plants : tp_MV yX10_plants (Cond.code yX10_plants cX10_plants 5 (some .int)) cX10_plants 5 (some .int) 1 := ⟨⟨rfl, mc_X10_plants, mi_X10, by decide +kernel, by decide⟩, mn_X10_plants, mse_X10_plants⟩
theorem mc_X10_grown : Cond.code yX10_grown cX10_grown 4 (some .int) ∈ tp_W := tp_W_of (tm_4 (List.mem_of_getElem? (i := 12) rfl)) rfl
theorem mn_X10_grown : Cond.instanceMethod yX10_grown ∈ tp_W := tp_W_of (tm_4 (List.mem_of_getElem? (i := 10) rfl)) rfl
theorem mse_X10_grown : Cond.selects RX10 yX10_grown yX10_grown ∈ tp_W := tp_W_of (tm_4 (List.mem_of_getElem? (i := 11) rfl)) rfl
theorem mf_X10_grown : tp_MV yX10_grown (Cond.code yX10_grown cX10_grown 4 (some .int)) cX10_grown 4 (some .int) 0 := ⟨⟨rfl, mc_X10_grown, mi_X10, by decide +kernel, by decide⟩, mn_X10_grown, mse_X10_grown⟩
theorem mc_X10_mends : Cond.code yX10_mends cX10_mends 2 (some .int) ∈ tp_W := tp_W_of (tm_4 (List.mem_of_getElem? (i := 16) rfl)) rfl
theorem mn_X10_mends : Cond.instanceMethod yX10_mends ∈ tp_W := tp_W_of (tm_4 (List.mem_of_getElem? (i := 14) rfl)) rfl
theorem mse_X10_mends : Cond.selects RX10 yX10_mends yX10_mends ∈ tp_W := tp_W_of (tm_4 (List.mem_of_getElem? (i := 15) rfl)) rfl
theorem mf_X10_mends : tp_MV yX10_mends (Cond.code yX10_mends cX10_mends 2 (some .int)) cX10_mends 2 (some .int) 0 := ⟨⟨rfl, mc_X10_mends, mi_X10, by decide +kernel, by decide⟩, mn_X10_mends, mse_X10_mends⟩
theorem mc_X10_mendsWith : Cond.code yX10_mendsWith cX10_mendsWith 5 (some .boolean) ∈ tp_W := tp_W_of (tm_4 (List.mem_of_getElem? (i := 20) rfl)) rfl
theorem mn_X10_mendsWith : Cond.instanceMethod yX10_mendsWith ∈ tp_W := tp_W_of (tm_4 (List.mem_of_getElem? (i := 19) rfl)) rfl
theorem mse_X10_mendsWith : Cond.selects RX10 yX10_mendsWith yX10_mendsWith ∈ tp_W := tp_W_p (y := yX10_mendsWith) (n := 19) (List.mem_of_getElem? (i := 31) (by decide +kernel))
theorem mf_X10_mendsWith : tp_MV yX10_mendsWith (Cond.code yX10_mendsWith cX10_mendsWith 5 (some .boolean)) cX10_mendsWith 5 (some .boolean) 1 := ⟨⟨rfl, mc_X10_mendsWith, mi_X10, by decide +kernel, by decide⟩, mn_X10_mendsWith, mse_X10_mendsWith⟩
theorem mc_X10_changedUpTo : Cond.code yX10_changedUpTo cX10_changedUpTo 4 (some .int) ∈ tp_W := tp_W_of (tm_4 (List.mem_of_getElem? (i := 25) rfl)) rfl
theorem mn_X10_changedUpTo : Cond.instanceMethod yX10_changedUpTo ∈ tp_W := tp_W_of (tm_4 (List.mem_of_getElem? (i := 24) rfl)) rfl
theorem mse_X10_changedUpTo : Cond.selects RX10 yX10_changedUpTo yX10_changedUpTo ∈ tp_W := tp_W_p (y := yX10_changedUpTo) (n := 19) (List.mem_of_getElem? (i := 32) (by decide +kernel))
theorem mf_X10_changedUpTo : tp_MV yX10_changedUpTo (Cond.code yX10_changedUpTo cX10_changedUpTo 4 (some .int)) cX10_changedUpTo 4 (some .int) 1 := ⟨⟨rfl, mc_X10_changedUpTo, mi_X10, by decide +kernel, by decide⟩, mn_X10_changedUpTo, mse_X10_changedUpTo⟩
theorem mc_X10_closesRing : Cond.code yX10_closesRing cX10_closesRing 4 (some .boolean) ∈ tp_W := tp_W_of (tm_4 (List.mem_of_getElem? (i := 29) rfl)) rfl
theorem mn_X10_closesRing : Cond.instanceMethod yX10_closesRing ∈ tp_W := tp_W_of (tm_4 (List.mem_of_getElem? (i := 28) rfl)) rfl
theorem mse_X10_closesRing : Cond.selects RX10 yX10_closesRing yX10_closesRing ∈ tp_W := tp_W_p (y := yX10_closesRing) (n := 19) (List.mem_of_getElem? (i := 33) (by decide +kernel))
theorem mf_X10_closesRing : tp_MV yX10_closesRing (Cond.code yX10_closesRing cX10_closesRing 4 (some .boolean)) cX10_closesRing 4 (some .boolean) 1 := ⟨⟨rfl, mc_X10_closesRing, mi_X10, by decide +kernel, by decide⟩, mn_X10_closesRing, mse_X10_closesRing⟩
theorem mc_X10_route : Cond.code yX10_route cX10_route 6 (some .int) ∈ tp_W := tp_W_of (tm_4 (List.mem_of_getElem? (i := 33) rfl)) rfl
theorem mn_X10_route : Cond.instanceMethod yX10_route ∈ tp_W := tp_W_of (tm_4 (List.mem_of_getElem? (i := 31) rfl)) rfl
theorem mse_X10_route : Cond.selects RX10 yX10_route yX10_route ∈ tp_W := tp_W_of (tm_4 (List.mem_of_getElem? (i := 32) rfl)) rfl
theorem mf_X10_route : tp_MV yX10_route (Cond.code yX10_route cX10_route 6 (some .int)) cX10_route 6 (some .int) 2 := ⟨⟨rfl, mc_X10_route, mi_X10, by decide +kernel, by decide⟩, mn_X10_route, mse_X10_route⟩
theorem mc_X10_leastNext : Cond.code yX10_leastNext cX10_leastNext 4 (some .int) ∈ tp_W := tp_W_of (tm_4 (List.mem_of_getElem? (i := 43) rfl)) rfl
theorem mn_X10_leastNext : Cond.instanceMethod yX10_leastNext ∈ tp_W := tp_W_of (tm_4 (List.mem_of_getElem? (i := 42) rfl)) rfl
theorem mse_X10_leastNext : Cond.selects RX10 yX10_leastNext yX10_leastNext ∈ tp_W := tp_W_p (y := yX10_leastNext) (n := 19) (List.mem_of_getElem? (i := 34) (by decide +kernel))
theorem mf_X10_leastNext : tp_MV yX10_leastNext (Cond.code yX10_leastNext cX10_leastNext 4 (some .int)) cX10_leastNext 4 (some .int) 2 := ⟨⟨rfl, mc_X10_leastNext, mi_X10, by decide +kernel, by decide⟩, mn_X10_leastNext, mse_X10_leastNext⟩
theorem mc_X10_gates : Cond.code yX10_gates cX10_gates 4 (some .int) ∈ tp_W := tp_W_of (tm_4 (List.mem_of_getElem? (i := 48) rfl)) rfl
theorem mn_X10_gates : Cond.instanceMethod yX10_gates ∈ tp_W := tp_W_of (tm_4 (List.mem_of_getElem? (i := 46) rfl)) rfl
theorem mse_X10_gates : Cond.selects RX10 yX10_gates yX10_gates ∈ tp_W := tp_W_of (tm_4 (List.mem_of_getElem? (i := 47) rfl)) rfl
theorem mf_X10_gates : tp_MV yX10_gates (Cond.code yX10_gates cX10_gates 4 (some .int)) cX10_gates 4 (some .int) 1 := ⟨⟨rfl, mc_X10_gates, mi_X10, by decide +kernel, by decide⟩, mn_X10_gates, mse_X10_gates⟩
theorem mc_X10_parish : Cond.code yX10_parish cX10_parish 4 (some .int) ∈ tp_W := tp_W_of (tm_4 (List.mem_of_getElem? (i := 56) rfl)) rfl
theorem mn_X10_parish : Cond.instanceMethod yX10_parish ∈ tp_W := tp_W_of (tm_4 (List.mem_of_getElem? (i := 54) rfl)) rfl
theorem mse_X10_parish : Cond.selects RX10 yX10_parish yX10_parish ∈ tp_W := tp_W_of (tm_4 (List.mem_of_getElem? (i := 55) rfl)) rfl
theorem mf_X10_parish : tp_MV yX10_parish (Cond.code yX10_parish cX10_parish 4 (some .int)) cX10_parish 4 (some .int) 1 := ⟨⟨rfl, mc_X10_parish, mi_X10, by decide +kernel, by decide⟩, mn_X10_parish, mse_X10_parish⟩
theorem mc_X10_mean : Cond.code yX10_mean cX10_mean 2 (some .int) ∈ tp_W := tp_W_of (tm_4 (List.mem_of_getElem? (i := 65) rfl)) rfl
theorem mn_X10_mean : Cond.instanceMethod yX10_mean ∈ tp_W := tp_W_of (tm_4 (List.mem_of_getElem? (i := 63) rfl)) rfl
theorem mse_X10_mean : Cond.selects RX10 yX10_mean yX10_mean ∈ tp_W := tp_W_of (tm_4 (List.mem_of_getElem? (i := 64) rfl)) rfl
theorem mf_X10_mean : tp_MV yX10_mean (Cond.code yX10_mean cX10_mean 2 (some .int)) cX10_mean 2 (some .int) 1 := ⟨⟨rfl, mc_X10_mean, mi_X10, by decide +kernel, by decide⟩, mn_X10_mean, mse_X10_mean⟩
theorem mc_X10_meets : Cond.code yX10_meets cX10_meets 3 (some .int) ∈ tp_W := tp_W_of (tm_4 (List.mem_of_getElem? (i := 80) rfl)) rfl
theorem mn_X10_meets : Cond.instanceMethod yX10_meets ∈ tp_W := tp_W_of (tm_4 (List.mem_of_getElem? (i := 78) rfl)) rfl
theorem mse_X10_meets : Cond.selects RX10 yX10_meets yX10_meets ∈ tp_W := tp_W_of (tm_4 (List.mem_of_getElem? (i := 79) rfl)) rfl
theorem mf_X10_meets : tp_MV yX10_meets (Cond.code yX10_meets cX10_meets 3 (some .int)) cX10_meets 3 (some .int) 2 := ⟨⟨rfl, mc_X10_meets, mi_X10, by decide +kernel, by decide⟩, mn_X10_meets, mse_X10_meets⟩
theorem mc_X10_odds : Cond.code yX10_odds cX10_odds 4 (some .int) ∈ tp_W := tp_W_of (tm_4 (List.mem_of_getElem? (i := 84) rfl)) rfl
theorem mn_X10_odds : Cond.instanceMethod yX10_odds ∈ tp_W := tp_W_of (tm_4 (List.mem_of_getElem? (i := 82) rfl)) rfl
theorem mse_X10_odds : Cond.selects RX10 yX10_odds yX10_odds ∈ tp_W := tp_W_of (tm_4 (List.mem_of_getElem? (i := 83) rfl)) rfl
theorem mf_X10_odds : tp_MV yX10_odds (Cond.code yX10_odds cX10_odds 4 (some .int)) cX10_odds 4 (some .int) 3 := ⟨⟨rfl, mc_X10_odds, mi_X10, by decide +kernel, by decide⟩, mn_X10_odds, mse_X10_odds⟩
theorem mc_X10_ready : Cond.code yX10_ready cX10_ready 3 (some .int) ∈ tp_W := tp_W_of (tm_4 (List.mem_of_getElem? (i := 98) rfl)) rfl
theorem mn_X10_ready : Cond.instanceMethod yX10_ready ∈ tp_W := tp_W_of (tm_4 (List.mem_of_getElem? (i := 96) rfl)) rfl
theorem mse_X10_ready : Cond.selects RX10 yX10_ready yX10_ready ∈ tp_W := tp_W_of (tm_4 (List.mem_of_getElem? (i := 97) rfl)) rfl
theorem mf_X10_ready : tp_MV yX10_ready (Cond.code yX10_ready cX10_ready 3 (some .int)) cX10_ready 3 (some .int) 0 := ⟨⟨rfl, mc_X10_ready, mi_X10, by decide +kernel, by decide⟩, mn_X10_ready, mse_X10_ready⟩
theorem mc_X10_unit : Cond.code yX10_unit cX10_unit 2 (some .int) ∈ tp_W := tp_W_of (tm_4 (List.mem_of_getElem? (i := 102) rfl)) rfl
theorem mn_X10_unit : Cond.instanceMethod yX10_unit ∈ tp_W := tp_W_of (tm_4 (List.mem_of_getElem? (i := 100) rfl)) rfl
theorem mse_X10_unit : Cond.selects RX10 yX10_unit yX10_unit ∈ tp_W := tp_W_of (tm_4 (List.mem_of_getElem? (i := 101) rfl)) rfl
theorem mf_X10_unit : tp_MV yX10_unit (Cond.code yX10_unit cX10_unit 2 (some .int)) cX10_unit 2 (some .int) 0 := ⟨⟨rfl, mc_X10_unit, mi_X10, by decide +kernel, by decide⟩, mn_X10_unit, mse_X10_unit⟩
theorem mc_X10_returns : Cond.code yX10_returns cX10_returns 1 (some .int) ∈ tp_W := tp_W_of (tm_4 (List.mem_of_getElem? (i := 115) rfl)) rfl
theorem mn_X10_returns : Cond.instanceMethod yX10_returns ∈ tp_W := tp_W_of (tm_4 (List.mem_of_getElem? (i := 113) rfl)) rfl
theorem mse_X10_returns : Cond.selects RX10 yX10_returns yX10_returns ∈ tp_W := tp_W_of (tm_4 (List.mem_of_getElem? (i := 114) rfl)) rfl
theorem mf_X10_returns : tp_MV yX10_returns (Cond.code yX10_returns cX10_returns 1 (some .int)) cX10_returns 1 (some .int) 0 := ⟨⟨rfl, mc_X10_returns, mi_X10, by decide +kernel, by decide⟩, mn_X10_returns, mse_X10_returns⟩
theorem mc_X10_joins : Cond.code yX10_joins cX10_joins 3 (some .int) ∈ tp_W := tp_W_of (tm_4 (List.mem_of_getElem? (i := 131) rfl)) rfl
theorem mn_X10_joins : Cond.instanceMethod yX10_joins ∈ tp_W := tp_W_of (tm_4 (List.mem_of_getElem? (i := 129) rfl)) rfl
theorem mse_X10_joins : Cond.selects RX10 yX10_joins yX10_joins ∈ tp_W := tp_W_of (tm_4 (List.mem_of_getElem? (i := 130) rfl)) rfl
theorem mf_X10_joins : tp_MV yX10_joins (Cond.code yX10_joins cX10_joins 3 (some .int)) cX10_joins 3 (some .int) 1 := ⟨⟨rfl, mc_X10_joins, mi_X10, by decide +kernel, by decide⟩, mn_X10_joins, mse_X10_joins⟩
theorem mc_X10_recurs : Cond.code yX10_recurs cX10_recurs 5 (some .int) ∈ tp_W := tp_W_of (tm_4 (List.mem_of_getElem? (i := 144) rfl)) rfl
theorem mn_X10_recurs : Cond.instanceMethod yX10_recurs ∈ tp_W := tp_W_of (tm_4 (List.mem_of_getElem? (i := 142) rfl)) rfl
theorem mse_X10_recurs : Cond.selects RX10 yX10_recurs yX10_recurs ∈ tp_W := tp_W_of (tm_4 (List.mem_of_getElem? (i := 143) rfl)) rfl
theorem mf_X10_recurs : tp_MV yX10_recurs (Cond.code yX10_recurs cX10_recurs 5 (some .int)) cX10_recurs 5 (some .int) 1 := ⟨⟨rfl, mc_X10_recurs, mi_X10, by decide +kernel, by decide⟩, mn_X10_recurs, mse_X10_recurs⟩
theorem mc_X10_trigger : Cond.code yX10_trigger cX10_trigger 5 (some .int) ∈ tp_W := tp_W_of (tm_4 (List.mem_of_getElem? (i := 148) rfl)) rfl
theorem mn_X10_trigger : Cond.instanceMethod yX10_trigger ∈ tp_W := tp_W_of (tm_4 (List.mem_of_getElem? (i := 146) rfl)) rfl
theorem mse_X10_trigger : Cond.selects RX10 yX10_trigger yX10_trigger ∈ tp_W := tp_W_of (tm_4 (List.mem_of_getElem? (i := 147) rfl)) rfl
theorem mf_X10_trigger : tp_MV yX10_trigger (Cond.code yX10_trigger cX10_trigger 5 (some .int)) cX10_trigger 5 (some .int) 0 := ⟨⟨rfl, mc_X10_trigger, mi_X10, by decide +kernel, by decide⟩, mn_X10_trigger, mse_X10_trigger⟩
theorem mc_X10_someCanBurst : Cond.code yX10_someCanBurst cX10_someCanBurst 2 (some .boolean) ∈ tp_W := tp_W_of (tm_4 (List.mem_of_getElem? (i := 119) rfl)) rfl
theorem mn_X10_someCanBurst : Cond.instanceMethod yX10_someCanBurst ∈ tp_W := tp_W_of (tm_4 (List.mem_of_getElem? (i := 118) rfl)) rfl
theorem mse_X10_someCanBurst : Cond.selects RX10 yX10_someCanBurst yX10_someCanBurst ∈ tp_W := tp_W_p (y := yX10_someCanBurst) (n := 19) (List.mem_of_getElem? (i := 38) (by decide +kernel))
theorem mf_X10_someCanBurst : tp_MV yX10_someCanBurst (Cond.code yX10_someCanBurst cX10_someCanBurst 2 (some .boolean)) cX10_someCanBurst 2 (some .boolean) 0 := ⟨⟨rfl, mc_X10_someCanBurst, mi_X10, by decide +kernel, by decide⟩, mn_X10_someCanBurst, mse_X10_someCanBurst⟩
theorem mc_X10_seen : Cond.code yX10_seen cX10_seen 4 (some .int) ∈ tp_W := tp_W_of (tm_4 (List.mem_of_getElem? (i := 152) rfl)) rfl
theorem mn_X10_seen : Cond.instanceMethod yX10_seen ∈ tp_W := tp_W_of (tm_4 (List.mem_of_getElem? (i := 150) rfl)) rfl
theorem mse_X10_seen : Cond.selects RX10 yX10_seen yX10_seen ∈ tp_W := tp_W_of (tm_4 (List.mem_of_getElem? (i := 151) rfl)) rfl
theorem mf_X10_seen : tp_MV yX10_seen (Cond.code yX10_seen cX10_seen 4 (some .int)) cX10_seen 4 (some .int) 3 := ⟨⟨rfl, mc_X10_seen, mi_X10, by decide +kernel, by decide⟩, mn_X10_seen, mse_X10_seen⟩
theorem mc_X10_forget : Cond.code yX10_forget cX10_forget 2 (some .int) ∈ tp_W := tp_W_of (tm_4 (List.mem_of_getElem? (i := 164) rfl)) rfl
theorem mn_X10_forget : Cond.instanceMethod yX10_forget ∈ tp_W := tp_W_of (tm_4 (List.mem_of_getElem? (i := 162) rfl)) rfl
theorem mse_X10_forget : Cond.selects RX10 yX10_forget yX10_forget ∈ tp_W := tp_W_of (tm_4 (List.mem_of_getElem? (i := 163) rfl)) rfl
theorem mf_X10_forget : tp_MV yX10_forget (Cond.code yX10_forget cX10_forget 2 (some .int)) cX10_forget 2 (some .int) 0 := ⟨⟨rfl, mc_X10_forget, mi_X10, by decide +kernel, by decide⟩, mn_X10_forget, mse_X10_forget⟩
theorem mc_X10_guess : Cond.code yX10_guess cX10_guess 3 (some .int) ∈ tp_W := tp_W_of (tm_4 (List.mem_of_getElem? (i := 168) rfl)) rfl
theorem mn_X10_guess : Cond.instanceMethod yX10_guess ∈ tp_W := tp_W_of (tm_4 (List.mem_of_getElem? (i := 166) rfl)) rfl
theorem mse_X10_guess : Cond.selects RX10 yX10_guess yX10_guess ∈ tp_W := tp_W_of (tm_4 (List.mem_of_getElem? (i := 167) rfl)) rfl
theorem mf_X10_guess : tp_MV yX10_guess (Cond.code yX10_guess cX10_guess 3 (some .int)) cX10_guess 3 (some .int) 1 := ⟨⟨rfl, mc_X10_guess, mi_X10, by decide +kernel, by decide⟩, mn_X10_guess, mse_X10_guess⟩
theorem mc_X10_looks : Cond.code yX10_looks cX10_looks 8 (some .int) ∈ tp_W := tp_W_of (tm_4 (List.mem_of_getElem? (i := 192) rfl)) rfl
theorem mn_X10_looks : Cond.instanceMethod yX10_looks ∈ tp_W := tp_W_of (tm_4 (List.mem_of_getElem? (i := 190) rfl)) rfl
theorem mse_X10_looks : Cond.selects RX10 yX10_looks yX10_looks ∈ tp_W := tp_W_of (tm_4 (List.mem_of_getElem? (i := 191) rfl)) rfl
theorem mf_X10_looks : tp_MV yX10_looks (Cond.code yX10_looks cX10_looks 8 (some .int)) cX10_looks 8 (some .int) 1 := ⟨⟨rfl, mc_X10_looks, mi_X10, by decide +kernel, by decide⟩, mn_X10_looks, mse_X10_looks⟩
theorem mc_X10_possibleNumbers : Cond.code yX10_possibleNumbers cX10_possibleNumbers 4 (some .int) ∈ tp_W := tp_W_of (tm_4 (List.mem_of_getElem? (i := 172) rfl)) rfl
theorem mn_X10_possibleNumbers : Cond.instanceMethod yX10_possibleNumbers ∈ tp_W := tp_W_of (tm_4 (List.mem_of_getElem? (i := 171) rfl)) rfl
theorem mse_X10_possibleNumbers : Cond.selects RX10 yX10_possibleNumbers yX10_possibleNumbers ∈ tp_W := tp_W_p (y := yX10_possibleNumbers) (n := 19) (List.mem_of_getElem? (i := 39) (by decide +kernel))
theorem mf_X10_possibleNumbers : tp_MV yX10_possibleNumbers (Cond.code yX10_possibleNumbers cX10_possibleNumbers 4 (some .int)) cX10_possibleNumbers 4 (some .int) 1 := ⟨⟨rfl, mc_X10_possibleNumbers, mi_X10, by decide +kernel, by decide⟩, mn_X10_possibleNumbers, mse_X10_possibleNumbers⟩
theorem mc_X10_fitsSights : Cond.code yX10_fitsSights cX10_fitsSights 6 (some .boolean) ∈ tp_W := tp_W_of (tm_4 (List.mem_of_getElem? (i := 176) rfl)) rfl
theorem mn_X10_fitsSights : Cond.instanceMethod yX10_fitsSights ∈ tp_W := tp_W_of (tm_4 (List.mem_of_getElem? (i := 175) rfl)) rfl
theorem mse_X10_fitsSights : Cond.selects RX10 yX10_fitsSights yX10_fitsSights ∈ tp_W := tp_W_p (y := yX10_fitsSights) (n := 19) (List.mem_of_getElem? (i := 40) (by decide +kernel))
theorem mf_X10_fitsSights : tp_MV yX10_fitsSights (Cond.code yX10_fitsSights cX10_fitsSights 6 (some .boolean)) cX10_fitsSights 6 (some .boolean) 2 := ⟨⟨rfl, mc_X10_fitsSights, mi_X10, by decide +kernel, by decide⟩, mn_X10_fitsSights, mse_X10_fitsSights⟩
theorem mc_X10_fillPlaces : Cond.code yX10_fillPlaces cX10_fillPlaces 7 none ∈ tp_W := tp_W_of (tm_4 (List.mem_of_getElem? (i := 196) rfl)) rfl
theorem mn_X10_fillPlaces : Cond.instanceMethod yX10_fillPlaces ∈ tp_W := tp_W_of (tm_4 (List.mem_of_getElem? (i := 195) rfl)) rfl
theorem mse_X10_fillPlaces : Cond.selects RX10 yX10_fillPlaces yX10_fillPlaces ∈ tp_W := tp_W_p (y := yX10_fillPlaces) (n := 19) (List.mem_of_getElem? (i := 41) (by decide +kernel))
theorem mf_X10_fillPlaces : tp_MV yX10_fillPlaces (Cond.code yX10_fillPlaces cX10_fillPlaces 7 none) cX10_fillPlaces 7 none 3 := ⟨⟨rfl, mc_X10_fillPlaces, mi_X10, by decide +kernel, by decide⟩, mn_X10_fillPlaces, mse_X10_fillPlaces⟩
theorem mc_X10_mostAtOnePlace : Cond.code yX10_mostAtOnePlace cX10_mostAtOnePlace 8 (some .int) ∈ tp_W := tp_W_of (tm_4 (List.mem_of_getElem? (i := 200) rfl)) rfl
theorem mn_X10_mostAtOnePlace : Cond.instanceMethod yX10_mostAtOnePlace ∈ tp_W := tp_W_of (tm_4 (List.mem_of_getElem? (i := 199) rfl)) rfl
theorem mse_X10_mostAtOnePlace : Cond.selects RX10 yX10_mostAtOnePlace yX10_mostAtOnePlace ∈ tp_W := tp_W_p (y := yX10_mostAtOnePlace) (n := 19) (List.mem_of_getElem? (i := 42) (by decide +kernel))
theorem mf_X10_mostAtOnePlace : tp_MV yX10_mostAtOnePlace (Cond.code yX10_mostAtOnePlace cX10_mostAtOnePlace 8 (some .int)) cX10_mostAtOnePlace 8 (some .int) 2 := ⟨⟨rfl, mc_X10_mostAtOnePlace, mi_X10, by decide +kernel, by decide⟩, mn_X10_mostAtOnePlace, mse_X10_mostAtOnePlace⟩
theorem mc_X10_heard : Cond.code yX10_heard cX10_heard 3 (some .int) ∈ tp_W := tp_W_of (tm_4 (List.mem_of_getElem? (i := 204) rfl)) rfl
theorem mn_X10_heard : Cond.instanceMethod yX10_heard ∈ tp_W := tp_W_of (tm_4 (List.mem_of_getElem? (i := 202) rfl)) rfl
theorem mse_X10_heard : Cond.selects RX10 yX10_heard yX10_heard ∈ tp_W := tp_W_of (tm_4 (List.mem_of_getElem? (i := 203) rfl)) rfl
theorem mf_X10_heard : tp_MV yX10_heard (Cond.code yX10_heard cX10_heard 3 (some .int)) cX10_heard 3 (some .int) 2 := ⟨⟨rfl, mc_X10_heard, mi_X10, by decide +kernel, by decide⟩, mn_X10_heard, mse_X10_heard⟩
theorem mc_X10_denies : Cond.code yX10_denies cX10_denies 2 (some .int) ∈ tp_W := tp_W_of (tm_4 (List.mem_of_getElem? (i := 219) rfl)) rfl
theorem mn_X10_denies : Cond.instanceMethod yX10_denies ∈ tp_W := tp_W_of (tm_4 (List.mem_of_getElem? (i := 217) rfl)) rfl
theorem mse_X10_denies : Cond.selects RX10 yX10_denies yX10_denies ∈ tp_W := tp_W_of (tm_4 (List.mem_of_getElem? (i := 218) rfl)) rfl
theorem mf_X10_denies : tp_MV yX10_denies (Cond.code yX10_denies cX10_denies 2 (some .int)) cX10_denies 2 (some .int) 0 := ⟨⟨rfl, mc_X10_denies, mi_X10, by decide +kernel, by decide⟩, mn_X10_denies, mse_X10_denies⟩
theorem mc_X10_fits : Cond.code yX10_fits cX10_fits 2 (some .int) ∈ tp_W := tp_W_of (tm_4 (List.mem_of_getElem? (i := 223) rfl)) rfl
theorem mn_X10_fits : Cond.instanceMethod yX10_fits ∈ tp_W := tp_W_of (tm_4 (List.mem_of_getElem? (i := 221) rfl)) rfl
theorem mse_X10_fits : Cond.selects RX10 yX10_fits yX10_fits ∈ tp_W := tp_W_of (tm_4 (List.mem_of_getElem? (i := 222) rfl)) rfl
theorem mf_X10_fits : tp_MV yX10_fits (Cond.code yX10_fits cX10_fits 2 (some .int)) cX10_fits 2 (some .int) 0 := ⟨⟨rfl, mc_X10_fits, mi_X10, by decide +kernel, by decide⟩, mn_X10_fits, mse_X10_fits⟩
theorem mc_X10_asks : Cond.code yX10_asks cX10_asks 10 (some .int) ∈ tp_W := tp_W_of (tm_5 (List.mem_of_getElem? (i := 12) rfl)) rfl
theorem mn_X10_asks : Cond.instanceMethod yX10_asks ∈ tp_W := tp_W_of (tm_5 (List.mem_of_getElem? (i := 10) rfl)) rfl
theorem mse_X10_asks : Cond.selects RX10 yX10_asks yX10_asks ∈ tp_W := tp_W_of (tm_5 (List.mem_of_getElem? (i := 11) rfl)) rfl
theorem mf_X10_asks : tp_MV yX10_asks (Cond.code yX10_asks cX10_asks 10 (some .int)) cX10_asks 10 (some .int) 0 := ⟨⟨rfl, mc_X10_asks, mi_X10, by decide +kernel, by decide⟩, mn_X10_asks, mse_X10_asks⟩
theorem mc_X10_fittingCrossings : Cond.code yX10_fittingCrossings cX10_fittingCrossings 3 (some .int) ∈ tp_W := tp_W_of (tm_4 (List.mem_of_getElem? (i := 227) rfl)) rfl
theorem mn_X10_fittingCrossings : Cond.instanceMethod yX10_fittingCrossings ∈ tp_W := tp_W_of (tm_4 (List.mem_of_getElem? (i := 226) rfl)) rfl
theorem mse_X10_fittingCrossings : Cond.selects RX10 yX10_fittingCrossings yX10_fittingCrossings ∈ tp_W := tp_W_p (y := yX10_fittingCrossings) (n := 19) (List.mem_of_getElem? (i := 43) (by decide +kernel))
theorem mf_X10_fittingCrossings : tp_MV yX10_fittingCrossings (Cond.code yX10_fittingCrossings cX10_fittingCrossings 3 (some .int)) cX10_fittingCrossings 3 (some .int) 0 := ⟨⟨rfl, mc_X10_fittingCrossings, mi_X10, by decide +kernel, by decide⟩, mn_X10_fittingCrossings, mse_X10_fittingCrossings⟩
theorem mc_X10_crossingsOf : Cond.code yX10_crossingsOf cX10_crossingsOf 5 (some .int) ∈ tp_W := tp_W_of (tm_4 (List.mem_of_getElem? (i := 239) rfl)) rfl
theorem mn_X10_crossingsOf : Cond.instanceMethod yX10_crossingsOf ∈ tp_W := tp_W_of (tm_4 (List.mem_of_getElem? (i := 238) rfl)) rfl
theorem mse_X10_crossingsOf : Cond.selects RX10 yX10_crossingsOf yX10_crossingsOf ∈ tp_W := tp_W_p (y := yX10_crossingsOf) (n := 19) (List.mem_of_getElem? (i := 44) (by decide +kernel))
theorem mf_X10_crossingsOf : tp_MV yX10_crossingsOf (Cond.code yX10_crossingsOf cX10_crossingsOf 5 (some .int)) cX10_crossingsOf 5 (some .int) 2 := ⟨⟨rfl, mc_X10_crossingsOf, mi_X10, by decide +kernel, by decide⟩, mn_X10_crossingsOf, mse_X10_crossingsOf⟩
theorem mc_X10_isSo : Cond.code yX10_isSo cX10_isSo 4 (some .boolean) ∈ tp_W := tp_W_of (tm_5 (List.mem_of_getElem? (i := 3) rfl)) rfl
theorem mn_X10_isSo : Cond.instanceMethod yX10_isSo ∈ tp_W := tp_W_of (tm_5 (List.mem_of_getElem? (i := 2) rfl)) rfl
theorem mse_X10_isSo : Cond.selects RX10 yX10_isSo yX10_isSo ∈ tp_W := tp_W_p (y := yX10_isSo) (n := 19) (List.mem_of_getElem? (i := 45) (by decide +kernel))
theorem mf_X10_isSo : tp_MV yX10_isSo (Cond.code yX10_isSo cX10_isSo 4 (some .boolean)) cX10_isSo 4 (some .boolean) 3 := ⟨⟨rfl, mc_X10_isSo, mi_X10, by decide +kernel, by decide⟩, mn_X10_isSo, mse_X10_isSo⟩
theorem mc_X10_crowds : Cond.code yX10_crowds cX10_crowds 6 (some .int) ∈ tp_W := tp_W_of (tm_5 (List.mem_of_getElem? (i := 16) rfl)) rfl
theorem mn_X10_crowds : Cond.instanceMethod yX10_crowds ∈ tp_W := tp_W_of (tm_5 (List.mem_of_getElem? (i := 14) rfl)) rfl
theorem mse_X10_crowds : Cond.selects RX10 yX10_crowds yX10_crowds ∈ tp_W := tp_W_of (tm_5 (List.mem_of_getElem? (i := 15) rfl)) rfl
theorem mf_X10_crowds : tp_MV yX10_crowds (Cond.code yX10_crowds cX10_crowds 6 (some .int)) cX10_crowds 6 (some .int) 2 := ⟨⟨rfl, mc_X10_crowds, mi_X10, by decide +kernel, by decide⟩, mn_X10_crowds, mse_X10_crowds⟩
theorem mc_X10_isCold : Cond.code yX10_isCold cX10_isCold 3 (some .boolean) ∈ tp_W := tp_W_of (tm_5 (List.mem_of_getElem? (i := 20) rfl)) rfl
theorem mn_X10_isCold : Cond.instanceMethod yX10_isCold ∈ tp_W := tp_W_of (tm_5 (List.mem_of_getElem? (i := 19) rfl)) rfl
theorem mse_X10_isCold : Cond.selects RX10 yX10_isCold yX10_isCold ∈ tp_W := tp_W_p (y := yX10_isCold) (n := 19) (List.mem_of_getElem? (i := 46) (by decide +kernel))
theorem mf_X10_isCold : tp_MV yX10_isCold (Cond.code yX10_isCold cX10_isCold 3 (some .boolean)) cX10_isCold 3 (some .boolean) 2 := ⟨⟨rfl, mc_X10_isCold, mi_X10, by decide +kernel, by decide⟩, mn_X10_isCold, mse_X10_isCold⟩
theorem mc_X10_fillColdPartners : Cond.code yX10_fillColdPartners cX10_fillColdPartners 4 none ∈ tp_W := tp_W_of (tm_2 (List.mem_of_getElem? (i := 28) rfl)) rfl
theorem ms_X10_fillColdPartners : Cond.static yX10_fillColdPartners ∈ tp_W := tp_W_of (tm_2 (List.mem_of_getElem? (i := 27) rfl)) rfl
theorem mf_X10_fillColdPartners : tp_MS yX10_fillColdPartners (Cond.code yX10_fillColdPartners cX10_fillColdPartners 4 none) cX10_fillColdPartners 4 none 1 := ⟨⟨rfl, mc_X10_fillColdPartners, mi_X10, by decide +kernel, by decide⟩, ms_X10_fillColdPartners⟩
theorem mc_X10_law : Cond.code yX10_law cX10_law 5 (some .int) ∈ tp_W := tp_W_of (tm_5 (List.mem_of_getElem? (i := 24) rfl)) rfl
theorem mn_X10_law : Cond.instanceMethod yX10_law ∈ tp_W := tp_W_of (tm_5 (List.mem_of_getElem? (i := 22) rfl)) rfl
theorem mse_X10_law : Cond.selects RX10 yX10_law yX10_law ∈ tp_W := tp_W_of (tm_5 (List.mem_of_getElem? (i := 23) rfl)) rfl
theorem mf_X10_law : tp_MV yX10_law (Cond.code yX10_law cX10_law 5 (some .int)) cX10_law 5 (some .int) 0 := ⟨⟨rfl, mc_X10_law, mi_X10, by decide +kernel, by decide⟩, mn_X10_law, mse_X10_law⟩
theorem mc_X10_lengthBy : Cond.code yX10_lengthBy cX10_lengthBy 4 (some .int) ∈ tp_W := tp_W_of (tm_5 (List.mem_of_getElem? (i := 28) rfl)) rfl
theorem mn_X10_lengthBy : Cond.instanceMethod yX10_lengthBy ∈ tp_W := tp_W_of (tm_5 (List.mem_of_getElem? (i := 27) rfl)) rfl
theorem mse_X10_lengthBy : Cond.selects RX10 yX10_lengthBy yX10_lengthBy ∈ tp_W := tp_W_p (y := yX10_lengthBy) (n := 19) (List.mem_of_getElem? (i := 47) (by decide +kernel))
theorem mf_X10_lengthBy : tp_MV yX10_lengthBy (Cond.code yX10_lengthBy cX10_lengthBy 4 (some .int)) cX10_lengthBy 4 (some .int) 2 := ⟨⟨rfl, mc_X10_lengthBy, mi_X10, by decide +kernel, by decide⟩, mn_X10_lengthBy, mse_X10_lengthBy⟩
theorem mc_X10_waits : Cond.code yX10_waits cX10_waits 5 (some .int) ∈ tp_W := tp_W_of (tm_5 (List.mem_of_getElem? (i := 32) rfl)) rfl
theorem mn_X10_waits : Cond.instanceMethod yX10_waits ∈ tp_W := tp_W_of (tm_5 (List.mem_of_getElem? (i := 30) rfl)) rfl
theorem mse_X10_waits : Cond.selects RX10 yX10_waits yX10_waits ∈ tp_W := tp_W_of (tm_5 (List.mem_of_getElem? (i := 31) rfl)) rfl
theorem mf_X10_waits : tp_MV yX10_waits (Cond.code yX10_waits cX10_waits 5 (some .int)) cX10_waits 5 (some .int) 1 := ⟨⟨rfl, mc_X10_waits, mi_X10, by decide +kernel, by decide⟩, mn_X10_waits, mse_X10_waits⟩
theorem mc_X10_isBestWait : Cond.code yX10_isBestWait cX10_isBestWait 5 (some .boolean) ∈ tp_W := tp_W_of (tm_5 (List.mem_of_getElem? (i := 35) rfl)) rfl
theorem ms_X10_isBestWait : Cond.static yX10_isBestWait ∈ tp_W := tp_W_of (tm_5 (List.mem_of_getElem? (i := 34) rfl)) rfl
theorem mf_X10_isBestWait : tp_MS yX10_isBestWait (Cond.code yX10_isBestWait cX10_isBestWait 5 (some .boolean)) cX10_isBestWait 5 (some .boolean) 3 := ⟨⟨rfl, mc_X10_isBestWait, mi_X10, by decide +kernel, by decide⟩, ms_X10_isBestWait⟩
theorem mc_X10_waitCost : Cond.code yX10_waitCost cX10_waitCost 3 (some .int) ∈ tp_W := tp_W_of (tm_5 (List.mem_of_getElem? (i := 38) rfl)) rfl
theorem ms_X10_waitCost : Cond.static yX10_waitCost ∈ tp_W := tp_W_of (tm_5 (List.mem_of_getElem? (i := 37) rfl)) rfl
theorem mf_X10_waitCost : tp_MS yX10_waitCost (Cond.code yX10_waitCost cX10_waitCost 3 (some .int)) cX10_waitCost 3 (some .int) 3 := ⟨⟨rfl, mc_X10_waitCost, mi_X10, by decide +kernel, by decide⟩, ms_X10_waitCost⟩
theorem mc_X10_years : Cond.code yX10_years cX10_years 9 (some .int) ∈ tp_W := tp_W_of (tm_5 (List.mem_of_getElem? (i := 42) rfl)) rfl
theorem mn_X10_years : Cond.instanceMethod yX10_years ∈ tp_W := tp_W_of (tm_5 (List.mem_of_getElem? (i := 40) rfl)) rfl
theorem mse_X10_years : Cond.selects RX10 yX10_years yX10_years ∈ tp_W := tp_W_of (tm_5 (List.mem_of_getElem? (i := 41) rfl)) rfl
theorem mf_X10_years : tp_MV yX10_years (Cond.code yX10_years cX10_years 9 (some .int)) cX10_years 9 (some .int) 2 := ⟨⟨rfl, mc_X10_years, mi_X10, by decide +kernel, by decide⟩, mn_X10_years, mse_X10_years⟩
theorem mc_X10_nextRandom : Cond.code yX10_nextRandom cX10_nextRandom 1 (some .int) ∈ tp_W := tp_W_of (tm_5 (List.mem_of_getElem? (i := 45) rfl)) rfl
theorem ms_X10_nextRandom : Cond.static yX10_nextRandom ∈ tp_W := tp_W_of (tm_5 (List.mem_of_getElem? (i := 44) rfl)) rfl
theorem mf_X10_nextRandom : tp_MS yX10_nextRandom (Cond.code yX10_nextRandom cX10_nextRandom 1 (some .int)) cX10_nextRandom 1 (some .int) 1 := ⟨⟨rfl, mc_X10_nextRandom, mi_X10, by decide +kernel, by decide⟩, ms_X10_nextRandom⟩
theorem mc_X10_draw : Cond.code yX10_draw cX10_draw 2 (some .int) ∈ tp_W := tp_W_of (tm_5 (List.mem_of_getElem? (i := 49) rfl)) rfl
theorem ms_X10_draw : Cond.static yX10_draw ∈ tp_W := tp_W_of (tm_5 (List.mem_of_getElem? (i := 48) rfl)) rfl
theorem mf_X10_draw : tp_MS yX10_draw (Cond.code yX10_draw cX10_draw 2 (some .int)) cX10_draw 2 (some .int) 2 := ⟨⟨rfl, mc_X10_draw, mi_X10, by decide +kernel, by decide⟩, ms_X10_draw⟩
theorem mc_X10_keep : Cond.code yX10_keep cX10_keep 2 (some .boolean) ∈ tp_W := tp_W_of (tm_5 (List.mem_of_getElem? (i := 53) rfl)) rfl
theorem mn_X10_keep : Cond.instanceMethod yX10_keep ∈ tp_W := tp_W_of (tm_5 (List.mem_of_getElem? (i := 51) rfl)) rfl
theorem mse_X10_keep : Cond.selects RX10 yX10_keep yX10_keep ∈ tp_W := tp_W_of (tm_5 (List.mem_of_getElem? (i := 52) rfl)) rfl
theorem mf_X10_keep : tp_MV yX10_keep (Cond.code yX10_keep cX10_keep 2 (some .boolean)) cX10_keep 2 (some .boolean) 1 := ⟨⟨rfl, mc_X10_keep, mi_X10, by decide +kernel, by decide⟩, mn_X10_keep, mse_X10_keep⟩
theorem mc_X10_again : Cond.code yX10_again cX10_again 2 (some .boolean) ∈ tp_W := tp_W_of (tm_5 (List.mem_of_getElem? (i := 61) rfl)) rfl
theorem mn_X10_again : Cond.instanceMethod yX10_again ∈ tp_W := tp_W_of (tm_5 (List.mem_of_getElem? (i := 59) rfl)) rfl
theorem mse_X10_again : Cond.selects RX10 yX10_again yX10_again ∈ tp_W := tp_W_of (tm_5 (List.mem_of_getElem? (i := 60) rfl)) rfl
theorem mf_X10_again : tp_MV yX10_again (Cond.code yX10_again cX10_again 2 (some .boolean)) cX10_again 2 (some .boolean) 1 := ⟨⟨rfl, mc_X10_again, mi_X10, by decide +kernel, by decide⟩, mn_X10_again, mse_X10_again⟩
theorem mc_X10_count : Cond.code yX10_count cX10_count 2 (some .int) ∈ tp_W := tp_W_of (tm_5 (List.mem_of_getElem? (i := 69) rfl)) rfl
theorem mn_X10_count : Cond.instanceMethod yX10_count ∈ tp_W := tp_W_of (tm_5 (List.mem_of_getElem? (i := 67) rfl)) rfl
theorem mse_X10_count : Cond.selects RX10 yX10_count yX10_count ∈ tp_W := tp_W_of (tm_5 (List.mem_of_getElem? (i := 68) rfl)) rfl
theorem mf_X10_count : tp_MV yX10_count (Cond.code yX10_count cX10_count 2 (some .int)) cX10_count 2 (some .int) 1 := ⟨⟨rfl, mc_X10_count, mi_X10, by decide +kernel, by decide⟩, mn_X10_count, mse_X10_count⟩
theorem mc_X10_row : Cond.code yX10_row cX10_row 2 (some .long) ∈ tp_W := tp_W_of (tm_5 (List.mem_of_getElem? (i := 168) rfl)) rfl
theorem mn_X10_row : Cond.instanceMethod yX10_row ∈ tp_W := tp_W_of (tm_5 (List.mem_of_getElem? (i := 166) rfl)) rfl
theorem mse_X10_row : Cond.selects RX10 yX10_row yX10_row ∈ tp_W := tp_W_of (tm_5 (List.mem_of_getElem? (i := 167) rfl)) rfl
theorem mf_X10_row : tp_MV yX10_row (Cond.code yX10_row cX10_row 2 (some .long)) cX10_row 2 (some .long) 1 := ⟨⟨rfl, mc_X10_row, mi_X10, by decide +kernel, by decide⟩, mn_X10_row, mse_X10_row⟩
theorem mc_X11_thrown : Cond.code yX11_thrown cX11_thrown 1 (some .int) ∈ tp_W := tp_W_of (tm_5 (List.mem_of_getElem? (i := 176) rfl)) rfl
theorem mn_X11_thrown : Cond.instanceMethod yX11_thrown ∈ tp_W := tp_W_of (tm_5 (List.mem_of_getElem? (i := 174) rfl)) rfl
theorem mse_X11_thrown : Cond.selects RX11 yX11_thrown yX11_thrown ∈ tp_W := tp_W_of (tm_5 (List.mem_of_getElem? (i := 175) rfl)) rfl
theorem mf_X11_thrown : tp_MV yX11_thrown (Cond.code yX11_thrown cX11_thrown 1 (some .int)) cX11_thrown 1 (some .int) 0 := ⟨⟨rfl, mc_X11_thrown, mi_X11, by decide +kernel, by decide⟩, mn_X11_thrown, mse_X11_thrown⟩
theorem mc_X11_refuse : Cond.code yX11_refuse cX11_refuse 1 (some .int) ∈ tp_W := tp_W_of (tm_7 (List.mem_of_getElem? (i := 13) rfl)) rfl
theorem mn_X11_refuse : Cond.instanceMethod yX11_refuse ∈ tp_W := tp_W_of (tm_7 (List.mem_of_getElem? (i := 12) rfl)) rfl
theorem mse_X11_refuse : Cond.selects RX11 yX11_refuse yX11_refuse ∈ tp_W := tp_W_p (y := yX11_refuse) (n := 52) (List.mem_of_getElem? (i := 66) (by decide +kernel))
theorem mf_X11_refuse : tp_MV yX11_refuse (Cond.code yX11_refuse cX11_refuse 1 (some .int)) cX11_refuse 1 (some .int) 0 := ⟨⟨rfl, mc_X11_refuse, mi_X11, by decide +kernel, by decide⟩, mn_X11_refuse, mse_X11_refuse⟩
theorem mc_X11_in : Cond.code yX11_in cX11_in 6 (some .boolean) ∈ tp_W := tp_W_of (tm_6 (List.mem_of_getElem? (i := 110) rfl)) rfl
theorem ms_X11_in : Cond.static yX11_in ∈ tp_W := tp_W_of (tm_6 (List.mem_of_getElem? (i := 109) rfl)) rfl
theorem mf_X11_in : tp_MS yX11_in (Cond.code yX11_in cX11_in 6 (some .boolean)) cX11_in 6 (some .boolean) 3 := ⟨⟨rfl, mc_X11_in, mi_X11, by decide +kernel, by decide⟩, ms_X11_in⟩
theorem mc_X11_has : Cond.code yX11_has cX11_has 2 (some .boolean) ∈ tp_W := tp_W_of (tm_6 (List.mem_of_getElem? (i := 151) rfl)) rfl
theorem ms_X11_has : Cond.static yX11_has ∈ tp_W := tp_W_of (tm_6 (List.mem_of_getElem? (i := 150) rfl)) rfl
theorem mf_X11_has : tp_MS yX11_has (Cond.code yX11_has cX11_has 2 (some .boolean)) cX11_has 2 (some .boolean) 2 := ⟨⟨rfl, mc_X11_has, mi_X11, by decide +kernel, by decide⟩, ms_X11_has⟩
theorem mc_X11_flag : Cond.code yX11_flag cX11_flag 1 (some .int) ∈ tp_W := tp_W_of (tm_6 (List.mem_of_getElem? (i := 140) rfl)) rfl
theorem ms_X11_flag : Cond.static yX11_flag ∈ tp_W := tp_W_of (tm_6 (List.mem_of_getElem? (i := 139) rfl)) rfl
theorem mf_X11_flag : tp_MS yX11_flag (Cond.code yX11_flag cX11_flag 1 (some .int)) cX11_flag 1 (some .int) 1 := ⟨⟨rfl, mc_X11_flag, mi_X11, by decide +kernel, by decide⟩, ms_X11_flag⟩
theorem mc_X11_common : Cond.code yX11_common cX11_common 4 (some .long) ∈ tp_W := tp_W_of (tm_8 (List.mem_of_getElem? (i := 49) rfl)) rfl
theorem ms_X11_common : Cond.static yX11_common ∈ tp_W := tp_W_of (tm_8 (List.mem_of_getElem? (i := 48) rfl)) rfl
theorem mf_X11_common : tp_MS yX11_common (Cond.code yX11_common cX11_common 4 (some .long)) cX11_common 4 (some .long) 2 := ⟨⟨rfl, mc_X11_common, mi_X11, by decide +kernel, by decide⟩, ms_X11_common⟩
theorem mc_X11_enters : Cond.code yX11_enters cX11_enters 3 none ∈ tp_W := tp_W_of (tm_7 (List.mem_of_getElem? (i := 104) rfl)) rfl
theorem mn_X11_enters : Cond.instanceMethod yX11_enters ∈ tp_W := tp_W_of (tm_7 (List.mem_of_getElem? (i := 103) rfl)) rfl
theorem mse_X11_enters : Cond.selects RX11 yX11_enters yX11_enters ∈ tp_W := tp_W_p (y := yX11_enters) (n := 52) (List.mem_of_getElem? (i := 81) (by decide +kernel))
theorem mf_X11_enters : tp_MV yX11_enters (Cond.code yX11_enters cX11_enters 3 none) cX11_enters 3 none 1 := ⟨⟨rfl, mc_X11_enters, mi_X11, by decide +kernel, by decide⟩, mn_X11_enters, mse_X11_enters⟩
theorem mc_X11_entersFraction : Cond.code yX11_entersFraction cX11_entersFraction 7 (some .int) ∈ tp_W := tp_W_of (tm_8 (List.mem_of_getElem? (i := 46) rfl)) rfl
theorem mn_X11_entersFraction : Cond.instanceMethod yX11_entersFraction ∈ tp_W := tp_W_of (tm_8 (List.mem_of_getElem? (i := 45) rfl)) rfl
theorem mse_X11_entersFraction : Cond.selects RX11 yX11_entersFraction yX11_entersFraction ∈ tp_W := tp_W_p (y := yX11_entersFraction) (n := 52) (List.mem_of_getElem? (i := 104) (by decide +kernel))
theorem mf_X11_entersFraction : tp_MV yX11_entersFraction (Cond.code yX11_entersFraction cX11_entersFraction 7 (some .int)) cX11_entersFraction 7 (some .int) 2 := ⟨⟨rfl, mc_X11_entersFraction, mi_X11, by decide +kernel, by decide⟩, mn_X11_entersFraction, mse_X11_entersFraction⟩
theorem mc_X11_init : Cond.code yX11_init cX11_init 1 none ∈ tp_W := tp_W_of (tm_5 (List.mem_of_getElem? (i := 181) rfl)) rfl
theorem mn_X11_init : Cond.instanceMethod yX11_init ∈ tp_W := tp_W_of (tm_5 (List.mem_of_getElem? (i := 180) rfl)) rfl
theorem mc_X11_isCrossing : Cond.code yX11_isCrossing cX11_isCrossing 2 (some .boolean) ∈ tp_W := tp_W_of (tm_7 (List.mem_of_getElem? (i := 8) rfl)) rfl
theorem mn_X11_isCrossing : Cond.instanceMethod yX11_isCrossing ∈ tp_W := tp_W_of (tm_7 (List.mem_of_getElem? (i := 7) rfl)) rfl
theorem mse_X11_isCrossing : Cond.selects RX11 yX11_isCrossing yX11_isCrossing ∈ tp_W := tp_W_p (y := yX11_isCrossing) (n := 52) (List.mem_of_getElem? (i := 65) (by decide +kernel))
theorem mf_X11_isCrossing : tp_MV yX11_isCrossing (Cond.code yX11_isCrossing cX11_isCrossing 2 (some .boolean)) cX11_isCrossing 2 (some .boolean) 1 := ⟨⟨rfl, mc_X11_isCrossing, mi_X11, by decide +kernel, by decide⟩, mn_X11_isCrossing, mse_X11_isCrossing⟩
theorem mc_X11_isOut : Cond.code yX11_isOut cX11_isOut 2 (some .boolean) ∈ tp_W := tp_W_of (tm_7 (List.mem_of_getElem? (i := 42) rfl)) rfl
theorem mn_X11_isOut : Cond.instanceMethod yX11_isOut ∈ tp_W := tp_W_of (tm_7 (List.mem_of_getElem? (i := 41) rfl)) rfl
theorem mse_X11_isOut : Cond.selects RX11 yX11_isOut yX11_isOut ∈ tp_W := tp_W_p (y := yX11_isOut) (n := 52) (List.mem_of_getElem? (i := 71) (by decide +kernel))
theorem mf_X11_isOut : tp_MV yX11_isOut (Cond.code yX11_isOut cX11_isOut 2 (some .boolean)) cX11_isOut 2 (some .boolean) 1 := ⟨⟨rfl, mc_X11_isOut, mi_X11, by decide +kernel, by decide⟩, mn_X11_isOut, mse_X11_isOut⟩
theorem mc_X11_goalOf : Cond.code yX11_goalOf cX11_goalOf 3 (some .int) ∈ tp_W := tp_W_of (tm_7 (List.mem_of_getElem? (i := 22) rfl)) rfl
theorem mn_X11_goalOf : Cond.instanceMethod yX11_goalOf ∈ tp_W := tp_W_of (tm_7 (List.mem_of_getElem? (i := 21) rfl)) rfl
theorem mse_X11_goalOf : Cond.selects RX11 yX11_goalOf yX11_goalOf ∈ tp_W := tp_W_p (y := yX11_goalOf) (n := 52) (List.mem_of_getElem? (i := 68) (by decide +kernel))
theorem mf_X11_goalOf : tp_MV yX11_goalOf (Cond.code yX11_goalOf cX11_goalOf 3 (some .int)) cX11_goalOf 3 (some .int) 2 := ⟨⟨rfl, mc_X11_goalOf, mi_X11, by decide +kernel, by decide⟩, mn_X11_goalOf, mse_X11_goalOf⟩
theorem mc_X11_walkers : Cond.code yX11_walkers cX11_walkers 4 (some .int) ∈ tp_W := tp_W_of (tm_7 (List.mem_of_getElem? (i := 51) rfl)) rfl
theorem mn_X11_walkers : Cond.instanceMethod yX11_walkers ∈ tp_W := tp_W_of (tm_7 (List.mem_of_getElem? (i := 50) rfl)) rfl
theorem mse_X11_walkers : Cond.selects RX11 yX11_walkers yX11_walkers ∈ tp_W := tp_W_p (y := yX11_walkers) (n := 52) (List.mem_of_getElem? (i := 72) (by decide +kernel))
theorem mf_X11_walkers : tp_MV yX11_walkers (Cond.code yX11_walkers cX11_walkers 4 (some .int)) cX11_walkers 4 (some .int) 1 := ⟨⟨rfl, mc_X11_walkers, mi_X11, by decide +kernel, by decide⟩, mn_X11_walkers, mse_X11_walkers⟩
theorem mc_X11_copies : Cond.code yX11_copies cX11_copies 3 none ∈ tp_W := tp_W_of (tm_7 (List.mem_of_getElem? (i := 115) rfl)) rfl
theorem ms_X11_copies : Cond.static yX11_copies ∈ tp_W := tp_W_of (tm_7 (List.mem_of_getElem? (i := 114) rfl)) rfl
theorem mf_X11_copies : tp_MS yX11_copies (Cond.code yX11_copies cX11_copies 3 none) cX11_copies 3 none 2 := ⟨⟨rfl, mc_X11_copies, mi_X11, by decide +kernel, by decide⟩, ms_X11_copies⟩
theorem mc_X11_sign : Cond.code yX11_sign cX11_sign 3 (some .int) ∈ tp_W := tp_W_of (tm_6 (List.mem_of_getElem? (i := 103) rfl)) rfl
theorem mn_X11_sign : Cond.instanceMethod yX11_sign ∈ tp_W := tp_W_of (tm_6 (List.mem_of_getElem? (i := 101) rfl)) rfl
theorem mse_X11_sign : Cond.selects RX11 yX11_sign yX11_sign ∈ tp_W := tp_W_of (tm_6 (List.mem_of_getElem? (i := 102) rfl)) rfl
theorem mf_X11_sign : tp_MV yX11_sign (Cond.code yX11_sign cX11_sign 3 (some .int)) cX11_sign 3 (some .int) 1 := ⟨⟨rfl, mc_X11_sign, mi_X11, by decide +kernel, by decide⟩, mn_X11_sign, mse_X11_sign⟩
theorem mc_X11_end : Cond.code yX11_end cX11_end 2 (some .boolean) ∈ tp_W := tp_W_of (tm_6 (List.mem_of_getElem? (i := 107) rfl)) rfl
theorem mn_X11_end : Cond.instanceMethod yX11_end ∈ tp_W := tp_W_of (tm_6 (List.mem_of_getElem? (i := 105) rfl)) rfl
theorem mse_X11_end : Cond.selects RX11 yX11_end yX11_end ∈ tp_W := tp_W_of (tm_6 (List.mem_of_getElem? (i := 106) rfl)) rfl
theorem mf_X11_end : tp_MV yX11_end (Cond.code yX11_end cX11_end 2 (some .boolean)) cX11_end 2 (some .boolean) 1 := ⟨⟨rfl, mc_X11_end, mi_X11, by decide +kernel, by decide⟩, mn_X11_end, mse_X11_end⟩
theorem mc_X11_begins : Cond.code yX11_begins cX11_begins 3 (some .int) ∈ tp_W := tp_W_of (tm_6 (List.mem_of_getElem? (i := 118) rfl)) rfl
theorem mn_X11_begins : Cond.instanceMethod yX11_begins ∈ tp_W := tp_W_of (tm_6 (List.mem_of_getElem? (i := 117) rfl)) rfl
theorem mse_X11_begins : Cond.selects RX11 yX11_begins yX11_begins ∈ tp_W := tp_W_p (y := yX11_begins) (n := 52) (List.mem_of_getElem? (i := 50) (by decide +kernel))
theorem mf_X11_begins : tp_MV yX11_begins (Cond.code yX11_begins cX11_begins 3 (some .int)) cX11_begins 3 (some .int) 1 := ⟨⟨rfl, mc_X11_begins, mi_X11, by decide +kernel, by decide⟩, mn_X11_begins, mse_X11_begins⟩
theorem mc_X11_takes : Cond.code yX11_takes cX11_takes 3 (some .boolean) ∈ tp_W := tp_W_of (tm_6 (List.mem_of_getElem? (i := 144) rfl)) rfl
theorem mn_X11_takes : Cond.instanceMethod yX11_takes ∈ tp_W := tp_W_of (tm_6 (List.mem_of_getElem? (i := 143) rfl)) rfl
theorem mse_X11_takes : Cond.selects RX11 yX11_takes yX11_takes ∈ tp_W := tp_W_p (y := yX11_takes) (n := 52) (List.mem_of_getElem? (i := 55) (by decide +kernel))
theorem mf_X11_takes : tp_MV yX11_takes (Cond.code yX11_takes cX11_takes 3 (some .boolean)) cX11_takes 3 (some .boolean) 1 := ⟨⟨rfl, mc_X11_takes, mi_X11, by decide +kernel, by decide⟩, mn_X11_takes, mse_X11_takes⟩
theorem mc_X11_isDigit : Cond.code yX11_isDigit cX11_isDigit 1 (some .boolean) ∈ tp_W := tp_W_of (tm_6 (List.mem_of_getElem? (i := 127) rfl)) rfl
theorem mn_X11_isDigit : Cond.instanceMethod yX11_isDigit ∈ tp_W := tp_W_of (tm_6 (List.mem_of_getElem? (i := 126) rfl)) rfl
theorem mse_X11_isDigit : Cond.selects RX11 yX11_isDigit yX11_isDigit ∈ tp_W := tp_W_p (y := yX11_isDigit) (n := 52) (List.mem_of_getElem? (i := 52) (by decide +kernel))
theorem mf_X11_isDigit : tp_MV yX11_isDigit (Cond.code yX11_isDigit cX11_isDigit 1 (some .boolean)) cX11_isDigit 1 (some .boolean) 0 := ⟨⟨rfl, mc_X11_isDigit, mi_X11, by decide +kernel, by decide⟩, mn_X11_isDigit, mse_X11_isDigit⟩
theorem mc_X11_takesOf : Cond.code yX11_takesOf cX11_takesOf 3 (some .int) ∈ tp_W := tp_W_of (tm_6 (List.mem_of_getElem? (i := 180) rfl)) rfl
theorem mn_X11_takesOf : Cond.instanceMethod yX11_takesOf ∈ tp_W := tp_W_of (tm_6 (List.mem_of_getElem? (i := 179) rfl)) rfl
theorem mse_X11_takesOf : Cond.selects RX11 yX11_takesOf yX11_takesOf ∈ tp_W := tp_W_p (y := yX11_takesOf) (n := 52) (List.mem_of_getElem? (i := 62) (by decide +kernel))
theorem mf_X11_takesOf : tp_MV yX11_takesOf (Cond.code yX11_takesOf cX11_takesOf 3 (some .int)) cX11_takesOf 3 (some .int) 1 := ⟨⟨rfl, mc_X11_takesOf, mi_X11, by decide +kernel, by decide⟩, mn_X11_takesOf, mse_X11_takesOf⟩
theorem mc_X11_number : Cond.code yX11_number cX11_number 4 (some .int) ∈ tp_W := tp_W_of (tm_6 (List.mem_of_getElem? (i := 175) rfl)) rfl
theorem mn_X11_number : Cond.instanceMethod yX11_number ∈ tp_W := tp_W_of (tm_6 (List.mem_of_getElem? (i := 174) rfl)) rfl
theorem mse_X11_number : Cond.selects RX11 yX11_number yX11_number ∈ tp_W := tp_W_p (y := yX11_number) (n := 52) (List.mem_of_getElem? (i := 61) (by decide +kernel))
theorem mf_X11_number : tp_MV yX11_number (Cond.code yX11_number cX11_number 4 (some .int)) cX11_number 4 (some .int) 1 := ⟨⟨rfl, mc_X11_number, mi_X11, by decide +kernel, by decide⟩, mn_X11_number, mse_X11_number⟩
theorem mc_X11_digitIn : Cond.code yX11_digitIn cX11_digitIn 3 (some .int) ∈ tp_W := tp_W_of (tm_6 (List.mem_of_getElem? (i := 137) rfl)) rfl
theorem mn_X11_digitIn : Cond.instanceMethod yX11_digitIn ∈ tp_W := tp_W_of (tm_6 (List.mem_of_getElem? (i := 136) rfl)) rfl
theorem mse_X11_digitIn : Cond.selects RX11 yX11_digitIn yX11_digitIn ∈ tp_W := tp_W_p (y := yX11_digitIn) (n := 52) (List.mem_of_getElem? (i := 54) (by decide +kernel))
theorem mf_X11_digitIn : tp_MV yX11_digitIn (Cond.code yX11_digitIn cX11_digitIn 3 (some .int)) cX11_digitIn 3 (some .int) 2 := ⟨⟨rfl, mc_X11_digitIn, mi_X11, by decide +kernel, by decide⟩, mn_X11_digitIn, mse_X11_digitIn⟩
theorem mc_X11_faultOf : Cond.code yX11_faultOf cX11_faultOf 5 (some .int) ∈ tp_W := tp_W_of (tm_6 (List.mem_of_getElem? (i := 235) rfl)) rfl
theorem mn_X11_faultOf : Cond.instanceMethod yX11_faultOf ∈ tp_W := tp_W_of (tm_6 (List.mem_of_getElem? (i := 234) rfl)) rfl
theorem mse_X11_faultOf : Cond.selects RX11 yX11_faultOf yX11_faultOf ∈ tp_W := tp_W_p (y := yX11_faultOf) (n := 52) (List.mem_of_getElem? (i := 63) (by decide +kernel))
theorem mf_X11_faultOf : tp_MV yX11_faultOf (Cond.code yX11_faultOf cX11_faultOf 5 (some .int)) cX11_faultOf 5 (some .int) 3 := ⟨⟨rfl, mc_X11_faultOf, mi_X11, by decide +kernel, by decide⟩, mn_X11_faultOf, mse_X11_faultOf⟩
theorem mc_X11_digitOf : Cond.code yX11_digitOf cX11_digitOf 3 (some .int) ∈ tp_W := tp_W_of (tm_6 (List.mem_of_getElem? (i := 133) rfl)) rfl
theorem mn_X11_digitOf : Cond.instanceMethod yX11_digitOf ∈ tp_W := tp_W_of (tm_6 (List.mem_of_getElem? (i := 132) rfl)) rfl
theorem mse_X11_digitOf : Cond.selects RX11 yX11_digitOf yX11_digitOf ∈ tp_W := tp_W_p (y := yX11_digitOf) (n := 52) (List.mem_of_getElem? (i := 53) (by decide +kernel))
theorem mf_X11_digitOf : tp_MV yX11_digitOf (Cond.code yX11_digitOf cX11_digitOf 3 (some .int)) cX11_digitOf 3 (some .int) 1 := ⟨⟨rfl, mc_X11_digitOf, mi_X11, by decide +kernel, by decide⟩, mn_X11_digitOf, mse_X11_digitOf⟩
theorem mc_X11_readsLine : Cond.code yX11_readsLine cX11_readsLine 5 (some .boolean) ∈ tp_W := tp_W_of (tm_6 (List.mem_of_getElem? (i := 123) rfl)) rfl
theorem mn_X11_readsLine : Cond.instanceMethod yX11_readsLine ∈ tp_W := tp_W_of (tm_6 (List.mem_of_getElem? (i := 122) rfl)) rfl
theorem mse_X11_readsLine : Cond.selects RX11 yX11_readsLine yX11_readsLine ∈ tp_W := tp_W_p (y := yX11_readsLine) (n := 52) (List.mem_of_getElem? (i := 51) (by decide +kernel))
theorem mf_X11_readsLine : tp_MV yX11_readsLine (Cond.code yX11_readsLine cX11_readsLine 5 (some .boolean)) cX11_readsLine 5 (some .boolean) 0 := ⟨⟨rfl, mc_X11_readsLine, mi_X11, by decide +kernel, by decide⟩, mn_X11_readsLine, mse_X11_readsLine⟩
theorem mc_X11_allCome : Cond.code yX11_allCome cX11_allCome 5 (some .boolean) ∈ tp_W := tp_W_of (tm_6 (List.mem_of_getElem? (i := 148) rfl)) rfl
theorem mn_X11_allCome : Cond.instanceMethod yX11_allCome ∈ tp_W := tp_W_of (tm_6 (List.mem_of_getElem? (i := 147) rfl)) rfl
theorem mse_X11_allCome : Cond.selects RX11 yX11_allCome yX11_allCome ∈ tp_W := tp_W_p (y := yX11_allCome) (n := 52) (List.mem_of_getElem? (i := 56) (by decide +kernel))
theorem mf_X11_allCome : tp_MV yX11_allCome (Cond.code yX11_allCome cX11_allCome 5 (some .boolean)) cX11_allCome 5 (some .boolean) 0 := ⟨⟨rfl, mc_X11_allCome, mi_X11, by decide +kernel, by decide⟩, mn_X11_allCome, mse_X11_allCome⟩
theorem mc_X11_net : Cond.code yX11_net cX11_net 5 (some .int) ∈ tp_W := tp_W_of (tm_6 (List.mem_of_getElem? (i := 114) rfl)) rfl
theorem mn_X11_net : Cond.instanceMethod yX11_net ∈ tp_W := tp_W_of (tm_6 (List.mem_of_getElem? (i := 112) rfl)) rfl
theorem mse_X11_net : Cond.selects RX11 yX11_net yX11_net ∈ tp_W := tp_W_of (tm_6 (List.mem_of_getElem? (i := 113) rfl)) rfl
theorem mf_X11_net : tp_MV yX11_net (Cond.code yX11_net cX11_net 5 (some .int)) cX11_net 5 (some .int) 0 := ⟨⟨rfl, mc_X11_net, mi_X11, by decide +kernel, by decide⟩, mn_X11_net, mse_X11_net⟩
theorem mc_X11_codes : Cond.code yX11_codes cX11_codes 2 none ∈ tp_W := tp_W_of (tm_6 (List.mem_of_getElem? (i := 171) rfl)) rfl
theorem mn_X11_codes : Cond.instanceMethod yX11_codes ∈ tp_W := tp_W_of (tm_6 (List.mem_of_getElem? (i := 170) rfl)) rfl
theorem mse_X11_codes : Cond.selects RX11 yX11_codes yX11_codes ∈ tp_W := tp_W_p (y := yX11_codes) (n := 52) (List.mem_of_getElem? (i := 60) (by decide +kernel))
theorem mf_X11_codes : tp_MV yX11_codes (Cond.code yX11_codes cX11_codes 2 none) cX11_codes 2 none 1 := ⟨⟨rfl, mc_X11_codes, mi_X11, by decide +kernel, by decide⟩, mn_X11_codes, mse_X11_codes⟩
theorem mc_X11_readsThing : Cond.code yX11_readsThing cX11_readsThing 2 (some .boolean) ∈ tp_W := tp_W_of (tm_6 (List.mem_of_getElem? (i := 167) rfl)) rfl
theorem mn_X11_readsThing : Cond.instanceMethod yX11_readsThing ∈ tp_W := tp_W_of (tm_6 (List.mem_of_getElem? (i := 166) rfl)) rfl
theorem mse_X11_readsThing : Cond.selects RX11 yX11_readsThing yX11_readsThing ∈ tp_W := tp_W_p (y := yX11_readsThing) (n := 52) (List.mem_of_getElem? (i := 59) (by decide +kernel))
theorem mf_X11_readsThing : tp_MV yX11_readsThing (Cond.code yX11_readsThing cX11_readsThing 2 (some .boolean)) cX11_readsThing 2 (some .boolean) 0 := ⟨⟨rfl, mc_X11_readsThing, mi_X11, by decide +kernel, by decide⟩, mn_X11_readsThing, mse_X11_readsThing⟩
theorem mc_X11_readsRank : Cond.code yX11_readsRank cX11_readsRank 4 (some .boolean) ∈ tp_W := tp_W_of (tm_6 (List.mem_of_getElem? (i := 163) rfl)) rfl
theorem mn_X11_readsRank : Cond.instanceMethod yX11_readsRank ∈ tp_W := tp_W_of (tm_6 (List.mem_of_getElem? (i := 162) rfl)) rfl
theorem mse_X11_readsRank : Cond.selects RX11 yX11_readsRank yX11_readsRank ∈ tp_W := tp_W_p (y := yX11_readsRank) (n := 52) (List.mem_of_getElem? (i := 58) (by decide +kernel))
theorem mf_X11_readsRank : tp_MV yX11_readsRank (Cond.code yX11_readsRank cX11_readsRank 4 (some .boolean)) cX11_readsRank 4 (some .boolean) 1 := ⟨⟨rfl, mc_X11_readsRank, mi_X11, by decide +kernel, by decide⟩, mn_X11_readsRank, mse_X11_readsRank⟩
theorem mc_X11_readsRule : Cond.code yX11_readsRule cX11_readsRule 3 (some .int) ∈ tp_W := tp_W_of (tm_6 (List.mem_of_getElem? (i := 159) rfl)) rfl
theorem mn_X11_readsRule : Cond.instanceMethod yX11_readsRule ∈ tp_W := tp_W_of (tm_6 (List.mem_of_getElem? (i := 158) rfl)) rfl
theorem mse_X11_readsRule : Cond.selects RX11 yX11_readsRule yX11_readsRule ∈ tp_W := tp_W_p (y := yX11_readsRule) (n := 52) (List.mem_of_getElem? (i := 57) (by decide +kernel))
theorem mf_X11_readsRule : tp_MV yX11_readsRule (Cond.code yX11_readsRule cX11_readsRule 3 (some .int)) cX11_readsRule 3 (some .int) 0 := ⟨⟨rfl, mc_X11_readsRule, mi_X11, by decide +kernel, by decide⟩, mn_X11_readsRule, mse_X11_readsRule⟩
theorem mc_X11_laysCode : Cond.code yX11_laysCode cX11_laysCode 4 none ∈ tp_W := tp_W_of (tm_6 (List.mem_of_getElem? (i := 239) rfl)) rfl
theorem mn_X11_laysCode : Cond.instanceMethod yX11_laysCode ∈ tp_W := tp_W_of (tm_6 (List.mem_of_getElem? (i := 238) rfl)) rfl
theorem mse_X11_laysCode : Cond.selects RX11 yX11_laysCode yX11_laysCode ∈ tp_W := tp_W_p (y := yX11_laysCode) (n := 52) (List.mem_of_getElem? (i := 64) (by decide +kernel))
theorem mf_X11_laysCode : tp_MV yX11_laysCode (Cond.code yX11_laysCode cX11_laysCode 4 none) cX11_laysCode 4 none 2 := ⟨⟨rfl, mc_X11_laysCode, mi_X11, by decide +kernel, by decide⟩, mn_X11_laysCode, mse_X11_laysCode⟩
theorem mc_X11_rule : Cond.code yX11_rule cX11_rule 2 (some .int) ∈ tp_W := tp_W_of (tm_6 (List.mem_of_getElem? (i := 155) rfl)) rfl
theorem mn_X11_rule : Cond.instanceMethod yX11_rule ∈ tp_W := tp_W_of (tm_6 (List.mem_of_getElem? (i := 153) rfl)) rfl
theorem mse_X11_rule : Cond.selects RX11 yX11_rule yX11_rule ∈ tp_W := tp_W_of (tm_6 (List.mem_of_getElem? (i := 154) rfl)) rfl
theorem mf_X11_rule : tp_MV yX11_rule (Cond.code yX11_rule cX11_rule 2 (some .int)) cX11_rule 2 (some .int) 0 := ⟨⟨rfl, mc_X11_rule, mi_X11, by decide +kernel, by decide⟩, mn_X11_rule, mse_X11_rule⟩
theorem mc_X11_worked : Cond.code yX11_worked cX11_worked 3 (some .int) ∈ tp_W := tp_W_of (tm_7 (List.mem_of_getElem? (i := 33) rfl)) rfl
theorem ms_X11_worked : Cond.static yX11_worked ∈ tp_W := tp_W_of (tm_7 (List.mem_of_getElem? (i := 32) rfl)) rfl
theorem mf_X11_worked : tp_MS yX11_worked (Cond.code yX11_worked cX11_worked 3 (some .int)) cX11_worked 3 (some .int) 3 := ⟨⟨rfl, mc_X11_worked, mi_X11, by decide +kernel, by decide⟩, ms_X11_worked⟩
theorem mc_X11_ruled : Cond.code yX11_ruled cX11_ruled 4 (some .int) ∈ tp_W := tp_W_of (tm_7 (List.mem_of_getElem? (i := 30) rfl)) rfl
theorem mn_X11_ruled : Cond.instanceMethod yX11_ruled ∈ tp_W := tp_W_of (tm_7 (List.mem_of_getElem? (i := 29) rfl)) rfl
theorem mse_X11_ruled : Cond.selects RX11 yX11_ruled yX11_ruled ∈ tp_W := tp_W_p (y := yX11_ruled) (n := 52) (List.mem_of_getElem? (i := 70) (by decide +kernel))
theorem mf_X11_ruled : tp_MV yX11_ruled (Cond.code yX11_ruled cX11_ruled 4 (some .int)) cX11_ruled 4 (some .int) 0 := ⟨⟨rfl, mc_X11_ruled, mi_X11, by decide +kernel, by decide⟩, mn_X11_ruled, mse_X11_ruled⟩
theorem mc_X11_turn : Cond.code yX11_turn cX11_turn 3 (some .int) ∈ tp_W := tp_W_of (tm_7 (List.mem_of_getElem? (i := 26) rfl)) rfl
theorem mn_X11_turn : Cond.instanceMethod yX11_turn ∈ tp_W := tp_W_of (tm_7 (List.mem_of_getElem? (i := 25) rfl)) rfl
theorem mse_X11_turn : Cond.selects RX11 yX11_turn yX11_turn ∈ tp_W := tp_W_p (y := yX11_turn) (n := 52) (List.mem_of_getElem? (i := 69) (by decide +kernel))
theorem mf_X11_turn : tp_MV yX11_turn (Cond.code yX11_turn cX11_turn 3 (some .int)) cX11_turn 3 (some .int) 2 := ⟨⟨rfl, mc_X11_turn, mi_X11, by decide +kernel, by decide⟩, mn_X11_turn, mse_X11_turn⟩
theorem mc_X11_laysFar : Cond.code yX11_laysFar cX11_laysFar 5 none ∈ tp_W := tp_W_of (tm_7 (List.mem_of_getElem? (i := 17) rfl)) rfl
theorem mn_X11_laysFar : Cond.instanceMethod yX11_laysFar ∈ tp_W := tp_W_of (tm_7 (List.mem_of_getElem? (i := 16) rfl)) rfl
theorem mse_X11_laysFar : Cond.selects RX11 yX11_laysFar yX11_laysFar ∈ tp_W := tp_W_p (y := yX11_laysFar) (n := 52) (List.mem_of_getElem? (i := 67) (by decide +kernel))
theorem mf_X11_laysFar : tp_MV yX11_laysFar (Cond.code yX11_laysFar cX11_laysFar 5 none) cX11_laysFar 5 none 1 := ⟨⟨rfl, mc_X11_laysFar, mi_X11, by decide +kernel, by decide⟩, mn_X11_laysFar, mse_X11_laysFar⟩
theorem mc_X11_post : Cond.code yX11_post cX11_post 3 (some .int) ∈ tp_W := tp_W_of (tm_7 (List.mem_of_getElem? (i := 4) rfl)) rfl
theorem mn_X11_post : Cond.instanceMethod yX11_post ∈ tp_W := tp_W_of (tm_7 (List.mem_of_getElem? (i := 2) rfl)) rfl
theorem mse_X11_post : Cond.selects RX11 yX11_post yX11_post ∈ tp_W := tp_W_of (tm_7 (List.mem_of_getElem? (i := 3) rfl)) rfl
theorem mf_X11_post : tp_MV yX11_post (Cond.code yX11_post cX11_post 3 (some .int)) cX11_post 3 (some .int) 2 := ⟨⟨rfl, mc_X11_post, mi_X11, by decide +kernel, by decide⟩, mn_X11_post, mse_X11_post⟩
theorem mc_X11_way : Cond.code yX11_way cX11_way 3 (some .int) ∈ tp_W := tp_W_of (tm_7 (List.mem_of_getElem? (i := 38) rfl)) rfl
theorem mn_X11_way : Cond.instanceMethod yX11_way ∈ tp_W := tp_W_of (tm_7 (List.mem_of_getElem? (i := 36) rfl)) rfl
theorem mse_X11_way : Cond.selects RX11 yX11_way yX11_way ∈ tp_W := tp_W_of (tm_7 (List.mem_of_getElem? (i := 37) rfl)) rfl
theorem mf_X11_way : tp_MV yX11_way (Cond.code yX11_way cX11_way 3 (some .int)) cX11_way 3 (some .int) 2 := ⟨⟨rfl, mc_X11_way, mi_X11, by decide +kernel, by decide⟩, mn_X11_way, mse_X11_way⟩
theorem mc_X11_sheet : Cond.code yX11_sheet cX11_sheet 8 (some .int) ∈ tp_W := tp_W_of (tm_7 (List.mem_of_getElem? (i := 46) rfl)) rfl
theorem mn_X11_sheet : Cond.instanceMethod yX11_sheet ∈ tp_W := tp_W_of (tm_7 (List.mem_of_getElem? (i := 44) rfl)) rfl
theorem mse_X11_sheet : Cond.selects RX11 yX11_sheet yX11_sheet ∈ tp_W := tp_W_of (tm_7 (List.mem_of_getElem? (i := 45) rfl)) rfl
theorem mf_X11_sheet : tp_MV yX11_sheet (Cond.code yX11_sheet cX11_sheet 8 (some .int)) cX11_sheet 8 (some .int) 4 := ⟨⟨rfl, mc_X11_sheet, mi_X11, by decide +kernel, by decide⟩, mn_X11_sheet, mse_X11_sheet⟩
theorem mc_X11_putsBy : Cond.code yX11_putsBy cX11_putsBy 2 none ∈ tp_W := tp_W_of (tm_7 (List.mem_of_getElem? (i := 67) rfl)) rfl
theorem mn_X11_putsBy : Cond.instanceMethod yX11_putsBy ∈ tp_W := tp_W_of (tm_7 (List.mem_of_getElem? (i := 66) rfl)) rfl
theorem mse_X11_putsBy : Cond.selects RX11 yX11_putsBy yX11_putsBy ∈ tp_W := tp_W_p (y := yX11_putsBy) (n := 52) (List.mem_of_getElem? (i := 74) (by decide +kernel))
theorem mf_X11_putsBy : tp_MV yX11_putsBy (Cond.code yX11_putsBy cX11_putsBy 2 none) cX11_putsBy 2 none 0 := ⟨⟨rfl, mc_X11_putsBy, mi_X11, by decide +kernel, by decide⟩, mn_X11_putsBy, mse_X11_putsBy⟩
theorem mc_X11_takesBack : Cond.code yX11_takesBack cX11_takesBack 2 none ∈ tp_W := tp_W_of (tm_7 (List.mem_of_getElem? (i := 59) rfl)) rfl
theorem mn_X11_takesBack : Cond.instanceMethod yX11_takesBack ∈ tp_W := tp_W_of (tm_7 (List.mem_of_getElem? (i := 58) rfl)) rfl
theorem mse_X11_takesBack : Cond.selects RX11 yX11_takesBack yX11_takesBack ∈ tp_W := tp_W_p (y := yX11_takesBack) (n := 52) (List.mem_of_getElem? (i := 73) (by decide +kernel))
theorem mf_X11_takesBack : tp_MV yX11_takesBack (Cond.code yX11_takesBack cX11_takesBack 2 none) cX11_takesBack 2 none 0 := ⟨⟨rfl, mc_X11_takesBack, mi_X11, by decide +kernel, by decide⟩, mn_X11_takesBack, mse_X11_takesBack⟩
theorem mc_X11_adds : Cond.code yX11_adds cX11_adds 3 (some .int) ∈ tp_W := tp_W_of (tm_7 (List.mem_of_getElem? (i := 80) rfl)) rfl
theorem mn_X11_adds : Cond.instanceMethod yX11_adds ∈ tp_W := tp_W_of (tm_7 (List.mem_of_getElem? (i := 79) rfl)) rfl
theorem mse_X11_adds : Cond.selects RX11 yX11_adds yX11_adds ∈ tp_W := tp_W_p (y := yX11_adds) (n := 52) (List.mem_of_getElem? (i := 77) (by decide +kernel))
theorem mf_X11_adds : tp_MV yX11_adds (Cond.code yX11_adds cX11_adds 3 (some .int)) cX11_adds 3 (some .int) 1 := ⟨⟨rfl, mc_X11_adds, mi_X11, by decide +kernel, by decide⟩, mn_X11_adds, mse_X11_adds⟩
theorem mc_X11_counted : Cond.code yX11_counted cX11_counted 2 (some .int) ∈ tp_W := tp_W_of (tm_7 (List.mem_of_getElem? (i := 76) rfl)) rfl
theorem mn_X11_counted : Cond.instanceMethod yX11_counted ∈ tp_W := tp_W_of (tm_7 (List.mem_of_getElem? (i := 75) rfl)) rfl
theorem mse_X11_counted : Cond.selects RX11 yX11_counted yX11_counted ∈ tp_W := tp_W_p (y := yX11_counted) (n := 52) (List.mem_of_getElem? (i := 76) (by decide +kernel))
theorem mf_X11_counted : tp_MV yX11_counted (Cond.code yX11_counted cX11_counted 2 (some .int)) cX11_counted 2 (some .int) 1 := ⟨⟨rfl, mc_X11_counted, mi_X11, by decide +kernel, by decide⟩, mn_X11_counted, mse_X11_counted⟩
theorem mc_X11_undo : Cond.code yX11_undo cX11_undo 1 (some .int) ∈ tp_W := tp_W_of (tm_7 (List.mem_of_getElem? (i := 55) rfl)) rfl
theorem mn_X11_undo : Cond.instanceMethod yX11_undo ∈ tp_W := tp_W_of (tm_7 (List.mem_of_getElem? (i := 53) rfl)) rfl
theorem mse_X11_undo : Cond.selects RX11 yX11_undo yX11_undo ∈ tp_W := tp_W_of (tm_7 (List.mem_of_getElem? (i := 54) rfl)) rfl
theorem mf_X11_undo : tp_MV yX11_undo (Cond.code yX11_undo cX11_undo 1 (some .int)) cX11_undo 1 (some .int) 0 := ⟨⟨rfl, mc_X11_undo, mi_X11, by decide +kernel, by decide⟩, mn_X11_undo, mse_X11_undo⟩
theorem mc_X11_comesTo : Cond.code yX11_comesTo cX11_comesTo 2 none ∈ tp_W := tp_W_of (tm_7 (List.mem_of_getElem? (i := 100) rfl)) rfl
theorem ms_X11_comesTo : Cond.static yX11_comesTo ∈ tp_W := tp_W_of (tm_7 (List.mem_of_getElem? (i := 99) rfl)) rfl
theorem mf_X11_comesTo : tp_MS yX11_comesTo (Cond.code yX11_comesTo cX11_comesTo 2 none) cX11_comesTo 2 none 2 := ⟨⟨rfl, mc_X11_comesTo, mi_X11, by decide +kernel, by decide⟩, ms_X11_comesTo⟩
theorem mc_X11_turnsPost : Cond.code yX11_turnsPost cX11_turnsPost 4 (some .int) ∈ tp_W := tp_W_of (tm_7 (List.mem_of_getElem? (i := 96) rfl)) rfl
theorem mn_X11_turnsPost : Cond.instanceMethod yX11_turnsPost ∈ tp_W := tp_W_of (tm_7 (List.mem_of_getElem? (i := 95) rfl)) rfl
theorem mse_X11_turnsPost : Cond.selects RX11 yX11_turnsPost yX11_turnsPost ∈ tp_W := tp_W_p (y := yX11_turnsPost) (n := 52) (List.mem_of_getElem? (i := 80) (by decide +kernel))
theorem mf_X11_turnsPost : tp_MV yX11_turnsPost (Cond.code yX11_turnsPost cX11_turnsPost 4 (some .int)) cX11_turnsPost 4 (some .int) 2 := ⟨⟨rfl, mc_X11_turnsPost, mi_X11, by decide +kernel, by decide⟩, mn_X11_turnsPost, mse_X11_turnsPost⟩
theorem mc_X11_stepFrom : Cond.code yX11_stepFrom cX11_stepFrom 4 (some .int) ∈ tp_W := tp_W_of (tm_7 (List.mem_of_getElem? (i := 92) rfl)) rfl
theorem mn_X11_stepFrom : Cond.instanceMethod yX11_stepFrom ∈ tp_W := tp_W_of (tm_7 (List.mem_of_getElem? (i := 91) rfl)) rfl
theorem mse_X11_stepFrom : Cond.selects RX11 yX11_stepFrom yX11_stepFrom ∈ tp_W := tp_W_p (y := yX11_stepFrom) (n := 52) (List.mem_of_getElem? (i := 79) (by decide +kernel))
theorem mf_X11_stepFrom : tp_MV yX11_stepFrom (Cond.code yX11_stepFrom cX11_stepFrom 4 (some .int)) cX11_stepFrom 4 (some .int) 2 := ⟨⟨rfl, mc_X11_stepFrom, mi_X11, by decide +kernel, by decide⟩, mn_X11_stepFrom, mse_X11_stepFrom⟩
theorem mc_X11_comesMany : Cond.code yX11_comesMany cX11_comesMany 4 (some .int) ∈ tp_W := tp_W_of (tm_7 (List.mem_of_getElem? (i := 71) rfl)) rfl
theorem mn_X11_comesMany : Cond.instanceMethod yX11_comesMany ∈ tp_W := tp_W_of (tm_7 (List.mem_of_getElem? (i := 70) rfl)) rfl
theorem mse_X11_comesMany : Cond.selects RX11 yX11_comesMany yX11_comesMany ∈ tp_W := tp_W_p (y := yX11_comesMany) (n := 52) (List.mem_of_getElem? (i := 75) (by decide +kernel))
theorem mf_X11_comesMany : tp_MV yX11_comesMany (Cond.code yX11_comesMany cX11_comesMany 4 (some .int)) cX11_comesMany 4 (some .int) 3 := ⟨⟨rfl, mc_X11_comesMany, mi_X11, by decide +kernel, by decide⟩, mn_X11_comesMany, mse_X11_comesMany⟩
theorem mc_X11_goesOne : Cond.code yX11_goesOne cX11_goesOne 3 (some .int) ∈ tp_W := tp_W_of (tm_7 (List.mem_of_getElem? (i := 88) rfl)) rfl
theorem mn_X11_goesOne : Cond.instanceMethod yX11_goesOne ∈ tp_W := tp_W_of (tm_7 (List.mem_of_getElem? (i := 87) rfl)) rfl
theorem mse_X11_goesOne : Cond.selects RX11 yX11_goesOne yX11_goesOne ∈ tp_W := tp_W_p (y := yX11_goesOne) (n := 52) (List.mem_of_getElem? (i := 78) (by decide +kernel))
theorem mf_X11_goesOne : tp_MV yX11_goesOne (Cond.code yX11_goesOne cX11_goesOne 3 (some .int)) cX11_goesOne 3 (some .int) 2 := ⟨⟨rfl, mc_X11_goesOne, mi_X11, by decide +kernel, by decide⟩, mn_X11_goesOne, mse_X11_goesOne⟩
theorem mc_X11_walksOne : Cond.code yX11_walksOne cX11_walksOne 4 (some .int) ∈ tp_W := tp_W_of (tm_7 (List.mem_of_getElem? (i := 112) rfl)) rfl
theorem mn_X11_walksOne : Cond.instanceMethod yX11_walksOne ∈ tp_W := tp_W_of (tm_7 (List.mem_of_getElem? (i := 111) rfl)) rfl
theorem mse_X11_walksOne : Cond.selects RX11 yX11_walksOne yX11_walksOne ∈ tp_W := tp_W_p (y := yX11_walksOne) (n := 52) (List.mem_of_getElem? (i := 82) (by decide +kernel))
theorem mf_X11_walksOne : tp_MV yX11_walksOne (Cond.code yX11_walksOne cX11_walksOne 4 (some .int)) cX11_walksOne 4 (some .int) 1 := ⟨⟨rfl, mc_X11_walksOne, mi_X11, by decide +kernel, by decide⟩, mn_X11_walksOne, mse_X11_walksOne⟩
theorem mc_X11_burstsBy : Cond.code yX11_burstsBy cX11_burstsBy 4 none ∈ tp_W := tp_W_of (tm_7 (List.mem_of_getElem? (i := 127) rfl)) rfl
theorem mn_X11_burstsBy : Cond.instanceMethod yX11_burstsBy ∈ tp_W := tp_W_of (tm_7 (List.mem_of_getElem? (i := 126) rfl)) rfl
theorem mse_X11_burstsBy : Cond.selects RX11 yX11_burstsBy yX11_burstsBy ∈ tp_W := tp_W_p (y := yX11_burstsBy) (n := 52) (List.mem_of_getElem? (i := 84) (by decide +kernel))
theorem mf_X11_burstsBy : tp_MV yX11_burstsBy (Cond.code yX11_burstsBy cX11_burstsBy 4 none) cX11_burstsBy 4 none 2 := ⟨⟨rfl, mc_X11_burstsBy, mi_X11, by decide +kernel, by decide⟩, mn_X11_burstsBy, mse_X11_burstsBy⟩
theorem mc_X11_burstsOne : Cond.code yX11_burstsOne cX11_burstsOne 3 (some .int) ∈ tp_W := tp_W_of (tm_7 (List.mem_of_getElem? (i := 123) rfl)) rfl
theorem mn_X11_burstsOne : Cond.instanceMethod yX11_burstsOne ∈ tp_W := tp_W_of (tm_7 (List.mem_of_getElem? (i := 122) rfl)) rfl
theorem mse_X11_burstsOne : Cond.selects RX11 yX11_burstsOne yX11_burstsOne ∈ tp_W := tp_W_p (y := yX11_burstsOne) (n := 52) (List.mem_of_getElem? (i := 83) (by decide +kernel))
theorem mf_X11_burstsOne : tp_MV yX11_burstsOne (Cond.code yX11_burstsOne cX11_burstsOne 3 (some .int)) cX11_burstsOne 3 (some .int) 2 := ⟨⟨rfl, mc_X11_burstsOne, mi_X11, by decide +kernel, by decide⟩, mn_X11_burstsOne, mse_X11_burstsOne⟩
theorem mc_X11_calmed : Cond.code yX11_calmed cX11_calmed 5 (some .int) ∈ tp_W := tp_W_of (tm_7 (List.mem_of_getElem? (i := 139) rfl)) rfl
theorem mn_X11_calmed : Cond.instanceMethod yX11_calmed ∈ tp_W := tp_W_of (tm_7 (List.mem_of_getElem? (i := 138) rfl)) rfl
theorem mse_X11_calmed : Cond.selects RX11 yX11_calmed yX11_calmed ∈ tp_W := tp_W_p (y := yX11_calmed) (n := 52) (List.mem_of_getElem? (i := 86) (by decide +kernel))
theorem mf_X11_calmed : tp_MV yX11_calmed (Cond.code yX11_calmed cX11_calmed 5 (some .int)) cX11_calmed 5 (some .int) 1 := ⟨⟨rfl, mc_X11_calmed, mi_X11, by decide +kernel, by decide⟩, mn_X11_calmed, mse_X11_calmed⟩
theorem mc_X11_calmsAll : Cond.code yX11_calmsAll cX11_calmsAll 2 (some .int) ∈ tp_W := tp_W_of (tm_7 (List.mem_of_getElem? (i := 135) rfl)) rfl
theorem mn_X11_calmsAll : Cond.instanceMethod yX11_calmsAll ∈ tp_W := tp_W_of (tm_7 (List.mem_of_getElem? (i := 134) rfl)) rfl
theorem mse_X11_calmsAll : Cond.selects RX11 yX11_calmsAll yX11_calmsAll ∈ tp_W := tp_W_p (y := yX11_calmsAll) (n := 52) (List.mem_of_getElem? (i := 85) (by decide +kernel))
theorem mf_X11_calmsAll : tp_MV yX11_calmsAll (Cond.code yX11_calmsAll cX11_calmsAll 2 (some .int)) cX11_calmsAll 2 (some .int) 0 := ⟨⟨rfl, mc_X11_calmsAll, mi_X11, by decide +kernel, by decide⟩, mn_X11_calmsAll, mse_X11_calmsAll⟩
theorem mc_X11_pointsTo : Cond.code yX11_pointsTo cX11_pointsTo 4 (some .int) ∈ tp_W := tp_W_of (tm_7 (List.mem_of_getElem? (i := 147) rfl)) rfl
theorem mn_X11_pointsTo : Cond.instanceMethod yX11_pointsTo ∈ tp_W := tp_W_of (tm_7 (List.mem_of_getElem? (i := 146) rfl)) rfl
theorem mse_X11_pointsTo : Cond.selects RX11 yX11_pointsTo yX11_pointsTo ∈ tp_W := tp_W_p (y := yX11_pointsTo) (n := 52) (List.mem_of_getElem? (i := 87) (by decide +kernel))
theorem mf_X11_pointsTo : tp_MV yX11_pointsTo (Cond.code yX11_pointsTo cX11_pointsTo 4 (some .int)) cX11_pointsTo 4 (some .int) 2 := ⟨⟨rfl, mc_X11_pointsTo, mi_X11, by decide +kernel, by decide⟩, mn_X11_pointsTo, mse_X11_pointsTo⟩
theorem mc_X11_comes : Cond.code yX11_comes cX11_comes 3 (some .int) ∈ tp_W := tp_W_of (tm_7 (List.mem_of_getElem? (i := 63) rfl)) rfl
theorem mn_X11_comes : Cond.instanceMethod yX11_comes ∈ tp_W := tp_W_of (tm_7 (List.mem_of_getElem? (i := 61) rfl)) rfl
theorem mse_X11_comes : Cond.selects RX11 yX11_comes yX11_comes ∈ tp_W := tp_W_of (tm_7 (List.mem_of_getElem? (i := 62) rfl)) rfl
theorem mf_X11_comes : tp_MV yX11_comes (Cond.code yX11_comes cX11_comes 3 (some .int)) cX11_comes 3 (some .int) 2 := ⟨⟨rfl, mc_X11_comes, mi_X11, by decide +kernel, by decide⟩, mn_X11_comes, mse_X11_comes⟩
theorem mc_X11_goes : Cond.code yX11_goes cX11_goes 3 (some .int) ∈ tp_W := tp_W_of (tm_7 (List.mem_of_getElem? (i := 84) rfl)) rfl
theorem mn_X11_goes : Cond.instanceMethod yX11_goes ∈ tp_W := tp_W_of (tm_7 (List.mem_of_getElem? (i := 82) rfl)) rfl
theorem mse_X11_goes : Cond.selects RX11 yX11_goes yX11_goes ∈ tp_W := tp_W_of (tm_7 (List.mem_of_getElem? (i := 83) rfl)) rfl
theorem mf_X11_goes : tp_MV yX11_goes (Cond.code yX11_goes cX11_goes 3 (some .int)) cX11_goes 3 (some .int) 1 := ⟨⟨rfl, mc_X11_goes, mi_X11, by decide +kernel, by decide⟩, mn_X11_goes, mse_X11_goes⟩
theorem mc_X11_walks : Cond.code yX11_walks cX11_walks 3 (some .int) ∈ tp_W := tp_W_of (tm_7 (List.mem_of_getElem? (i := 108) rfl)) rfl
theorem mn_X11_walks : Cond.instanceMethod yX11_walks ∈ tp_W := tp_W_of (tm_7 (List.mem_of_getElem? (i := 106) rfl)) rfl
theorem mse_X11_walks : Cond.selects RX11 yX11_walks yX11_walks ∈ tp_W := tp_W_of (tm_7 (List.mem_of_getElem? (i := 107) rfl)) rfl
theorem mf_X11_walks : tp_MV yX11_walks (Cond.code yX11_walks cX11_walks 3 (some .int)) cX11_walks 3 (some .int) 1 := ⟨⟨rfl, mc_X11_walks, mi_X11, by decide +kernel, by decide⟩, mn_X11_walks, mse_X11_walks⟩
theorem mc_X11_bursts : Cond.code yX11_bursts cX11_bursts 2 (some .int) ∈ tp_W := tp_W_of (tm_7 (List.mem_of_getElem? (i := 119) rfl)) rfl
theorem mn_X11_bursts : Cond.instanceMethod yX11_bursts ∈ tp_W := tp_W_of (tm_7 (List.mem_of_getElem? (i := 117) rfl)) rfl
theorem mse_X11_bursts : Cond.selects RX11 yX11_bursts yX11_bursts ∈ tp_W := tp_W_of (tm_7 (List.mem_of_getElem? (i := 118) rfl)) rfl
theorem mf_X11_bursts : tp_MV yX11_bursts (Cond.code yX11_bursts cX11_bursts 2 (some .int)) cX11_bursts 2 (some .int) 1 := ⟨⟨rfl, mc_X11_bursts, mi_X11, by decide +kernel, by decide⟩, mn_X11_bursts, mse_X11_bursts⟩
theorem mc_X11_calms : Cond.code yX11_calms cX11_calms 3 (some .int) ∈ tp_W := tp_W_of (tm_7 (List.mem_of_getElem? (i := 131) rfl)) rfl
theorem mn_X11_calms : Cond.instanceMethod yX11_calms ∈ tp_W := tp_W_of (tm_7 (List.mem_of_getElem? (i := 129) rfl)) rfl
theorem mse_X11_calms : Cond.selects RX11 yX11_calms yX11_calms ∈ tp_W := tp_W_of (tm_7 (List.mem_of_getElem? (i := 130) rfl)) rfl
theorem mf_X11_calms : tp_MV yX11_calms (Cond.code yX11_calms cX11_calms 3 (some .int)) cX11_calms 3 (some .int) 0 := ⟨⟨rfl, mc_X11_calms, mi_X11, by decide +kernel, by decide⟩, mn_X11_calms, mse_X11_calms⟩
theorem mc_X11_points : Cond.code yX11_points cX11_points 3 (some .int) ∈ tp_W := tp_W_of (tm_7 (List.mem_of_getElem? (i := 143) rfl)) rfl
theorem mn_X11_points : Cond.instanceMethod yX11_points ∈ tp_W := tp_W_of (tm_7 (List.mem_of_getElem? (i := 141) rfl)) rfl
theorem mse_X11_points : Cond.selects RX11 yX11_points yX11_points ∈ tp_W := tp_W_of (tm_7 (List.mem_of_getElem? (i := 142) rfl)) rfl
theorem mf_X11_points : tp_MV yX11_points (Cond.code yX11_points cX11_points 3 (some .int)) cX11_points 3 (some .int) 2 := ⟨⟨rfl, mc_X11_points, mi_X11, by decide +kernel, by decide⟩, mn_X11_points, mse_X11_points⟩
theorem mc_X11_readsAct : Cond.code yX11_readsAct cX11_readsAct 2 (some .boolean) ∈ tp_W := tp_W_of (tm_7 (List.mem_of_getElem? (i := 155) rfl)) rfl
theorem mn_X11_readsAct : Cond.instanceMethod yX11_readsAct ∈ tp_W := tp_W_of (tm_7 (List.mem_of_getElem? (i := 154) rfl)) rfl
theorem mse_X11_readsAct : Cond.selects RX11 yX11_readsAct yX11_readsAct ∈ tp_W := tp_W_p (y := yX11_readsAct) (n := 52) (List.mem_of_getElem? (i := 88) (by decide +kernel))
theorem mf_X11_readsAct : tp_MV yX11_readsAct (Cond.code yX11_readsAct cX11_readsAct 2 (some .boolean)) cX11_readsAct 2 (some .boolean) 0 := ⟨⟨rfl, mc_X11_readsAct, mi_X11, by decide +kernel, by decide⟩, mn_X11_readsAct, mse_X11_readsAct⟩
theorem mc_X11_does : Cond.code yX11_does cX11_does 3 (some .boolean) ∈ tp_W := tp_W_of (tm_7 (List.mem_of_getElem? (i := 160) rfl)) rfl
theorem mn_X11_does : Cond.instanceMethod yX11_does ∈ tp_W := tp_W_of (tm_7 (List.mem_of_getElem? (i := 159) rfl)) rfl
theorem mse_X11_does : Cond.selects RX11 yX11_does yX11_does ∈ tp_W := tp_W_p (y := yX11_does) (n := 52) (List.mem_of_getElem? (i := 89) (by decide +kernel))
theorem mf_X11_does : tp_MV yX11_does (Cond.code yX11_does cX11_does 3 (some .boolean)) cX11_does 3 (some .boolean) 1 := ⟨⟨rfl, mc_X11_does, mi_X11, by decide +kernel, by decide⟩, mn_X11_does, mse_X11_does⟩
theorem mc_X11_day : Cond.code yX11_day cX11_day 5 (some .int) ∈ tp_W := tp_W_of (tm_7 (List.mem_of_getElem? (i := 151) rfl)) rfl
theorem mn_X11_day : Cond.instanceMethod yX11_day ∈ tp_W := tp_W_of (tm_7 (List.mem_of_getElem? (i := 149) rfl)) rfl
theorem mse_X11_day : Cond.selects RX11 yX11_day yX11_day ∈ tp_W := tp_W_of (tm_7 (List.mem_of_getElem? (i := 150) rfl)) rfl
theorem mf_X11_day : tp_MV yX11_day (Cond.code yX11_day cX11_day 5 (some .int)) cX11_day 5 (some .int) 0 := ⟨⟨rfl, mc_X11_day, mi_X11, by decide +kernel, by decide⟩, mn_X11_day, mse_X11_day⟩
theorem mc_X11_stepOf : Cond.code yX11_stepOf cX11_stepOf 4 (some .int) ∈ tp_W := tp_W_of (tm_7 (List.mem_of_getElem? (i := 172) rfl)) rfl
theorem mn_X11_stepOf : Cond.instanceMethod yX11_stepOf ∈ tp_W := tp_W_of (tm_7 (List.mem_of_getElem? (i := 171) rfl)) rfl
theorem mse_X11_stepOf : Cond.selects RX11 yX11_stepOf yX11_stepOf ∈ tp_W := tp_W_p (y := yX11_stepOf) (n := 52) (List.mem_of_getElem? (i := 91) (by decide +kernel))
theorem mf_X11_stepOf : tp_MV yX11_stepOf (Cond.code yX11_stepOf cX11_stepOf 4 (some .int)) cX11_stepOf 4 (some .int) 2 := ⟨⟨rfl, mc_X11_stepOf, mi_X11, by decide +kernel, by decide⟩, mn_X11_stepOf, mse_X11_stepOf⟩
theorem mc_X11_walkOf : Cond.code yX11_walkOf cX11_walkOf 5 (some .int) ∈ tp_W := tp_W_of (tm_7 (List.mem_of_getElem? (i := 180) rfl)) rfl
theorem mn_X11_walkOf : Cond.instanceMethod yX11_walkOf ∈ tp_W := tp_W_of (tm_7 (List.mem_of_getElem? (i := 179) rfl)) rfl
theorem mse_X11_walkOf : Cond.selects RX11 yX11_walkOf yX11_walkOf ∈ tp_W := tp_W_p (y := yX11_walkOf) (n := 52) (List.mem_of_getElem? (i := 92) (by decide +kernel))
theorem mf_X11_walkOf : tp_MV yX11_walkOf (Cond.code yX11_walkOf cX11_walkOf 5 (some .int)) cX11_walkOf 5 (some .int) 1 := ⟨⟨rfl, mc_X11_walkOf, mi_X11, by decide +kernel, by decide⟩, mn_X11_walkOf, mse_X11_walkOf⟩
theorem mc_X11_placeAfter : Cond.code yX11_placeAfter cX11_placeAfter 4 (some .int) ∈ tp_W := tp_W_of (tm_7 (List.mem_of_getElem? (i := 168) rfl)) rfl
theorem mn_X11_placeAfter : Cond.instanceMethod yX11_placeAfter ∈ tp_W := tp_W_of (tm_7 (List.mem_of_getElem? (i := 167) rfl)) rfl
theorem mse_X11_placeAfter : Cond.selects RX11 yX11_placeAfter yX11_placeAfter ∈ tp_W := tp_W_p (y := yX11_placeAfter) (n := 52) (List.mem_of_getElem? (i := 90) (by decide +kernel))
theorem mf_X11_placeAfter : tp_MV yX11_placeAfter (Cond.code yX11_placeAfter cX11_placeAfter 4 (some .int)) cX11_placeAfter 4 (some .int) 2 := ⟨⟨rfl, mc_X11_placeAfter, mi_X11, by decide +kernel, by decide⟩, mn_X11_placeAfter, mse_X11_placeAfter⟩
theorem mc_X11_later : Cond.code yX11_later cX11_later 4 (some .int) ∈ tp_W := tp_W_of (tm_7 (List.mem_of_getElem? (i := 164) rfl)) rfl
theorem mn_X11_later : Cond.instanceMethod yX11_later ∈ tp_W := tp_W_of (tm_7 (List.mem_of_getElem? (i := 162) rfl)) rfl
theorem mse_X11_later : Cond.selects RX11 yX11_later yX11_later ∈ tp_W := tp_W_of (tm_7 (List.mem_of_getElem? (i := 163) rfl)) rfl
theorem mf_X11_later : tp_MV yX11_later (Cond.code yX11_later cX11_later 4 (some .int)) cX11_later 4 (some .int) 2 := ⟨⟨rfl, mc_X11_later, mi_X11, by decide +kernel, by decide⟩, mn_X11_later, mse_X11_later⟩
theorem mc_X11_home : Cond.code yX11_home cX11_home 4 (some .int) ∈ tp_W := tp_W_of (tm_7 (List.mem_of_getElem? (i := 176) rfl)) rfl
theorem mn_X11_home : Cond.instanceMethod yX11_home ∈ tp_W := tp_W_of (tm_7 (List.mem_of_getElem? (i := 174) rfl)) rfl
theorem mse_X11_home : Cond.selects RX11 yX11_home yX11_home ∈ tp_W := tp_W_of (tm_7 (List.mem_of_getElem? (i := 175) rfl)) rfl
theorem mf_X11_home : tp_MV yX11_home (Cond.code yX11_home cX11_home 4 (some .int)) cX11_home 4 (some .int) 1 := ⟨⟨rfl, mc_X11_home, mi_X11, by decide +kernel, by decide⟩, mn_X11_home, mse_X11_home⟩
theorem mc_X11_pass : Cond.code yX11_pass cX11_pass 8 (some .int) ∈ tp_W := tp_W_of (tm_7 (List.mem_of_getElem? (i := 184) rfl)) rfl
theorem mn_X11_pass : Cond.instanceMethod yX11_pass ∈ tp_W := tp_W_of (tm_7 (List.mem_of_getElem? (i := 182) rfl)) rfl
theorem mse_X11_pass : Cond.selects RX11 yX11_pass yX11_pass ∈ tp_W := tp_W_of (tm_7 (List.mem_of_getElem? (i := 183) rfl)) rfl
theorem mf_X11_pass : tp_MV yX11_pass (Cond.code yX11_pass cX11_pass 8 (some .int)) cX11_pass 8 (some .int) 3 := ⟨⟨rfl, mc_X11_pass, mi_X11, by decide +kernel, by decide⟩, mn_X11_pass, mse_X11_pass⟩
theorem mc_X11_arePosts : Cond.code yX11_arePosts cX11_arePosts 5 (some .boolean) ∈ tp_W := tp_W_of (tm_7 (List.mem_of_getElem? (i := 193) rfl)) rfl
theorem mn_X11_arePosts : Cond.instanceMethod yX11_arePosts ∈ tp_W := tp_W_of (tm_7 (List.mem_of_getElem? (i := 192) rfl)) rfl
theorem mse_X11_arePosts : Cond.selects RX11 yX11_arePosts yX11_arePosts ∈ tp_W := tp_W_p (y := yX11_arePosts) (n := 52) (List.mem_of_getElem? (i := 93) (by decide +kernel))
theorem mf_X11_arePosts : tp_MV yX11_arePosts (Cond.code yX11_arePosts cX11_arePosts 5 (some .boolean)) cX11_arePosts 5 (some .boolean) 2 := ⟨⟨rfl, mc_X11_arePosts, mi_X11, by decide +kernel, by decide⟩, mn_X11_arePosts, mse_X11_arePosts⟩
theorem mc_X11_round : Cond.code yX11_round cX11_round 5 (some .int) ∈ tp_W := tp_W_of (tm_7 (List.mem_of_getElem? (i := 189) rfl)) rfl
theorem mn_X11_round : Cond.instanceMethod yX11_round ∈ tp_W := tp_W_of (tm_7 (List.mem_of_getElem? (i := 187) rfl)) rfl
theorem mse_X11_round : Cond.selects RX11 yX11_round yX11_round ∈ tp_W := tp_W_of (tm_7 (List.mem_of_getElem? (i := 188) rfl)) rfl
theorem mf_X11_round : tp_MV yX11_round (Cond.code yX11_round cX11_round 5 (some .int)) cX11_round 5 (some .int) 1 := ⟨⟨rfl, mc_X11_round, mi_X11, by decide +kernel, by decide⟩, mn_X11_round, mse_X11_round⟩
theorem mc_X11_follows : Cond.code yX11_follows cX11_follows 5 (some .int) ∈ tp_W := tp_W_of (tm_7 (List.mem_of_getElem? (i := 197) rfl)) rfl
theorem mn_X11_follows : Cond.instanceMethod yX11_follows ∈ tp_W := tp_W_of (tm_7 (List.mem_of_getElem? (i := 195) rfl)) rfl
theorem mse_X11_follows : Cond.selects RX11 yX11_follows yX11_follows ∈ tp_W := tp_W_of (tm_7 (List.mem_of_getElem? (i := 196) rfl)) rfl
theorem mf_X11_follows : tp_MV yX11_follows (Cond.code yX11_follows cX11_follows 5 (some .int)) cX11_follows 5 (some .int) 1 := ⟨⟨rfl, mc_X11_follows, mi_X11, by decide +kernel, by decide⟩, mn_X11_follows, mse_X11_follows⟩
theorem mc_X11_comesBy : Cond.code yX11_comesBy cX11_comesBy 6 (some .int) ∈ tp_W := tp_W_of (tm_7 (List.mem_of_getElem? (i := 205) rfl)) rfl
theorem mn_X11_comesBy : Cond.instanceMethod yX11_comesBy ∈ tp_W := tp_W_of (tm_7 (List.mem_of_getElem? (i := 204) rfl)) rfl
theorem mse_X11_comesBy : Cond.selects RX11 yX11_comesBy yX11_comesBy ∈ tp_W := tp_W_p (y := yX11_comesBy) (n := 52) (List.mem_of_getElem? (i := 94) (by decide +kernel))
theorem mf_X11_comesBy : tp_MV yX11_comesBy (Cond.code yX11_comesBy cX11_comesBy 6 (some .int)) cX11_comesBy 6 (some .int) 1 := ⟨⟨rfl, mc_X11_comesBy, mi_X11, by decide +kernel, by decide⟩, mn_X11_comesBy, mse_X11_comesBy⟩
theorem mc_X11_ringsBy : Cond.code yX11_ringsBy cX11_ringsBy 6 (some .int) ∈ tp_W := tp_W_of (tm_7 (List.mem_of_getElem? (i := 209) rfl)) rfl
theorem mn_X11_ringsBy : Cond.instanceMethod yX11_ringsBy ∈ tp_W := tp_W_of (tm_7 (List.mem_of_getElem? (i := 208) rfl)) rfl
theorem mse_X11_ringsBy : Cond.selects RX11 yX11_ringsBy yX11_ringsBy ∈ tp_W := tp_W_p (y := yX11_ringsBy) (n := 52) (List.mem_of_getElem? (i := 95) (by decide +kernel))
theorem mf_X11_ringsBy : tp_MV yX11_ringsBy (Cond.code yX11_ringsBy cX11_ringsBy 6 (some .int)) cX11_ringsBy 6 (some .int) 1 := ⟨⟨rfl, mc_X11_ringsBy, mi_X11, by decide +kernel, by decide⟩, mn_X11_ringsBy, mse_X11_ringsBy⟩
theorem mc_X11_tree : Cond.code yX11_tree cX11_tree 2 (some .int) ∈ tp_W := tp_W_of (tm_7 (List.mem_of_getElem? (i := 201) rfl)) rfl
theorem mn_X11_tree : Cond.instanceMethod yX11_tree ∈ tp_W := tp_W_of (tm_7 (List.mem_of_getElem? (i := 199) rfl)) rfl
theorem mse_X11_tree : Cond.selects RX11 yX11_tree yX11_tree ∈ tp_W := tp_W_of (tm_7 (List.mem_of_getElem? (i := 200) rfl)) rfl
theorem mf_X11_tree : tp_MV yX11_tree (Cond.code yX11_tree cX11_tree 2 (some .int)) cX11_tree 2 (some .int) 0 := ⟨⟨rfl, mc_X11_tree, mi_X11, by decide +kernel, by decide⟩, mn_X11_tree, mse_X11_tree⟩
theorem mc_X11_settings : Cond.code yX11_settings cX11_settings 3 (some .int) ∈ tp_W := tp_W_of (tm_7 (List.mem_of_getElem? (i := 217) rfl)) rfl
theorem mn_X11_settings : Cond.instanceMethod yX11_settings ∈ tp_W := tp_W_of (tm_7 (List.mem_of_getElem? (i := 216) rfl)) rfl
theorem mse_X11_settings : Cond.selects RX11 yX11_settings yX11_settings ∈ tp_W := tp_W_p (y := yX11_settings) (n := 52) (List.mem_of_getElem? (i := 96) (by decide +kernel))
theorem mf_X11_settings : tp_MV yX11_settings (Cond.code yX11_settings cX11_settings 3 (some .int)) cX11_settings 3 (some .int) 0 := ⟨⟨rfl, mc_X11_settings, mi_X11, by decide +kernel, by decide⟩, mn_X11_settings, mse_X11_settings⟩
theorem mc_X11_laysSetting : Cond.code yX11_laysSetting cX11_laysSetting 4 (some .boolean) ∈ tp_W := tp_W_of (tm_7 (List.mem_of_getElem? (i := 221) rfl)) rfl
theorem mn_X11_laysSetting : Cond.instanceMethod yX11_laysSetting ∈ tp_W := tp_W_of (tm_7 (List.mem_of_getElem? (i := 220) rfl)) rfl
theorem mse_X11_laysSetting : Cond.selects RX11 yX11_laysSetting yX11_laysSetting ∈ tp_W := tp_W_p (y := yX11_laysSetting) (n := 52) (List.mem_of_getElem? (i := 97) (by decide +kernel))
theorem mf_X11_laysSetting : tp_MV yX11_laysSetting (Cond.code yX11_laysSetting cX11_laysSetting 4 (some .boolean)) cX11_laysSetting 4 (some .boolean) 1 := ⟨⟨rfl, mc_X11_laysSetting, mi_X11, by decide +kernel, by decide⟩, mn_X11_laysSetting, mse_X11_laysSetting⟩
theorem mc_X11_entersPosts : Cond.code yX11_entersPosts cX11_entersPosts 3 none ∈ tp_W := tp_W_of (tm_7 (List.mem_of_getElem? (i := 230) rfl)) rfl
theorem mn_X11_entersPosts : Cond.instanceMethod yX11_entersPosts ∈ tp_W := tp_W_of (tm_7 (List.mem_of_getElem? (i := 229) rfl)) rfl
theorem mse_X11_entersPosts : Cond.selects RX11 yX11_entersPosts yX11_entersPosts ∈ tp_W := tp_W_p (y := yX11_entersPosts) (n := 52) (List.mem_of_getElem? (i := 98) (by decide +kernel))
theorem mf_X11_entersPosts : tp_MV yX11_entersPosts (Cond.code yX11_entersPosts cX11_entersPosts 3 none) cX11_entersPosts 3 none 1 := ⟨⟨rfl, mc_X11_entersPosts, mi_X11, by decide +kernel, by decide⟩, mn_X11_entersPosts, mse_X11_entersPosts⟩
theorem mc_X11_trees : Cond.code yX11_trees cX11_trees 3 (some .int) ∈ tp_W := tp_W_of (tm_7 (List.mem_of_getElem? (i := 213) rfl)) rfl
theorem mn_X11_trees : Cond.instanceMethod yX11_trees ∈ tp_W := tp_W_of (tm_7 (List.mem_of_getElem? (i := 211) rfl)) rfl
theorem mse_X11_trees : Cond.selects RX11 yX11_trees yX11_trees ∈ tp_W := tp_W_of (tm_7 (List.mem_of_getElem? (i := 212) rfl)) rfl
theorem mf_X11_trees : tp_MV yX11_trees (Cond.code yX11_trees cX11_trees 3 (some .int)) cX11_trees 3 (some .int) 0 := ⟨⟨rfl, mc_X11_trees, mi_X11, by decide +kernel, by decide⟩, mn_X11_trees, mse_X11_trees⟩
theorem mc_X11_plants : Cond.code yX11_plants cX11_plants 4 (some .int) ∈ tp_W := tp_W_of (tm_7 (List.mem_of_getElem? (i := 225) rfl)) rfl
theorem mn_X11_plants : Cond.instanceMethod yX11_plants ∈ tp_W := tp_W_of (tm_7 (List.mem_of_getElem? (i := 223) rfl)) rfl
theorem mse_X11_plants : Cond.selects RX11 yX11_plants yX11_plants ∈ tp_W := tp_W_of (tm_7 (List.mem_of_getElem? (i := 224) rfl)) rfl
theorem mf_X11_plants : tp_MV yX11_plants (Cond.code yX11_plants cX11_plants 4 (some .int)) cX11_plants 4 (some .int) 1 := ⟨⟨rfl, mc_X11_plants, mi_X11, by decide +kernel, by decide⟩, mn_X11_plants, mse_X11_plants⟩
theorem mc_X11_grown : Cond.code yX11_grown cX11_grown 3 (some .int) ∈ tp_W := tp_W_of (tm_7 (List.mem_of_getElem? (i := 234) rfl)) rfl
theorem mn_X11_grown : Cond.instanceMethod yX11_grown ∈ tp_W := tp_W_of (tm_7 (List.mem_of_getElem? (i := 232) rfl)) rfl
theorem mse_X11_grown : Cond.selects RX11 yX11_grown yX11_grown ∈ tp_W := tp_W_of (tm_7 (List.mem_of_getElem? (i := 233) rfl)) rfl
theorem mf_X11_grown : tp_MV yX11_grown (Cond.code yX11_grown cX11_grown 3 (some .int)) cX11_grown 3 (some .int) 0 := ⟨⟨rfl, mc_X11_grown, mi_X11, by decide +kernel, by decide⟩, mn_X11_grown, mse_X11_grown⟩
theorem mc_X11_mends : Cond.code yX11_mends cX11_mends 7 (some .int) ∈ tp_W := tp_W_of (tm_7 (List.mem_of_getElem? (i := 238) rfl)) rfl
theorem mn_X11_mends : Cond.instanceMethod yX11_mends ∈ tp_W := tp_W_of (tm_7 (List.mem_of_getElem? (i := 236) rfl)) rfl
theorem mse_X11_mends : Cond.selects RX11 yX11_mends yX11_mends ∈ tp_W := tp_W_of (tm_7 (List.mem_of_getElem? (i := 237) rfl)) rfl
theorem mf_X11_mends : tp_MV yX11_mends (Cond.code yX11_mends cX11_mends 7 (some .int)) cX11_mends 7 (some .int) 0 := ⟨⟨rfl, mc_X11_mends, mi_X11, by decide +kernel, by decide⟩, mn_X11_mends, mse_X11_mends⟩
theorem mc_X11_route : Cond.code yX11_route cX11_route 7 (some .int) ∈ tp_W := tp_W_of (tm_8 (List.mem_of_getElem? (i := 2) rfl)) rfl
theorem mn_X11_route : Cond.instanceMethod yX11_route ∈ tp_W := tp_W_of (tm_8 (List.mem_of_getElem? (i := 0) rfl)) rfl
theorem mse_X11_route : Cond.selects RX11 yX11_route yX11_route ∈ tp_W := tp_W_of (tm_8 (List.mem_of_getElem? (i := 1) rfl)) rfl
theorem mf_X11_route : tp_MV yX11_route (Cond.code yX11_route cX11_route 7 (some .int)) cX11_route 7 (some .int) 2 := ⟨⟨rfl, mc_X11_route, mi_X11, by decide +kernel, by decide⟩, mn_X11_route, mse_X11_route⟩
theorem mc_X11_comesFrom : Cond.code yX11_comesFrom cX11_comesFrom 7 (some .int) ∈ tp_W := tp_W_of (tm_8 (List.mem_of_getElem? (i := 10) rfl)) rfl
theorem mn_X11_comesFrom : Cond.instanceMethod yX11_comesFrom ∈ tp_W := tp_W_of (tm_8 (List.mem_of_getElem? (i := 9) rfl)) rfl
theorem mse_X11_comesFrom : Cond.selects RX11 yX11_comesFrom yX11_comesFrom ∈ tp_W := tp_W_p (y := yX11_comesFrom) (n := 52) (List.mem_of_getElem? (i := 99) (by decide +kernel))
theorem mf_X11_comesFrom : tp_MV yX11_comesFrom (Cond.code yX11_comesFrom cX11_comesFrom 7 (some .int)) cX11_comesFrom 7 (some .int) 2 := ⟨⟨rfl, mc_X11_comesFrom, mi_X11, by decide +kernel, by decide⟩, mn_X11_comesFrom, mse_X11_comesFrom⟩
theorem mc_X11_gates : Cond.code yX11_gates cX11_gates 4 (some .int) ∈ tp_W := tp_W_of (tm_8 (List.mem_of_getElem? (i := 6) rfl)) rfl
theorem mn_X11_gates : Cond.instanceMethod yX11_gates ∈ tp_W := tp_W_of (tm_8 (List.mem_of_getElem? (i := 4) rfl)) rfl
theorem mse_X11_gates : Cond.selects RX11 yX11_gates yX11_gates ∈ tp_W := tp_W_of (tm_8 (List.mem_of_getElem? (i := 5) rfl)) rfl
theorem mf_X11_gates : tp_MV yX11_gates (Cond.code yX11_gates cX11_gates 4 (some .int)) cX11_gates 4 (some .int) 1 := ⟨⟨rfl, mc_X11_gates, mi_X11, by decide +kernel, by decide⟩, mn_X11_gates, mse_X11_gates⟩
theorem mc_X11_parishOf : Cond.code yX11_parishOf cX11_parishOf 4 (some .int) ∈ tp_W := tp_W_of (tm_8 (List.mem_of_getElem? (i := 19) rfl)) rfl
theorem mn_X11_parishOf : Cond.instanceMethod yX11_parishOf ∈ tp_W := tp_W_of (tm_8 (List.mem_of_getElem? (i := 18) rfl)) rfl
theorem mse_X11_parishOf : Cond.selects RX11 yX11_parishOf yX11_parishOf ∈ tp_W := tp_W_p (y := yX11_parishOf) (n := 52) (List.mem_of_getElem? (i := 100) (by decide +kernel))
theorem mf_X11_parishOf : tp_MV yX11_parishOf (Cond.code yX11_parishOf cX11_parishOf 4 (some .int)) cX11_parishOf 4 (some .int) 1 := ⟨⟨rfl, mc_X11_parishOf, mi_X11, by decide +kernel, by decide⟩, mn_X11_parishOf, mse_X11_parishOf⟩
theorem mc_X11_parish : Cond.code yX11_parish cX11_parish 4 (some .int) ∈ tp_W := tp_W_of (tm_8 (List.mem_of_getElem? (i := 15) rfl)) rfl
theorem mn_X11_parish : Cond.instanceMethod yX11_parish ∈ tp_W := tp_W_of (tm_8 (List.mem_of_getElem? (i := 13) rfl)) rfl
theorem mse_X11_parish : Cond.selects RX11 yX11_parish yX11_parish ∈ tp_W := tp_W_of (tm_8 (List.mem_of_getElem? (i := 14) rfl)) rfl
theorem mf_X11_parish : tp_MV yX11_parish (Cond.code yX11_parish cX11_parish 4 (some .int)) cX11_parish 4 (some .int) 1 := ⟨⟨rfl, mc_X11_parish, mi_X11, by decide +kernel, by decide⟩, mn_X11_parish, mse_X11_parish⟩
theorem mc_X11_cellOf : Cond.code yX11_cellOf cX11_cellOf 2 (some .int) ∈ tp_W := tp_W_of (tm_8 (List.mem_of_getElem? (i := 34) rfl)) rfl
theorem ms_X11_cellOf : Cond.static yX11_cellOf ∈ tp_W := tp_W_of (tm_8 (List.mem_of_getElem? (i := 33) rfl)) rfl
theorem mf_X11_cellOf : tp_MS yX11_cellOf (Cond.code yX11_cellOf cX11_cellOf 2 (some .int)) cX11_cellOf 2 (some .int) 2 := ⟨⟨rfl, mc_X11_cellOf, mi_X11, by decide +kernel, by decide⟩, ms_X11_cellOf⟩
theorem mc_X11_laysMatrix : Cond.code yX11_laysMatrix cX11_laysMatrix 5 none ∈ tp_W := tp_W_of (tm_8 (List.mem_of_getElem? (i := 31) rfl)) rfl
theorem mn_X11_laysMatrix : Cond.instanceMethod yX11_laysMatrix ∈ tp_W := tp_W_of (tm_8 (List.mem_of_getElem? (i := 30) rfl)) rfl
theorem mse_X11_laysMatrix : Cond.selects RX11 yX11_laysMatrix yX11_laysMatrix ∈ tp_W := tp_W_p (y := yX11_laysMatrix) (n := 52) (List.mem_of_getElem? (i := 101) (by decide +kernel))
theorem mf_X11_laysMatrix : tp_MV yX11_laysMatrix (Cond.code yX11_laysMatrix cX11_laysMatrix 5 none) cX11_laysMatrix 5 none 1 := ⟨⟨rfl, mc_X11_laysMatrix, mi_X11, by decide +kernel, by decide⟩, mn_X11_laysMatrix, mse_X11_laysMatrix⟩
theorem mc_X11_swapsUp : Cond.code yX11_swapsUp cX11_swapsUp 6 (some .boolean) ∈ tp_W := tp_W_of (tm_8 (List.mem_of_getElem? (i := 42) rfl)) rfl
theorem mn_X11_swapsUp : Cond.instanceMethod yX11_swapsUp ∈ tp_W := tp_W_of (tm_8 (List.mem_of_getElem? (i := 41) rfl)) rfl
theorem mse_X11_swapsUp : Cond.selects RX11 yX11_swapsUp yX11_swapsUp ∈ tp_W := tp_W_p (y := yX11_swapsUp) (n := 52) (List.mem_of_getElem? (i := 103) (by decide +kernel))
theorem mf_X11_swapsUp : tp_MV yX11_swapsUp (Cond.code yX11_swapsUp cX11_swapsUp 6 (some .boolean)) cX11_swapsUp 6 (some .boolean) 1 := ⟨⟨rfl, mc_X11_swapsUp, mi_X11, by decide +kernel, by decide⟩, mn_X11_swapsUp, mse_X11_swapsUp⟩
theorem mc_X11_determinant : Cond.code yX11_determinant cX11_determinant 8 (some .long) ∈ tp_W := tp_W_of (tm_8 (List.mem_of_getElem? (i := 38) rfl)) rfl
theorem mn_X11_determinant : Cond.instanceMethod yX11_determinant ∈ tp_W := tp_W_of (tm_8 (List.mem_of_getElem? (i := 37) rfl)) rfl
theorem mse_X11_determinant : Cond.selects RX11 yX11_determinant yX11_determinant ∈ tp_W := tp_W_p (y := yX11_determinant) (n := 52) (List.mem_of_getElem? (i := 102) (by decide +kernel))
theorem mf_X11_determinant : tp_MV yX11_determinant (Cond.code yX11_determinant cX11_determinant 8 (some .long)) cX11_determinant 8 (some .long) 0 := ⟨⟨rfl, mc_X11_determinant, mi_X11, by decide +kernel, by decide⟩, mn_X11_determinant, mse_X11_determinant⟩
theorem mc_X11_mean : Cond.code yX11_mean cX11_mean 6 (some .int) ∈ tp_W := tp_W_of (tm_8 (List.mem_of_getElem? (i := 27) rfl)) rfl
theorem mn_X11_mean : Cond.instanceMethod yX11_mean ∈ tp_W := tp_W_of (tm_8 (List.mem_of_getElem? (i := 25) rfl)) rfl
theorem mse_X11_mean : Cond.selects RX11 yX11_mean yX11_mean ∈ tp_W := tp_W_of (tm_8 (List.mem_of_getElem? (i := 26) rfl)) rfl
theorem mf_X11_mean : tp_MV yX11_mean (Cond.code yX11_mean cX11_mean 6 (some .int)) cX11_mean 6 (some .int) 1 := ⟨⟨rfl, mc_X11_mean, mi_X11, by decide +kernel, by decide⟩, mn_X11_mean, mse_X11_mean⟩
theorem mc_X11_meets : Cond.code yX11_meets cX11_meets 7 (some .int) ∈ tp_W := tp_W_of (tm_8 (List.mem_of_getElem? (i := 53) rfl)) rfl
theorem mn_X11_meets : Cond.instanceMethod yX11_meets ∈ tp_W := tp_W_of (tm_8 (List.mem_of_getElem? (i := 51) rfl)) rfl
theorem mse_X11_meets : Cond.selects RX11 yX11_meets yX11_meets ∈ tp_W := tp_W_of (tm_8 (List.mem_of_getElem? (i := 52) rfl)) rfl
theorem mf_X11_meets : tp_MV yX11_meets (Cond.code yX11_meets cX11_meets 7 (some .int)) cX11_meets 7 (some .int) 2 := ⟨⟨rfl, mc_X11_meets, mi_X11, by decide +kernel, by decide⟩, mn_X11_meets, mse_X11_meets⟩
theorem mc_X11_odds : Cond.code yX11_odds cX11_odds 9 (some .int) ∈ tp_W := tp_W_of (tm_8 (List.mem_of_getElem? (i := 57) rfl)) rfl
theorem mn_X11_odds : Cond.instanceMethod yX11_odds ∈ tp_W := tp_W_of (tm_8 (List.mem_of_getElem? (i := 55) rfl)) rfl
theorem mse_X11_odds : Cond.selects RX11 yX11_odds yX11_odds ∈ tp_W := tp_W_of (tm_8 (List.mem_of_getElem? (i := 56) rfl)) rfl
theorem mf_X11_odds : tp_MV yX11_odds (Cond.code yX11_odds cX11_odds 9 (some .int)) cX11_odds 9 (some .int) 3 := ⟨⟨rfl, mc_X11_odds, mi_X11, by decide +kernel, by decide⟩, mn_X11_odds, mse_X11_odds⟩
theorem mc_X11_canBurst : Cond.code yX11_canBurst cX11_canBurst 4 (some .boolean) ∈ tp_W := tp_W_of (tm_8 (List.mem_of_getElem? (i := 83) rfl)) rfl
theorem mn_X11_canBurst : Cond.instanceMethod yX11_canBurst ∈ tp_W := tp_W_of (tm_8 (List.mem_of_getElem? (i := 82) rfl)) rfl
theorem mse_X11_canBurst : Cond.selects RX11 yX11_canBurst yX11_canBurst ∈ tp_W := tp_W_p (y := yX11_canBurst) (n := 52) (List.mem_of_getElem? (i := 107) (by decide +kernel))
theorem mf_X11_canBurst : tp_MV yX11_canBurst (Cond.code yX11_canBurst cX11_canBurst 4 (some .boolean)) cX11_canBurst 4 (some .boolean) 1 := ⟨⟨rfl, mc_X11_canBurst, mi_X11, by decide +kernel, by decide⟩, mn_X11_canBurst, mse_X11_canBurst⟩
theorem mc_X11_entersCrowds : Cond.code yX11_entersCrowds cX11_entersCrowds 3 none ∈ tp_W := tp_W_of (tm_8 (List.mem_of_getElem? (i := 75) rfl)) rfl
theorem mn_X11_entersCrowds : Cond.instanceMethod yX11_entersCrowds ∈ tp_W := tp_W_of (tm_8 (List.mem_of_getElem? (i := 74) rfl)) rfl
theorem mse_X11_entersCrowds : Cond.selects RX11 yX11_entersCrowds yX11_entersCrowds ∈ tp_W := tp_W_p (y := yX11_entersCrowds) (n := 52) (List.mem_of_getElem? (i := 106) (by decide +kernel))
theorem mf_X11_entersCrowds : tp_MV yX11_entersCrowds (Cond.code yX11_entersCrowds cX11_entersCrowds 3 none) cX11_entersCrowds 3 none 1 := ⟨⟨rfl, mc_X11_entersCrowds, mi_X11, by decide +kernel, by decide⟩, mn_X11_entersCrowds, mse_X11_entersCrowds⟩
theorem mc_X11_ready : Cond.code yX11_ready cX11_ready 3 (some .int) ∈ tp_W := tp_W_of (tm_8 (List.mem_of_getElem? (i := 63) rfl)) rfl
theorem mn_X11_ready : Cond.instanceMethod yX11_ready ∈ tp_W := tp_W_of (tm_8 (List.mem_of_getElem? (i := 61) rfl)) rfl
theorem mse_X11_ready : Cond.selects RX11 yX11_ready yX11_ready ∈ tp_W := tp_W_of (tm_8 (List.mem_of_getElem? (i := 62) rfl)) rfl
theorem mf_X11_ready : tp_MV yX11_ready (Cond.code yX11_ready cX11_ready 3 (some .int)) cX11_ready 3 (some .int) 0 := ⟨⟨rfl, mc_X11_ready, mi_X11, by decide +kernel, by decide⟩, mn_X11_ready, mse_X11_ready⟩
theorem mc_X11_laysUnit : Cond.code yX11_laysUnit cX11_laysUnit 2 (some .int) ∈ tp_W := tp_W_of (tm_8 (List.mem_of_getElem? (i := 71) rfl)) rfl
theorem mn_X11_laysUnit : Cond.instanceMethod yX11_laysUnit ∈ tp_W := tp_W_of (tm_8 (List.mem_of_getElem? (i := 70) rfl)) rfl
theorem mse_X11_laysUnit : Cond.selects RX11 yX11_laysUnit yX11_laysUnit ∈ tp_W := tp_W_p (y := yX11_laysUnit) (n := 52) (List.mem_of_getElem? (i := 105) (by decide +kernel))
theorem mf_X11_laysUnit : tp_MV yX11_laysUnit (Cond.code yX11_laysUnit cX11_laysUnit 2 (some .int)) cX11_laysUnit 2 (some .int) 0 := ⟨⟨rfl, mc_X11_laysUnit, mi_X11, by decide +kernel, by decide⟩, mn_X11_laysUnit, mse_X11_laysUnit⟩
theorem mc_X11_unit : Cond.code yX11_unit cX11_unit 1 (some .int) ∈ tp_W := tp_W_of (tm_8 (List.mem_of_getElem? (i := 67) rfl)) rfl
theorem mn_X11_unit : Cond.instanceMethod yX11_unit ∈ tp_W := tp_W_of (tm_8 (List.mem_of_getElem? (i := 65) rfl)) rfl
theorem mse_X11_unit : Cond.selects RX11 yX11_unit yX11_unit ∈ tp_W := tp_W_of (tm_8 (List.mem_of_getElem? (i := 66) rfl)) rfl
theorem mf_X11_unit : tp_MV yX11_unit (Cond.code yX11_unit cX11_unit 1 (some .int)) cX11_unit 1 (some .int) 0 := ⟨⟨rfl, mc_X11_unit, mi_X11, by decide +kernel, by decide⟩, mn_X11_unit, mse_X11_unit⟩
theorem mc_X11_areCrowds : Cond.code yX11_areCrowds cX11_areCrowds 4 (some .boolean) ∈ tp_W := tp_W_of (tm_8 (List.mem_of_getElem? (i := 87) rfl)) rfl
theorem mn_X11_areCrowds : Cond.instanceMethod yX11_areCrowds ∈ tp_W := tp_W_of (tm_8 (List.mem_of_getElem? (i := 86) rfl)) rfl
theorem mse_X11_areCrowds : Cond.selects RX11 yX11_areCrowds yX11_areCrowds ∈ tp_W := tp_W_p (y := yX11_areCrowds) (n := 52) (List.mem_of_getElem? (i := 108) (by decide +kernel))
theorem mf_X11_areCrowds : tp_MV yX11_areCrowds (Cond.code yX11_areCrowds cX11_areCrowds 4 (some .boolean)) cX11_areCrowds 4 (some .boolean) 1 := ⟨⟨rfl, mc_X11_areCrowds, mi_X11, by decide +kernel, by decide⟩, mn_X11_areCrowds, mse_X11_areCrowds⟩
theorem mc_X11_returns : Cond.code yX11_returns cX11_returns 2 (some .int) ∈ tp_W := tp_W_of (tm_8 (List.mem_of_getElem? (i := 79) rfl)) rfl
theorem mn_X11_returns : Cond.instanceMethod yX11_returns ∈ tp_W := tp_W_of (tm_8 (List.mem_of_getElem? (i := 77) rfl)) rfl
theorem mse_X11_returns : Cond.selects RX11 yX11_returns yX11_returns ∈ tp_W := tp_W_of (tm_8 (List.mem_of_getElem? (i := 78) rfl)) rfl
theorem mf_X11_returns : tp_MV yX11_returns (Cond.code yX11_returns cX11_returns 2 (some .int)) cX11_returns 2 (some .int) 0 := ⟨⟨rfl, mc_X11_returns, mi_X11, by decide +kernel, by decide⟩, mn_X11_returns, mse_X11_returns⟩
theorem mc_X11_joins : Cond.code yX11_joins cX11_joins 3 (some .int) ∈ tp_W := tp_W_of (tm_8 (List.mem_of_getElem? (i := 91) rfl)) rfl
theorem mn_X11_joins : Cond.instanceMethod yX11_joins ∈ tp_W := tp_W_of (tm_8 (List.mem_of_getElem? (i := 89) rfl)) rfl
theorem mse_X11_joins : Cond.selects RX11 yX11_joins yX11_joins ∈ tp_W := tp_W_of (tm_8 (List.mem_of_getElem? (i := 90) rfl)) rfl
theorem mf_X11_joins : tp_MV yX11_joins (Cond.code yX11_joins cX11_joins 3 (some .int)) cX11_joins 3 (some .int) 1 := ⟨⟨rfl, mc_X11_joins, mi_X11, by decide +kernel, by decide⟩, mn_X11_joins, mse_X11_joins⟩
theorem mc_X11_recurs : Cond.code yX11_recurs cX11_recurs 5 (some .int) ∈ tp_W := tp_W_of (tm_8 (List.mem_of_getElem? (i := 96) rfl)) rfl
theorem mn_X11_recurs : Cond.instanceMethod yX11_recurs ∈ tp_W := tp_W_of (tm_8 (List.mem_of_getElem? (i := 94) rfl)) rfl
theorem mse_X11_recurs : Cond.selects RX11 yX11_recurs yX11_recurs ∈ tp_W := tp_W_of (tm_8 (List.mem_of_getElem? (i := 95) rfl)) rfl
theorem mf_X11_recurs : tp_MV yX11_recurs (Cond.code yX11_recurs cX11_recurs 5 (some .int)) cX11_recurs 5 (some .int) 1 := ⟨⟨rfl, mc_X11_recurs, mi_X11, by decide +kernel, by decide⟩, mn_X11_recurs, mse_X11_recurs⟩
theorem mc_X11_trigger : Cond.code yX11_trigger cX11_trigger 5 (some .int) ∈ tp_W := tp_W_of (tm_8 (List.mem_of_getElem? (i := 100) rfl)) rfl
theorem mn_X11_trigger : Cond.instanceMethod yX11_trigger ∈ tp_W := tp_W_of (tm_8 (List.mem_of_getElem? (i := 98) rfl)) rfl
theorem mse_X11_trigger : Cond.selects RX11 yX11_trigger yX11_trigger ∈ tp_W := tp_W_of (tm_8 (List.mem_of_getElem? (i := 99) rfl)) rfl
theorem mf_X11_trigger : tp_MV yX11_trigger (Cond.code yX11_trigger cX11_trigger 5 (some .int)) cX11_trigger 5 (some .int) 0 := ⟨⟨rfl, mc_X11_trigger, mi_X11, by decide +kernel, by decide⟩, mn_X11_trigger, mse_X11_trigger⟩
theorem mc_X11_seen : Cond.code yX11_seen cX11_seen 4 (some .int) ∈ tp_W := tp_W_of (tm_8 (List.mem_of_getElem? (i := 104) rfl)) rfl
theorem mn_X11_seen : Cond.instanceMethod yX11_seen ∈ tp_W := tp_W_of (tm_8 (List.mem_of_getElem? (i := 102) rfl)) rfl
theorem mse_X11_seen : Cond.selects RX11 yX11_seen yX11_seen ∈ tp_W := tp_W_of (tm_8 (List.mem_of_getElem? (i := 103) rfl)) rfl
theorem mf_X11_seen : tp_MV yX11_seen (Cond.code yX11_seen cX11_seen 4 (some .int)) cX11_seen 4 (some .int) 3 := ⟨⟨rfl, mc_X11_seen, mi_X11, by decide +kernel, by decide⟩, mn_X11_seen, mse_X11_seen⟩
theorem mc_X11_forget : Cond.code yX11_forget cX11_forget 2 (some .int) ∈ tp_W := tp_W_of (tm_8 (List.mem_of_getElem? (i := 109) rfl)) rfl
theorem mn_X11_forget : Cond.instanceMethod yX11_forget ∈ tp_W := tp_W_of (tm_8 (List.mem_of_getElem? (i := 107) rfl)) rfl
theorem mse_X11_forget : Cond.selects RX11 yX11_forget yX11_forget ∈ tp_W := tp_W_of (tm_8 (List.mem_of_getElem? (i := 108) rfl)) rfl
theorem mf_X11_forget : tp_MV yX11_forget (Cond.code yX11_forget cX11_forget 2 (some .int)) cX11_forget 2 (some .int) 0 := ⟨⟨rfl, mc_X11_forget, mi_X11, by decide +kernel, by decide⟩, mn_X11_forget, mse_X11_forget⟩
theorem mc_X11_placeBy : Cond.code yX11_placeBy cX11_placeBy 7 (some .int) ∈ tp_W := tp_W_of (tm_8 (List.mem_of_getElem? (i := 121) rfl)) rfl
theorem mn_X11_placeBy : Cond.instanceMethod yX11_placeBy ∈ tp_W := tp_W_of (tm_8 (List.mem_of_getElem? (i := 120) rfl)) rfl
theorem mse_X11_placeBy : Cond.selects RX11 yX11_placeBy yX11_placeBy ∈ tp_W := tp_W_p (y := yX11_placeBy) (n := 52) (List.mem_of_getElem? (i := 110) (by decide +kernel))
theorem mf_X11_placeBy : tp_MV yX11_placeBy (Cond.code yX11_placeBy cX11_placeBy 7 (some .int)) cX11_placeBy 7 (some .int) 4 := ⟨⟨rfl, mc_X11_placeBy, mi_X11, by decide +kernel, by decide⟩, mn_X11_placeBy, mse_X11_placeBy⟩
theorem mc_X11_numbers : Cond.code yX11_numbers cX11_numbers 6 (some .int) ∈ tp_W := tp_W_of (tm_8 (List.mem_of_getElem? (i := 117) rfl)) rfl
theorem mn_X11_numbers : Cond.instanceMethod yX11_numbers ∈ tp_W := tp_W_of (tm_8 (List.mem_of_getElem? (i := 116) rfl)) rfl
theorem mse_X11_numbers : Cond.selects RX11 yX11_numbers yX11_numbers ∈ tp_W := tp_W_p (y := yX11_numbers) (n := 52) (List.mem_of_getElem? (i := 109) (by decide +kernel))
theorem mf_X11_numbers : tp_MV yX11_numbers (Cond.code yX11_numbers cX11_numbers 6 (some .int)) cX11_numbers 6 (some .int) 1 := ⟨⟨rfl, mc_X11_numbers, mi_X11, by decide +kernel, by decide⟩, mn_X11_numbers, mse_X11_numbers⟩
theorem mc_X11_guess : Cond.code yX11_guess cX11_guess 3 (some .int) ∈ tp_W := tp_W_of (tm_8 (List.mem_of_getElem? (i := 113) rfl)) rfl
theorem mn_X11_guess : Cond.instanceMethod yX11_guess ∈ tp_W := tp_W_of (tm_8 (List.mem_of_getElem? (i := 111) rfl)) rfl
theorem mse_X11_guess : Cond.selects RX11 yX11_guess yX11_guess ∈ tp_W := tp_W_of (tm_8 (List.mem_of_getElem? (i := 112) rfl)) rfl
theorem mf_X11_guess : tp_MV yX11_guess (Cond.code yX11_guess cX11_guess 3 (some .int)) cX11_guess 3 (some .int) 1 := ⟨⟨rfl, mc_X11_guess, mi_X11, by decide +kernel, by decide⟩, mn_X11_guess, mse_X11_guess⟩
theorem mc_X11_looks : Cond.code yX11_looks cX11_looks 10 (some .int) ∈ tp_W := tp_W_of (tm_8 (List.mem_of_getElem? (i := 125) rfl)) rfl
theorem mn_X11_looks : Cond.instanceMethod yX11_looks ∈ tp_W := tp_W_of (tm_8 (List.mem_of_getElem? (i := 123) rfl)) rfl
theorem mse_X11_looks : Cond.selects RX11 yX11_looks yX11_looks ∈ tp_W := tp_W_of (tm_8 (List.mem_of_getElem? (i := 124) rfl)) rfl
theorem mf_X11_looks : tp_MV yX11_looks (Cond.code yX11_looks cX11_looks 10 (some .int)) cX11_looks 10 (some .int) 1 := ⟨⟨rfl, mc_X11_looks, mi_X11, by decide +kernel, by decide⟩, mn_X11_looks, mse_X11_looks⟩
theorem mc_X11_lowest : Cond.code yX11_lowest cX11_lowest 1 (some .int) ∈ tp_W := tp_W_of (tm_8 (List.mem_of_getElem? (i := 132) rfl)) rfl
theorem ms_X11_lowest : Cond.static yX11_lowest ∈ tp_W := tp_W_of (tm_8 (List.mem_of_getElem? (i := 131) rfl)) rfl
theorem mf_X11_lowest : tp_MS yX11_lowest (Cond.code yX11_lowest cX11_lowest 1 (some .int)) cX11_lowest 1 (some .int) 1 := ⟨⟨rfl, mc_X11_lowest, mi_X11, by decide +kernel, by decide⟩, ms_X11_lowest⟩
theorem mc_X11_highest : Cond.code yX11_highest cX11_highest 1 (some .int) ∈ tp_W := tp_W_of (tm_8 (List.mem_of_getElem? (i := 135) rfl)) rfl
theorem ms_X11_highest : Cond.static yX11_highest ∈ tp_W := tp_W_of (tm_8 (List.mem_of_getElem? (i := 134) rfl)) rfl
theorem mf_X11_highest : tp_MS yX11_highest (Cond.code yX11_highest cX11_highest 1 (some .int)) cX11_highest 1 (some .int) 1 := ⟨⟨rfl, mc_X11_highest, mi_X11, by decide +kernel, by decide⟩, ms_X11_highest⟩
theorem mc_X11_heard : Cond.code yX11_heard cX11_heard 3 (some .int) ∈ tp_W := tp_W_of (tm_8 (List.mem_of_getElem? (i := 129) rfl)) rfl
theorem mn_X11_heard : Cond.instanceMethod yX11_heard ∈ tp_W := tp_W_of (tm_8 (List.mem_of_getElem? (i := 127) rfl)) rfl
theorem mse_X11_heard : Cond.selects RX11 yX11_heard yX11_heard ∈ tp_W := tp_W_of (tm_8 (List.mem_of_getElem? (i := 128) rfl)) rfl
theorem mf_X11_heard : tp_MV yX11_heard (Cond.code yX11_heard cX11_heard 3 (some .int)) cX11_heard 3 (some .int) 2 := ⟨⟨rfl, mc_X11_heard, mi_X11, by decide +kernel, by decide⟩, mn_X11_heard, mse_X11_heard⟩
theorem mc_X11_denies : Cond.code yX11_denies cX11_denies 2 (some .int) ∈ tp_W := tp_W_of (tm_8 (List.mem_of_getElem? (i := 139) rfl)) rfl
theorem mn_X11_denies : Cond.instanceMethod yX11_denies ∈ tp_W := tp_W_of (tm_8 (List.mem_of_getElem? (i := 137) rfl)) rfl
theorem mse_X11_denies : Cond.selects RX11 yX11_denies yX11_denies ∈ tp_W := tp_W_of (tm_8 (List.mem_of_getElem? (i := 138) rfl)) rfl
theorem mf_X11_denies : tp_MV yX11_denies (Cond.code yX11_denies cX11_denies 2 (some .int)) cX11_denies 2 (some .int) 0 := ⟨⟨rfl, mc_X11_denies, mi_X11, by decide +kernel, by decide⟩, mn_X11_denies, mse_X11_denies⟩
theorem mc_X11_isSo : Cond.code yX11_isSo cX11_isSo 4 (some .boolean) ∈ tp_W := tp_W_of (tm_8 (List.mem_of_getElem? (i := 151) rfl)) rfl
theorem mn_X11_isSo : Cond.instanceMethod yX11_isSo ∈ tp_W := tp_W_of (tm_8 (List.mem_of_getElem? (i := 150) rfl)) rfl
theorem mse_X11_isSo : Cond.selects RX11 yX11_isSo yX11_isSo ∈ tp_W := tp_W_p (y := yX11_isSo) (n := 52) (List.mem_of_getElem? (i := 112) (by decide +kernel))
theorem mf_X11_isSo : tp_MV yX11_isSo (Cond.code yX11_isSo cX11_isSo 4 (some .boolean)) cX11_isSo 4 (some .boolean) 3 := ⟨⟨rfl, mc_X11_isSo, mi_X11, by decide +kernel, by decide⟩, mn_X11_isSo, mse_X11_isSo⟩
theorem mc_X11_fitting : Cond.code yX11_fitting cX11_fitting 5 (some .int) ∈ tp_W := tp_W_of (tm_8 (List.mem_of_getElem? (i := 147) rfl)) rfl
theorem mn_X11_fitting : Cond.instanceMethod yX11_fitting ∈ tp_W := tp_W_of (tm_8 (List.mem_of_getElem? (i := 146) rfl)) rfl
theorem mse_X11_fitting : Cond.selects RX11 yX11_fitting yX11_fitting ∈ tp_W := tp_W_p (y := yX11_fitting) (n := 52) (List.mem_of_getElem? (i := 111) (by decide +kernel))
theorem mf_X11_fitting : tp_MV yX11_fitting (Cond.code yX11_fitting cX11_fitting 5 (some .int)) cX11_fitting 5 (some .int) 0 := ⟨⟨rfl, mc_X11_fitting, mi_X11, by decide +kernel, by decide⟩, mn_X11_fitting, mse_X11_fitting⟩
theorem mc_X11_fits : Cond.code yX11_fits cX11_fits 2 (some .int) ∈ tp_W := tp_W_of (tm_8 (List.mem_of_getElem? (i := 143) rfl)) rfl
theorem mn_X11_fits : Cond.instanceMethod yX11_fits ∈ tp_W := tp_W_of (tm_8 (List.mem_of_getElem? (i := 141) rfl)) rfl
theorem mse_X11_fits : Cond.selects RX11 yX11_fits yX11_fits ∈ tp_W := tp_W_of (tm_8 (List.mem_of_getElem? (i := 142) rfl)) rfl
theorem mf_X11_fits : tp_MV yX11_fits (Cond.code yX11_fits cX11_fits 2 (some .int)) cX11_fits 2 (some .int) 0 := ⟨⟨rfl, mc_X11_fits, mi_X11, by decide +kernel, by decide⟩, mn_X11_fits, mse_X11_fits⟩
theorem mc_X11_asks : Cond.code yX11_asks cX11_asks 8 (some .int) ∈ tp_W := tp_W_of (tm_8 (List.mem_of_getElem? (i := 155) rfl)) rfl
theorem mn_X11_asks : Cond.instanceMethod yX11_asks ∈ tp_W := tp_W_of (tm_8 (List.mem_of_getElem? (i := 153) rfl)) rfl
theorem mse_X11_asks : Cond.selects RX11 yX11_asks yX11_asks ∈ tp_W := tp_W_of (tm_8 (List.mem_of_getElem? (i := 154) rfl)) rfl
theorem mf_X11_asks : tp_MV yX11_asks (Cond.code yX11_asks cX11_asks 8 (some .int)) cX11_asks 8 (some .int) 0 := ⟨⟨rfl, mc_X11_asks, mi_X11, by decide +kernel, by decide⟩, mn_X11_asks, mse_X11_asks⟩
theorem mc_X11_isGood : Cond.code yX11_isGood cX11_isGood 6 (some .boolean) ∈ tp_W := tp_W_of (tm_8 (List.mem_of_getElem? (i := 168) rfl)) rfl
theorem mn_X11_isGood : Cond.instanceMethod yX11_isGood ∈ tp_W := tp_W_of (tm_8 (List.mem_of_getElem? (i := 167) rfl)) rfl
theorem mse_X11_isGood : Cond.selects RX11 yX11_isGood yX11_isGood ∈ tp_W := tp_W_p (y := yX11_isGood) (n := 52) (List.mem_of_getElem? (i := 114) (by decide +kernel))
theorem mf_X11_isGood : tp_MV yX11_isGood (Cond.code yX11_isGood cX11_isGood 6 (some .boolean)) cX11_isGood 6 (some .boolean) 4 := ⟨⟨rfl, mc_X11_isGood, mi_X11, by decide +kernel, by decide⟩, mn_X11_isGood, mse_X11_isGood⟩
theorem mc_X11_goodMove : Cond.code yX11_goodMove cX11_goodMove 5 (some .int) ∈ tp_W := tp_W_of (tm_8 (List.mem_of_getElem? (i := 164) rfl)) rfl
theorem mn_X11_goodMove : Cond.instanceMethod yX11_goodMove ∈ tp_W := tp_W_of (tm_8 (List.mem_of_getElem? (i := 163) rfl)) rfl
theorem mse_X11_goodMove : Cond.selects RX11 yX11_goodMove yX11_goodMove ∈ tp_W := tp_W_p (y := yX11_goodMove) (n := 52) (List.mem_of_getElem? (i := 113) (by decide +kernel))
theorem mf_X11_goodMove : tp_MV yX11_goodMove (Cond.code yX11_goodMove cX11_goodMove 5 (some .int)) cX11_goodMove 5 (some .int) 2 := ⟨⟨rfl, mc_X11_goodMove, mi_X11, by decide +kernel, by decide⟩, mn_X11_goodMove, mse_X11_goodMove⟩
theorem mc_X11_crowds : Cond.code yX11_crowds cX11_crowds 5 (some .int) ∈ tp_W := tp_W_of (tm_8 (List.mem_of_getElem? (i := 159) rfl)) rfl
theorem mn_X11_crowds : Cond.instanceMethod yX11_crowds ∈ tp_W := tp_W_of (tm_8 (List.mem_of_getElem? (i := 157) rfl)) rfl
theorem mse_X11_crowds : Cond.selects RX11 yX11_crowds yX11_crowds ∈ tp_W := tp_W_of (tm_8 (List.mem_of_getElem? (i := 158) rfl)) rfl
theorem mf_X11_crowds : tp_MV yX11_crowds (Cond.code yX11_crowds cX11_crowds 5 (some .int)) cX11_crowds 5 (some .int) 2 := ⟨⟨rfl, mc_X11_crowds, mi_X11, by decide +kernel, by decide⟩, mn_X11_crowds, mse_X11_crowds⟩
theorem mc_X11_homeOfLast : Cond.code yX11_homeOfLast cX11_homeOfLast 2 (some .int) ∈ tp_W := tp_W_of (tm_8 (List.mem_of_getElem? (i := 176) rfl)) rfl
theorem mn_X11_homeOfLast : Cond.instanceMethod yX11_homeOfLast ∈ tp_W := tp_W_of (tm_8 (List.mem_of_getElem? (i := 175) rfl)) rfl
theorem mse_X11_homeOfLast : Cond.selects RX11 yX11_homeOfLast yX11_homeOfLast ∈ tp_W := tp_W_p (y := yX11_homeOfLast) (n := 52) (List.mem_of_getElem? (i := 115) (by decide +kernel))
theorem mf_X11_homeOfLast : tp_MV yX11_homeOfLast (Cond.code yX11_homeOfLast cX11_homeOfLast 2 (some .int)) cX11_homeOfLast 2 (some .int) 0 := ⟨⟨rfl, mc_X11_homeOfLast, mi_X11, by decide +kernel, by decide⟩, mn_X11_homeOfLast, mse_X11_homeOfLast⟩
theorem mc_X11_law : Cond.code yX11_law cX11_law 5 (some .int) ∈ tp_W := tp_W_of (tm_8 (List.mem_of_getElem? (i := 172) rfl)) rfl
theorem mn_X11_law : Cond.instanceMethod yX11_law ∈ tp_W := tp_W_of (tm_8 (List.mem_of_getElem? (i := 170) rfl)) rfl
theorem mse_X11_law : Cond.selects RX11 yX11_law yX11_law ∈ tp_W := tp_W_of (tm_8 (List.mem_of_getElem? (i := 171) rfl)) rfl
theorem mf_X11_law : tp_MV yX11_law (Cond.code yX11_law cX11_law 5 (some .int)) cX11_law 5 (some .int) 0 := ⟨⟨rfl, mc_X11_law, mi_X11, by decide +kernel, by decide⟩, mn_X11_law, mse_X11_law⟩
theorem mc_X11_costs : Cond.code yX11_costs cX11_costs 3 (some .int) ∈ tp_W := tp_W_of (tm_8 (List.mem_of_getElem? (i := 187) rfl)) rfl
theorem ms_X11_costs : Cond.static yX11_costs ∈ tp_W := tp_W_of (tm_8 (List.mem_of_getElem? (i := 186) rfl)) rfl
theorem mf_X11_costs : tp_MS yX11_costs (Cond.code yX11_costs cX11_costs 3 (some .int)) cX11_costs 3 (some .int) 3 := ⟨⟨rfl, mc_X11_costs, mi_X11, by decide +kernel, by decide⟩, ms_X11_costs⟩
theorem mc_X11_isRest : Cond.code yX11_isRest cX11_isRest 5 (some .boolean) ∈ tp_W := tp_W_of (tm_8 (List.mem_of_getElem? (i := 184) rfl)) rfl
theorem ms_X11_isRest : Cond.static yX11_isRest ∈ tp_W := tp_W_of (tm_8 (List.mem_of_getElem? (i := 183) rfl)) rfl
theorem mf_X11_isRest : tp_MS yX11_isRest (Cond.code yX11_isRest cX11_isRest 5 (some .boolean)) cX11_isRest 5 (some .boolean) 3 := ⟨⟨rfl, mc_X11_isRest, mi_X11, by decide +kernel, by decide⟩, ms_X11_isRest⟩
theorem mc_X11_waits : Cond.code yX11_waits cX11_waits 5 (some .int) ∈ tp_W := tp_W_of (tm_8 (List.mem_of_getElem? (i := 180) rfl)) rfl
theorem mn_X11_waits : Cond.instanceMethod yX11_waits ∈ tp_W := tp_W_of (tm_8 (List.mem_of_getElem? (i := 178) rfl)) rfl
theorem mse_X11_waits : Cond.selects RX11 yX11_waits yX11_waits ∈ tp_W := tp_W_of (tm_8 (List.mem_of_getElem? (i := 179) rfl)) rfl
theorem mf_X11_waits : tp_MV yX11_waits (Cond.code yX11_waits cX11_waits 5 (some .int)) cX11_waits 5 (some .int) 1 := ⟨⟨rfl, mc_X11_waits, mi_X11, by decide +kernel, by decide⟩, mn_X11_waits, mse_X11_waits⟩
theorem mc_X11_draws : Cond.code yX11_draws cX11_draws 2 (some .int) ∈ tp_W := tp_W_of (tm_8 (List.mem_of_getElem? (i := 195) rfl)) rfl
theorem mn_X11_draws : Cond.instanceMethod yX11_draws ∈ tp_W := tp_W_of (tm_8 (List.mem_of_getElem? (i := 194) rfl)) rfl
theorem mse_X11_draws : Cond.selects RX11 yX11_draws yX11_draws ∈ tp_W := tp_W_p (y := yX11_draws) (n := 52) (List.mem_of_getElem? (i := 116) (by decide +kernel))
theorem mf_X11_draws : tp_MV yX11_draws (Cond.code yX11_draws cX11_draws 2 (some .int)) cX11_draws 2 (some .int) 1 := ⟨⟨rfl, mc_X11_draws, mi_X11, by decide +kernel, by decide⟩, mn_X11_draws, mse_X11_draws⟩
theorem mc_X11_innOf : Cond.code yX11_innOf cX11_innOf 4 (some .int) ∈ tp_W := tp_W_of (tm_8 (List.mem_of_getElem? (i := 200) rfl)) rfl
theorem mn_X11_innOf : Cond.instanceMethod yX11_innOf ∈ tp_W := tp_W_of (tm_8 (List.mem_of_getElem? (i := 199) rfl)) rfl
theorem mse_X11_innOf : Cond.selects RX11 yX11_innOf yX11_innOf ∈ tp_W := tp_W_p (y := yX11_innOf) (n := 52) (List.mem_of_getElem? (i := 117) (by decide +kernel))
theorem mf_X11_innOf : tp_MV yX11_innOf (Cond.code yX11_innOf cX11_innOf 4 (some .int)) cX11_innOf 4 (some .int) 1 := ⟨⟨rfl, mc_X11_innOf, mi_X11, by decide +kernel, by decide⟩, mn_X11_innOf, mse_X11_innOf⟩
theorem mc_X11_years : Cond.code yX11_years cX11_years 9 (some .int) ∈ tp_W := tp_W_of (tm_8 (List.mem_of_getElem? (i := 191) rfl)) rfl
theorem mn_X11_years : Cond.instanceMethod yX11_years ∈ tp_W := tp_W_of (tm_8 (List.mem_of_getElem? (i := 189) rfl)) rfl
theorem mse_X11_years : Cond.selects RX11 yX11_years yX11_years ∈ tp_W := tp_W_of (tm_8 (List.mem_of_getElem? (i := 190) rfl)) rfl
theorem mf_X11_years : tp_MV yX11_years (Cond.code yX11_years cX11_years 9 (some .int)) cX11_years 9 (some .int) 2 := ⟨⟨rfl, mc_X11_years, mi_X11, by decide +kernel, by decide⟩, mn_X11_years, mse_X11_years⟩
theorem mc_X11_keep : Cond.code yX11_keep cX11_keep 3 (some .boolean) ∈ tp_W := tp_W_of (tm_8 (List.mem_of_getElem? (i := 204) rfl)) rfl
theorem mn_X11_keep : Cond.instanceMethod yX11_keep ∈ tp_W := tp_W_of (tm_8 (List.mem_of_getElem? (i := 202) rfl)) rfl
theorem mse_X11_keep : Cond.selects RX11 yX11_keep yX11_keep ∈ tp_W := tp_W_of (tm_8 (List.mem_of_getElem? (i := 203) rfl)) rfl
theorem mf_X11_keep : tp_MV yX11_keep (Cond.code yX11_keep cX11_keep 3 (some .boolean)) cX11_keep 3 (some .boolean) 1 := ⟨⟨rfl, mc_X11_keep, mi_X11, by decide +kernel, by decide⟩, mn_X11_keep, mse_X11_keep⟩
theorem mc_X11_again : Cond.code yX11_again cX11_again 3 (some .boolean) ∈ tp_W := tp_W_of (tm_8 (List.mem_of_getElem? (i := 208) rfl)) rfl
theorem mn_X11_again : Cond.instanceMethod yX11_again ∈ tp_W := tp_W_of (tm_8 (List.mem_of_getElem? (i := 206) rfl)) rfl
theorem mse_X11_again : Cond.selects RX11 yX11_again yX11_again ∈ tp_W := tp_W_of (tm_8 (List.mem_of_getElem? (i := 207) rfl)) rfl
theorem mf_X11_again : tp_MV yX11_again (Cond.code yX11_again cX11_again 3 (some .boolean)) cX11_again 3 (some .boolean) 1 := ⟨⟨rfl, mc_X11_again, mi_X11, by decide +kernel, by decide⟩, mn_X11_again, mse_X11_again⟩
theorem mc_X11_count : Cond.code yX11_count cX11_count 5 (some .int) ∈ tp_W := tp_W_of (tm_8 (List.mem_of_getElem? (i := 212) rfl)) rfl
theorem mn_X11_count : Cond.instanceMethod yX11_count ∈ tp_W := tp_W_of (tm_8 (List.mem_of_getElem? (i := 210) rfl)) rfl
theorem mse_X11_count : Cond.selects RX11 yX11_count yX11_count ∈ tp_W := tp_W_of (tm_8 (List.mem_of_getElem? (i := 211) rfl)) rfl
theorem mf_X11_count : tp_MV yX11_count (Cond.code yX11_count cX11_count 5 (some .int)) cX11_count 5 (some .int) 1 := ⟨⟨rfl, mc_X11_count, mi_X11, by decide +kernel, by decide⟩, mn_X11_count, mse_X11_count⟩
theorem mc_X11_row : Cond.code yX11_row cX11_row 2 (some .long) ∈ tp_W := tp_W_of (tm_8 (List.mem_of_getElem? (i := 216) rfl)) rfl
theorem mn_X11_row : Cond.instanceMethod yX11_row ∈ tp_W := tp_W_of (tm_8 (List.mem_of_getElem? (i := 214) rfl)) rfl
theorem mse_X11_row : Cond.selects RX11 yX11_row yX11_row ∈ tp_W := tp_W_of (tm_8 (List.mem_of_getElem? (i := 215) rfl)) rfl
theorem mf_X11_row : tp_MV yX11_row (Cond.code yX11_row cX11_row 2 (some .long)) cX11_row 2 (some .long) 1 := ⟨⟨rfl, mc_X11_row, mi_X11, by decide +kernel, by decide⟩, mn_X11_row, mse_X11_row⟩
theorem mc_J6_numberOfTrailingZeros_0f7a4 : Cond.code yJ6_numberOfTrailingZeros_0f7a4 cJ6_numberOfTrailingZeros_0f7a4 2 (some .int) ∈ tp_W := tp_W_of (tm_8 (List.mem_of_getElem? (i := 22) rfl)) rfl
theorem ms_J6_numberOfTrailingZeros_0f7a4 : Cond.static yJ6_numberOfTrailingZeros_0f7a4 ∈ tp_W := tp_W_of (tm_8 (List.mem_of_getElem? (i := 21) rfl)) rfl
theorem mf_J6_numberOfTrailingZeros_0f7a4 : tp_MS yJ6_numberOfTrailingZeros_0f7a4 (Cond.code yJ6_numberOfTrailingZeros_0f7a4 cJ6_numberOfTrailingZeros_0f7a4 2 (some .int)) cJ6_numberOfTrailingZeros_0f7a4 2 (some .int) 1 := ⟨⟨rfl, mc_J6_numberOfTrailingZeros_0f7a4, mi_J6, by decide +kernel, by decide⟩, ms_J6_numberOfTrailingZeros_0f7a4⟩
theorem mc_J6_bitCount_0f7a4 : Cond.code yJ6_bitCount_0f7a4 cJ6_bitCount_0f7a4 1 (some .int) ∈ tp_W := tp_W_of (tm_3 (List.mem_of_getElem? (i := 210) rfl)) rfl
theorem ms_J6_bitCount_0f7a4 : Cond.static yJ6_bitCount_0f7a4 ∈ tp_W := tp_W_of (tm_3 (List.mem_of_getElem? (i := 209) rfl)) rfl
theorem mf_J6_bitCount_0f7a4 : tp_MS yJ6_bitCount_0f7a4 (Cond.code yJ6_bitCount_0f7a4 cJ6_bitCount_0f7a4 1 (some .int)) cJ6_bitCount_0f7a4 1 (some .int) 1 := ⟨⟨rfl, mc_J6_bitCount_0f7a4, mi_J6, by decide +kernel, by decide⟩, ms_J6_bitCount_0f7a4⟩
theorem ml_X10_107 : Cond.methodLink RX10 107 yX4_startAnew ∈ tp_W := tp_W_of (tm_2 (List.mem_of_getElem? (i := 10) rfl)) rfl
theorem ml_X4_24 : Cond.methodLink RX4 24 yX4_clear ∈ tp_W := tp_W_of (tm_2 (List.mem_of_getElem? (i := 14) rfl)) rfl
theorem ml_X4_31 : Cond.methodLink RX4 31 yX4_addWay ∈ tp_W := tp_W_of (tm_2 (List.mem_of_getElem? (i := 18) rfl)) rfl
theorem ml_X4_35 : Cond.methodLink RX4 35 yX4_measure ∈ tp_W := tp_W_of (tm_2 (List.mem_of_getElem? (i := 22) rfl)) rfl
theorem ml_X10_110 : Cond.methodLink RX10 110 yX10_fillColdPartners ∈ tp_W := tp_W_of (tm_2 (List.mem_of_getElem? (i := 26) rfl)) rfl
theorem ml_X10_114 : Cond.methodLink RX10 114 yX7_size ∈ tp_W := tp_W_of (tm_2 (List.mem_of_getElem? (i := 91) rfl)) rfl
theorem ml_X10_118 : Cond.methodLink RX10 118 yX7_add ∈ tp_W := tp_W_of (tm_2 (List.mem_of_getElem? (i := 95) rfl)) rfl
theorem ml_X10_122 : Cond.methodLink RX10 122 yX7_cut ∈ tp_W := tp_W_of (tm_2 (List.mem_of_getElem? (i := 103) rfl)) rfl
theorem ml_X10_125 : Cond.methodLink RX10 125 yX4_read ∈ tp_W := tp_W_of (tm_2 (List.mem_of_getElem? (i := 111) rfl)) rfl
theorem ml_X4_48 : Cond.methodLink RX4 48 yX7_size ∈ tp_W := tp_W_of (tm_2 (List.mem_of_getElem? (i := 115) rfl)) rfl
theorem ml_X4_54 : Cond.methodLink RX4 54 yX7_at ∈ tp_W := tp_W_of (tm_2 (List.mem_of_getElem? (i := 116) rfl)) rfl
theorem ml_X4_58 : Cond.methodLink RX4 58 yX4_check ∈ tp_W := tp_W_of (tm_2 (List.mem_of_getElem? (i := 120) rfl)) rfl
theorem ml_X10_129 : Cond.methodLink RX10 129 yX4_copyFrom ∈ tp_W := tp_W_of (tm_2 (List.mem_of_getElem? (i := 124) rfl)) rfl
theorem ml_X4_42 : Cond.methodLink RX4 42 arraycopyName ∈ tp_W := tp_W_of (tm_2 (List.mem_of_getElem? (i := 128) rfl)) rfl
theorem ml_X10_133 : Cond.methodLink RX10 133 yX2_clear ∈ tp_W := tp_W_of (tm_2 (List.mem_of_getElem? (i := 131) rfl)) rfl
theorem ml_X10_136 : Cond.methodLink RX10 136 yX3_forgetAll ∈ tp_W := tp_W_of (tm_2 (List.mem_of_getElem? (i := 135) rfl)) rfl
theorem ml_X10_139 : Cond.methodLink RX10 139 yX6_clear ∈ tp_W := tp_W_of (tm_2 (List.mem_of_getElem? (i := 139) rfl)) rfl
theorem ml_X10_140 : Cond.methodLink RX10 140 yX1_clear ∈ tp_W := tp_W_of (tm_2 (List.mem_of_getElem? (i := 143) rfl)) rfl
theorem ml_X10_141 : Cond.methodLink RX10 141 yX9_read ∈ tp_W := tp_W_of (tm_2 (List.mem_of_getElem? (i := 151) rfl)) rfl
theorem ml_X9_48 : Cond.methodLink RX9 48 yX7_size ∈ tp_W := tp_W_of (tm_2 (List.mem_of_getElem? (i := 155) rfl)) rfl
theorem ml_X9_53 : Cond.methodLink RX9 53 Lib.Math.min.name ∈ tp_W := tp_W_of (tm_2 (List.mem_of_getElem? (i := 156) rfl)) rfl
theorem ml_X9_59 : Cond.methodLink RX9 59 yX7_at ∈ tp_W := tp_W_of (tm_2 (List.mem_of_getElem? (i := 159) rfl)) rfl
theorem ml_X9_63 : Cond.methodLink RX9 63 yX9_takeThing ∈ tp_W := tp_W_of (tm_2 (List.mem_of_getElem? (i := 160) rfl)) rfl
theorem ml_X9_74 : Cond.methodLink RX9 74 yX9_hold ∈ tp_W := tp_W_of (tm_2 (List.mem_of_getElem? (i := 164) rfl)) rfl
theorem ml_X9_80 : Cond.methodLink RX9 80 yX9_isLetter ∈ tp_W := tp_W_of (tm_2 (List.mem_of_getElem? (i := 171) rfl)) rfl
theorem ml_X9_83 : Cond.methodLink RX9 83 yX9_emit ∈ tp_W := tp_W_of (tm_2 (List.mem_of_getElem? (i := 174) rfl)) rfl
theorem ml_X9_67 : Cond.methodLink RX9 67 yX9_takeNext ∈ tp_W := tp_W_of (tm_2 (List.mem_of_getElem? (i := 178) rfl)) rfl
theorem ml_X9_86 : Cond.methodLink RX9 86 yX9_takeDigit ∈ tp_W := tp_W_of (tm_2 (List.mem_of_getElem? (i := 182) rfl)) rfl
theorem ml_X9_70 : Cond.methodLink RX9 70 yX9_emitWaiting ∈ tp_W := tp_W_of (tm_2 (List.mem_of_getElem? (i := 186) rfl)) rfl
theorem ml_X9_89 : Cond.methodLink RX9 89 yX9_strengthOf ∈ tp_W := tp_W_of (tm_2 (List.mem_of_getElem? (i := 190) rfl)) rfl
theorem ml_X10_142 : Cond.methodLink RX10 142 yX9_copyFrom ∈ tp_W := tp_W_of (tm_2 (List.mem_of_getElem? (i := 193) rfl)) rfl
theorem ml_X9_29 : Cond.methodLink RX9 29 arraycopyName ∈ tp_W := tp_W_of (tm_2 (List.mem_of_getElem? (i := 197) rfl)) rfl
theorem ml_X10_176 : Cond.methodLink RX10 176 yX4_hasPost ∈ tp_W := tp_W_of (tm_2 (List.mem_of_getElem? (i := 202) rfl)) rfl
theorem ml_X10_187 : Cond.methodLink RX10 187 yX10_sheetEntry ∈ tp_W := tp_W_of (tm_2 (List.mem_of_getElem? (i := 206) rfl)) rfl
theorem ml_X10_193 : Cond.methodLink RX10 193 Lib.Math.min.name ∈ tp_W := tp_W_of (tm_2 (List.mem_of_getElem? (i := 209) rfl)) rfl
theorem ml_X10_198 : Cond.methodLink RX10 198 Lib.Math.max.name ∈ tp_W := tp_W_of (tm_2 (List.mem_of_getElem? (i := 210) rfl)) rfl
theorem ml_X10_190 : Cond.methodLink RX10 190 yX2_walkers ∈ tp_W := tp_W_of (tm_2 (List.mem_of_getElem? (i := 213) rfl)) rfl
theorem ml_X10_201 : Cond.methodLink RX10 201 yX2_copyFrom ∈ tp_W := tp_W_of (tm_2 (List.mem_of_getElem? (i := 221) rfl)) rfl
theorem ml_X2_25 : Cond.methodLink RX2 25 arraycopyName ∈ tp_W := tp_W_of (tm_2 (List.mem_of_getElem? (i := 225) rfl)) rfl
theorem ml_X10_204 : Cond.methodLink RX10 204 yX10_actComes ∈ tp_W := tp_W_of (tm_2 (List.mem_of_getElem? (i := 226) rfl)) rfl
theorem ml_X10_207 : Cond.methodLink RX10 207 yX10_kept ∈ tp_W := tp_W_of (tm_2 (List.mem_of_getElem? (i := 230) rfl)) rfl
theorem ml_X10_238 : Cond.methodLink RX10 238 yX3_push ∈ tp_W := tp_W_of (tm_2 (List.mem_of_getElem? (i := 234) rfl)) rfl
theorem ml_X3_25 : Cond.methodLink RX3 25 yX3_write ∈ tp_W := tp_W_of (tm_2 (List.mem_of_getElem? (i := 238) rfl)) rfl
theorem ml_X3_41 : Cond.methodLink RX3 41 arraycopyName ∈ tp_W := tp_W_of (tm_3 (List.mem_of_getElem? (i := 2) rfl)) rfl
theorem ml_X10_210 : Cond.methodLink RX10 210 yX10_actGoes ∈ tp_W := tp_W_of (tm_3 (List.mem_of_getElem? (i := 7) rfl)) rfl
theorem ml_X10_250 : Cond.methodLink RX10 250 yX10_stepOf ∈ tp_W := tp_W_of (tm_3 (List.mem_of_getElem? (i := 11) rfl)) rfl
theorem ml_X10_303 : Cond.methodLink RX10 303 yX10_stride ∈ tp_W := tp_W_of (tm_3 (List.mem_of_getElem? (i := 15) rfl)) rfl
theorem ml_X10_156 : Cond.methodLink RX10 156 yX4_degree ∈ tp_W := tp_W_of (tm_3 (List.mem_of_getElem? (i := 19) rfl)) rfl
theorem ml_X4_61 : Cond.methodLink RX4 61 yX4_hasPost ∈ tp_W := tp_W_of (tm_3 (List.mem_of_getElem? (i := 23) rfl)) rfl
theorem ml_X10_163 : Cond.methodLink RX10 163 yX4_goal ∈ tp_W := tp_W_of (tm_3 (List.mem_of_getElem? (i := 24) rfl)) rfl
theorem ml_X4_65 : Cond.methodLink RX4 65 yX4_hasWay ∈ tp_W := tp_W_of (tm_3 (List.mem_of_getElem? (i := 28) rfl)) rfl
theorem ml_X10_179 : Cond.methodLink RX10 179 yX9_turn ∈ tp_W := tp_W_of (tm_3 (List.mem_of_getElem? (i := 32) rfl)) rfl
theorem ml_X9_92 : Cond.methodLink RX9 92 yX9_letterValue ∈ tp_W := tp_W_of (tm_3 (List.mem_of_getElem? (i := 36) rfl)) rfl
theorem ml_X9_96 : Cond.methodLink RX9 96 yX9_joined ∈ tp_W := tp_W_of (tm_3 (List.mem_of_getElem? (i := 39) rfl)) rfl
theorem ml_X9_100 : Cond.methodLink RX9 100 Lib.Math.max.name ∈ tp_W := tp_W_of (tm_3 (List.mem_of_getElem? (i := 42) rfl)) rfl
theorem ml_X10_287 : Cond.methodLink RX10 287 yX2_house ∈ tp_W := tp_W_of (tm_3 (List.mem_of_getElem? (i := 43) rfl)) rfl
theorem ml_X2_31 : Cond.methodLink RX2 31 Lib.Math.min.name ∈ tp_W := tp_W_of (tm_3 (List.mem_of_getElem? (i := 47) rfl)) rfl
theorem ml_X10_241 : Cond.methodLink RX10 241 yX8_tell__ ∈ tp_W := tp_W_of (tm_3 (List.mem_of_getElem? (i := 49) rfl)) rfl
theorem ml_X8_26 : Cond.methodLink RX8 26 yX8_tell_ ∈ tp_W := tp_W_of (tm_3 (List.mem_of_getElem? (i := 53) rfl)) rfl
theorem ml_X8_19 : Cond.methodLink RX8 19 yX8_tell ∈ tp_W := tp_W_of (tm_3 (List.mem_of_getElem? (i := 57) rfl)) rfl
theorem ml_X8_22 : Cond.methodLink RX8 22 yX8_add ∈ tp_W := tp_W_of (tm_3 (List.mem_of_getElem? (i := 61) rfl)) rfl
theorem ml_X10_213 : Cond.methodLink RX10 213 yX10_actWalks ∈ tp_W := tp_W_of (tm_3 (List.mem_of_getElem? (i := 69) rfl)) rfl
theorem ml_X10_254 : Cond.methodLink RX10 254 yX10_walkHome ∈ tp_W := tp_W_of (tm_3 (List.mem_of_getElem? (i := 73) rfl)) rfl
theorem ml_X10_258 : Cond.methodLink RX10 258 yX8_tell_ ∈ tp_W := tp_W_of (tm_3 (List.mem_of_getElem? (i := 77) rfl)) rfl
theorem ml_X10_216 : Cond.methodLink RX10 216 yX10_actBursts ∈ tp_W := tp_W_of (tm_3 (List.mem_of_getElem? (i := 82) rfl)) rfl
theorem ml_X10_261 : Cond.methodLink RX10 261 yX10_canBurst ∈ tp_W := tp_W_of (tm_3 (List.mem_of_getElem? (i := 86) rfl)) rfl
theorem ml_X10_265 : Cond.methodLink RX10 265 yX10_burst ∈ tp_W := tp_W_of (tm_3 (List.mem_of_getElem? (i := 90) rfl)) rfl
theorem ml_X10_284 : Cond.methodLink RX10 284 yX4_waysTo ∈ tp_W := tp_W_of (tm_3 (List.mem_of_getElem? (i := 94) rfl)) rfl
theorem ml_X4_71 : Cond.methodLink RX4 71 yX4_degree ∈ tp_W := tp_W_of (tm_3 (List.mem_of_getElem? (i := 98) rfl)) rfl
theorem ml_X4_74 : Cond.methodLink RX4 74 yX4_goal ∈ tp_W := tp_W_of (tm_3 (List.mem_of_getElem? (i := 99) rfl)) rfl
theorem ml_X10_219 : Cond.methodLink RX10 219 yX10_actCalms ∈ tp_W := tp_W_of (tm_3 (List.mem_of_getElem? (i := 104) rfl)) rfl
theorem ml_X10_268 : Cond.methodLink RX10 268 yX5_load ∈ tp_W := tp_W_of (tm_3 (List.mem_of_getElem? (i := 108) rfl)) rfl
theorem ml_X10_271 : Cond.methodLink RX10 271 yX5_calm ∈ tp_W := tp_W_of (tm_3 (List.mem_of_getElem? (i := 112) rfl)) rfl
theorem ml_X5_21 : Cond.methodLink RX5 21 yX4_crossings ∈ tp_W := tp_W_of (tm_3 (List.mem_of_getElem? (i := 116) rfl)) rfl
theorem ml_X5_27 : Cond.methodLink RX5 27 yX5_burstAtOnce ∈ tp_W := tp_W_of (tm_3 (List.mem_of_getElem? (i := 120) rfl)) rfl
theorem ml_X5_31 : Cond.methodLink RX5 31 yX4_degree ∈ tp_W := tp_W_of (tm_3 (List.mem_of_getElem? (i := 124) rfl)) rfl
theorem ml_X5_35 : Cond.methodLink RX5 35 yX4_goal ∈ tp_W := tp_W_of (tm_3 (List.mem_of_getElem? (i := 125) rfl)) rfl
theorem ml_X5_39 : Cond.methodLink RX5 39 yX4_hasPost ∈ tp_W := tp_W_of (tm_3 (List.mem_of_getElem? (i := 126) rfl)) rfl
theorem ml_X10_275 : Cond.methodLink RX10 275 yX4_crossings ∈ tp_W := tp_W_of (tm_3 (List.mem_of_getElem? (i := 127) rfl)) rfl
theorem ml_X10_290 : Cond.methodLink RX10 290 yX8_tellRow ∈ tp_W := tp_W_of (tm_3 (List.mem_of_getElem? (i := 128) rfl)) rfl
theorem ml_X10_222 : Cond.methodLink RX10 222 yX10_actPoints ∈ tp_W := tp_W_of (tm_3 (List.mem_of_getElem? (i := 136) rfl)) rfl
theorem ml_X10_183 : Cond.methodLink RX10 183 yX4_hasWay ∈ tp_W := tp_W_of (tm_3 (List.mem_of_getElem? (i := 140) rfl)) rfl
theorem ml_X10_225 : Cond.methodLink RX10 225 yX10_checkDay ∈ tp_W := tp_W_of (tm_3 (List.mem_of_getElem? (i := 145) rfl)) rfl
theorem ml_X10_228 : Cond.methodLink RX10 228 yX7_at ∈ tp_W := tp_W_of (tm_3 (List.mem_of_getElem? (i := 149) rfl)) rfl
theorem ml_X10_231 : Cond.methodLink RX10 231 yX10_isAct ∈ tp_W := tp_W_of (tm_3 (List.mem_of_getElem? (i := 150) rfl)) rfl
theorem ml_X10_294 : Cond.methodLink RX10 294 yX10_signsOf ∈ tp_W := tp_W_of (tm_3 (List.mem_of_getElem? (i := 153) rfl)) rfl
theorem ml_X10_297 : Cond.methodLink RX10 297 yX10_isSecondDigit ∈ tp_W := tp_W_of (tm_3 (List.mem_of_getElem? (i := 156) rfl)) rfl
theorem ml_X10_300 : Cond.methodLink RX10 300 yX10_isDigit ∈ tp_W := tp_W_of (tm_3 (List.mem_of_getElem? (i := 159) rfl)) rfl
theorem ml_X10_234 : Cond.methodLink RX10 234 yX10_act ∈ tp_W := tp_W_of (tm_3 (List.mem_of_getElem? (i := 160) rfl)) rfl
theorem ml_X10_245 : Cond.methodLink RX10 245 yX3_takeBack ∈ tp_W := tp_W_of (tm_3 (List.mem_of_getElem? (i := 168) rfl)) rfl
theorem ml_X3_29 : Cond.methodLink RX3 29 yX3_read ∈ tp_W := tp_W_of (tm_3 (List.mem_of_getElem? (i := 172) rfl)) rfl
theorem ml_X10_249 : Cond.methodLink RX10 249 yX3_size ∈ tp_W := tp_W_of (tm_3 (List.mem_of_getElem? (i := 176) rfl)) rfl
theorem ml_X10_310 : Cond.methodLink RX10 310 yX2_hasPostsOf ∈ tp_W := tp_W_of (tm_3 (List.mem_of_getElem? (i := 196) rfl)) rfl
theorem ml_X10_313 : Cond.methodLink RX10 313 yX10_trackOf ∈ tp_W := tp_W_of (tm_3 (List.mem_of_getElem? (i := 204) rfl)) rfl
theorem ml_X10_316 : Cond.methodLink RX10 316 yJ6_bitCount_0f7a4 ∈ tp_W := tp_W_of (tm_3 (List.mem_of_getElem? (i := 208) rfl)) rfl
theorem ml_X10_321 : Cond.methodLink RX10 321 yX10_isFirstOfRing ∈ tp_W := tp_W_of (tm_3 (List.mem_of_getElem? (i := 218) rfl)) rfl
theorem ml_X10_324 : Cond.methodLink RX10 324 yX0_treesWith ∈ tp_W := tp_W_of (tm_3 (List.mem_of_getElem? (i := 226) rfl)) rfl
theorem ml_X0_23 : Cond.methodLink RX0 23 yX4_crossings ∈ tp_W := tp_W_of (tm_3 (List.mem_of_getElem? (i := 230) rfl)) rfl
theorem ml_X0_29 : Cond.methodLink RX0 29 yX0_clearCells ∈ tp_W := tp_W_of (tm_3 (List.mem_of_getElem? (i := 231) rfl)) rfl
theorem ml_X0_32 : Cond.methodLink RX0 32 yX4_goal ∈ tp_W := tp_W_of (tm_3 (List.mem_of_getElem? (i := 235) rfl)) rfl
theorem ml_X0_36 : Cond.methodLink RX0 36 yX0_addWay ∈ tp_W := tp_W_of (tm_3 (List.mem_of_getElem? (i := 236) rfl)) rfl
theorem ml_X0_40 : Cond.methodLink RX0 40 yX4_degree ∈ tp_W := tp_W_of (tm_4 (List.mem_of_getElem? (i := 0) rfl)) rfl
theorem ml_X0_44 : Cond.methodLink RX0 44 yX0_eliminate ∈ tp_W := tp_W_of (tm_4 (List.mem_of_getElem? (i := 1) rfl)) rfl
theorem ml_X10_328 : Cond.methodLink RX10 328 yX10_mendsWith ∈ tp_W := tp_W_of (tm_4 (List.mem_of_getElem? (i := 17) rfl)) rfl
theorem ml_X10_332 : Cond.methodLink RX10 332 yX10_changedUpTo ∈ tp_W := tp_W_of (tm_4 (List.mem_of_getElem? (i := 22) rfl)) rfl
theorem ml_X10_335 : Cond.methodLink RX10 335 yX10_closesRing ∈ tp_W := tp_W_of (tm_4 (List.mem_of_getElem? (i := 26) rfl)) rfl
theorem ml_X10_145 : Cond.methodLink RX10 145 yX4_has ∈ tp_W := tp_W_of (tm_4 (List.mem_of_getElem? (i := 34) rfl)) rfl
theorem ml_X10_338 : Cond.methodLink RX10 338 yX4_measure ∈ tp_W := tp_W_of (tm_4 (List.mem_of_getElem? (i := 38) rfl)) rfl
theorem ml_X10_342 : Cond.methodLink RX10 342 yX8_tell ∈ tp_W := tp_W_of (tm_4 (List.mem_of_getElem? (i := 39) rfl)) rfl
theorem ml_X10_344 : Cond.methodLink RX10 344 yX10_leastNext ∈ tp_W := tp_W_of (tm_4 (List.mem_of_getElem? (i := 40) rfl)) rfl
theorem ml_X10_347 : Cond.methodLink RX10 347 yX8_add ∈ tp_W := tp_W_of (tm_4 (List.mem_of_getElem? (i := 44) rfl)) rfl
theorem ml_X10_349 : Cond.methodLink RX10 349 yX4_reach ∈ tp_W := tp_W_of (tm_4 (List.mem_of_getElem? (i := 49) rfl)) rfl
theorem ml_X10_352 : Cond.methodLink RX10 352 yX4_parishOf ∈ tp_W := tp_W_of (tm_4 (List.mem_of_getElem? (i := 57) rfl)) rfl
theorem ml_X4_78 : Cond.methodLink RX4 78 yX4_reach ∈ tp_W := tp_W_of (tm_4 (List.mem_of_getElem? (i := 61) rfl)) rfl
theorem ml_X10_355 : Cond.methodLink RX10 355 yX0_solve ∈ tp_W := tp_W_of (tm_4 (List.mem_of_getElem? (i := 66) rfl)) rfl
theorem ml_X0_48 : Cond.methodLink RX0 48 yX0_place ∈ tp_W := tp_W_of (tm_4 (List.mem_of_getElem? (i := 70) rfl)) rfl
theorem ml_X0_52 : Cond.methodLink RX0 52 yX0_tellFraction ∈ tp_W := tp_W_of (tm_4 (List.mem_of_getElem? (i := 73) rfl)) rfl
theorem ml_X10_366 : Cond.methodLink RX10 366 yX0_spread ∈ tp_W := tp_W_of (tm_4 (List.mem_of_getElem? (i := 85) rfl)) rfl
theorem ml_X0_63 : Cond.methodLink RX0 63 yX4_has ∈ tp_W := tp_W_of (tm_4 (List.mem_of_getElem? (i := 89) rfl)) rfl
theorem ml_X0_66 : Cond.methodLink RX0 66 yX0_spreadOnce ∈ tp_W := tp_W_of (tm_4 (List.mem_of_getElem? (i := 90) rfl)) rfl
theorem ml_X10_370 : Cond.methodLink RX10 370 yX5_makeUnit ∈ tp_W := tp_W_of (tm_4 (List.mem_of_getElem? (i := 103) rfl)) rfl
theorem ml_X5_43 : Cond.methodLink RX5 43 yX5_fillTwice ∈ tp_W := tp_W_of (tm_4 (List.mem_of_getElem? (i := 107) rfl)) rfl
theorem ml_X5_47 : Cond.methodLink RX5 47 yX5_calm ∈ tp_W := tp_W_of (tm_4 (List.mem_of_getElem? (i := 111) rfl)) rfl
theorem ml_X10_376 : Cond.methodLink RX10 376 yX10_someCanBurst ∈ tp_W := tp_W_of (tm_4 (List.mem_of_getElem? (i := 116) rfl)) rfl
theorem ml_X10_380 : Cond.methodLink RX10 380 yX5_pour ∈ tp_W := tp_W_of (tm_4 (List.mem_of_getElem? (i := 120) rfl)) rfl
theorem ml_X10_383 : Cond.methodLink RX10 383 yX5_holds ∈ tp_W := tp_W_of (tm_4 (List.mem_of_getElem? (i := 124) rfl)) rfl
theorem ml_X10_387 : Cond.methodLink RX10 387 yX3_isNumber ∈ tp_W := tp_W_of (tm_4 (List.mem_of_getElem? (i := 132) rfl)) rfl
theorem ml_X10_390 : Cond.methodLink RX10 390 yX3_bring ∈ tp_W := tp_W_of (tm_4 (List.mem_of_getElem? (i := 136) rfl)) rfl
theorem ml_X3_32 : Cond.methodLink RX3 32 yX3_isNumber ∈ tp_W := tp_W_of (tm_4 (List.mem_of_getElem? (i := 140) rfl)) rfl
theorem ml_X10_394 : Cond.methodLink RX10 394 yX6_add ∈ tp_W := tp_W_of (tm_4 (List.mem_of_getElem? (i := 153) rfl)) rfl
theorem ml_X10_397 : Cond.methodLink RX10 397 yX6_size ∈ tp_W := tp_W_of (tm_4 (List.mem_of_getElem? (i := 157) rfl)) rfl
theorem ml_X10_398 : Cond.methodLink RX10 398 yX10_possibleNumbers ∈ tp_W := tp_W_of (tm_4 (List.mem_of_getElem? (i := 169) rfl)) rfl
theorem ml_X10_408 : Cond.methodLink RX10 408 yX10_fitsSights ∈ tp_W := tp_W_of (tm_4 (List.mem_of_getElem? (i := 173) rfl)) rfl
theorem ml_X10_411 : Cond.methodLink RX10 411 yX6_start ∈ tp_W := tp_W_of (tm_4 (List.mem_of_getElem? (i := 177) rfl)) rfl
theorem ml_X10_414 : Cond.methodLink RX10 414 yX6_steps ∈ tp_W := tp_W_of (tm_4 (List.mem_of_getElem? (i := 181) rfl)) rfl
theorem ml_X10_416 : Cond.methodLink RX10 416 yX6_place ∈ tp_W := tp_W_of (tm_4 (List.mem_of_getElem? (i := 185) rfl)) rfl
theorem ml_X10_401 : Cond.methodLink RX10 401 yX10_fillPlaces ∈ tp_W := tp_W_of (tm_4 (List.mem_of_getElem? (i := 193) rfl)) rfl
theorem ml_X10_405 : Cond.methodLink RX10 405 yX10_mostAtOnePlace ∈ tp_W := tp_W_of (tm_4 (List.mem_of_getElem? (i := 197) rfl)) rfl
theorem ml_X10_419 : Cond.methodLink RX10 419 yX1_canBeHeard ∈ tp_W := tp_W_of (tm_4 (List.mem_of_getElem? (i := 205) rfl)) rfl
theorem ml_X10_422 : Cond.methodLink RX10 422 yX1_add ∈ tp_W := tp_W_of (tm_4 (List.mem_of_getElem? (i := 208) rfl)) rfl
theorem ml_X10_424 : Cond.methodLink RX10 424 yX1_size ∈ tp_W := tp_W_of (tm_4 (List.mem_of_getElem? (i := 212) rfl)) rfl
theorem ml_X10_425 : Cond.methodLink RX10 425 yX10_fittingCrossings ∈ tp_W := tp_W_of (tm_4 (List.mem_of_getElem? (i := 224) rfl)) rfl
theorem ml_X10_431 : Cond.methodLink RX10 431 yX1_what ∈ tp_W := tp_W_of (tm_4 (List.mem_of_getElem? (i := 228) rfl)) rfl
theorem ml_X10_434 : Cond.methodLink RX10 434 yX1_value ∈ tp_W := tp_W_of (tm_4 (List.mem_of_getElem? (i := 232) rfl)) rfl
theorem ml_X10_428 : Cond.methodLink RX10 428 yX10_crossingsOf ∈ tp_W := tp_W_of (tm_4 (List.mem_of_getElem? (i := 236) rfl)) rfl
theorem ml_X10_437 : Cond.methodLink RX10 437 yX10_isSo ∈ tp_W := tp_W_of (tm_5 (List.mem_of_getElem? (i := 0) rfl)) rfl
theorem ml_X10_173 : Cond.methodLink RX10 173 yX4_far ∈ tp_W := tp_W_of (tm_5 (List.mem_of_getElem? (i := 4) rfl)) rfl
theorem ml_X4_68 : Cond.methodLink RX4 68 yX4_has ∈ tp_W := tp_W_of (tm_5 (List.mem_of_getElem? (i := 8) rfl)) rfl
theorem ml_X10_440 : Cond.methodLink RX10 440 yX10_isCold ∈ tp_W := tp_W_of (tm_5 (List.mem_of_getElem? (i := 17) rfl)) rfl
theorem ml_X10_443 : Cond.methodLink RX10 443 yX10_lengthBy ∈ tp_W := tp_W_of (tm_5 (List.mem_of_getElem? (i := 25) rfl)) rfl
theorem ml_X10_447 : Cond.methodLink RX10 447 yX10_isBestWait ∈ tp_W := tp_W_of (tm_5 (List.mem_of_getElem? (i := 33) rfl)) rfl
theorem ml_X10_450 : Cond.methodLink RX10 450 yX10_waitCost ∈ tp_W := tp_W_of (tm_5 (List.mem_of_getElem? (i := 36) rfl)) rfl
theorem ml_X10_453 : Cond.methodLink RX10 453 yX10_nextRandom ∈ tp_W := tp_W_of (tm_5 (List.mem_of_getElem? (i := 43) rfl)) rfl
theorem ml_X10_456 : Cond.methodLink RX10 456 yX10_draw ∈ tp_W := tp_W_of (tm_5 (List.mem_of_getElem? (i := 47) rfl)) rfl
theorem ml_X10_460 : Cond.methodLink RX10 460 yX3_store ∈ tp_W := tp_W_of (tm_5 (List.mem_of_getElem? (i := 54) rfl)) rfl
theorem ml_X10_464 : Cond.methodLink RX10 464 yX3_forgetActs ∈ tp_W := tp_W_of (tm_5 (List.mem_of_getElem? (i := 62) rfl)) rfl
theorem ml_X10_467 : Cond.methodLink RX10 467 yX4_waysInAll ∈ tp_W := tp_W_of (tm_5 (List.mem_of_getElem? (i := 70) rfl)) rfl
theorem ml_X10_470 : Cond.methodLink RX10 470 yX2_peopled ∈ tp_W := tp_W_of (tm_5 (List.mem_of_getElem? (i := 74) rfl)) rfl
theorem ml_X10_473 : Cond.methodLink RX10 473 yX8_size ∈ tp_W := tp_W_of (tm_5 (List.mem_of_getElem? (i := 78) rfl)) rfl
theorem ml_X10_170 : Cond.methodLink RX10 170 yX10_turnNow ∈ tp_W := tp_W_of (tm_5 (List.mem_of_getElem? (i := 151) rfl)) rfl
theorem ml_X10_474 : Cond.methodLink RX10 474 yX8_at ∈ tp_W := tp_W_of (tm_5 (List.mem_of_getElem? (i := 169) rfl)) rfl
theorem ml_X11_129 : Cond.methodLink RX11 129 yX11_in ∈ tp_W := tp_W_of (tm_6 (List.mem_of_getElem? (i := 108) rfl)) rfl
theorem ml_X11_187 : Cond.methodLink RX11 187 yX11_begins ∈ tp_W := tp_W_of (tm_6 (List.mem_of_getElem? (i := 115) rfl)) rfl
theorem ml_X11_142 : Cond.methodLink RX11 142 Lib.Math.min.name ∈ tp_W := tp_W_of (tm_6 (List.mem_of_getElem? (i := 119) rfl)) rfl
theorem ml_X11_190 : Cond.methodLink RX11 190 yX11_readsLine ∈ tp_W := tp_W_of (tm_6 (List.mem_of_getElem? (i := 120) rfl)) rfl
theorem ml_X11_169 : Cond.methodLink RX11 169 yX11_isDigit ∈ tp_W := tp_W_of (tm_6 (List.mem_of_getElem? (i := 124) rfl)) rfl
theorem ml_X11_179 : Cond.methodLink RX11 179 yX11_digitOf ∈ tp_W := tp_W_of (tm_6 (List.mem_of_getElem? (i := 130) rfl)) rfl
theorem ml_X11_173 : Cond.methodLink RX11 173 yX11_digitIn ∈ tp_W := tp_W_of (tm_6 (List.mem_of_getElem? (i := 134) rfl)) rfl
theorem ml_X11_151 : Cond.methodLink RX11 151 yX11_flag ∈ tp_W := tp_W_of (tm_6 (List.mem_of_getElem? (i := 138) rfl)) rfl
theorem ml_X11_193 : Cond.methodLink RX11 193 yX11_takes ∈ tp_W := tp_W_of (tm_6 (List.mem_of_getElem? (i := 141) rfl)) rfl
theorem ml_X11_197 : Cond.methodLink RX11 197 yX11_allCome ∈ tp_W := tp_W_of (tm_6 (List.mem_of_getElem? (i := 145) rfl)) rfl
theorem ml_X11_183 : Cond.methodLink RX11 183 yX11_has ∈ tp_W := tp_W_of (tm_6 (List.mem_of_getElem? (i := 149) rfl)) rfl
theorem ml_X11_244 : Cond.methodLink RX11 244 yX11_readsRule ∈ tp_W := tp_W_of (tm_6 (List.mem_of_getElem? (i := 156) rfl)) rfl
theorem ml_X11_228 : Cond.methodLink RX11 228 yX11_readsRank ∈ tp_W := tp_W_of (tm_6 (List.mem_of_getElem? (i := 160) rfl)) rfl
theorem ml_X11_212 : Cond.methodLink RX11 212 yX11_readsThing ∈ tp_W := tp_W_of (tm_6 (List.mem_of_getElem? (i := 164) rfl)) rfl
theorem ml_X11_215 : Cond.methodLink RX11 215 yX11_codes ∈ tp_W := tp_W_of (tm_6 (List.mem_of_getElem? (i := 168) rfl)) rfl
theorem ml_X11_219 : Cond.methodLink RX11 219 yX11_number ∈ tp_W := tp_W_of (tm_6 (List.mem_of_getElem? (i := 172) rfl)) rfl
theorem ml_X11_224 : Cond.methodLink RX11 224 yX11_takesOf ∈ tp_W := tp_W_of (tm_6 (List.mem_of_getElem? (i := 177) rfl)) rfl
theorem ml_X11_237 : Cond.methodLink RX11 237 yX11_faultOf ∈ tp_W := tp_W_of (tm_6 (List.mem_of_getElem? (i := 232) rfl)) rfl
theorem ml_X11_247 : Cond.methodLink RX11 247 yX11_laysCode ∈ tp_W := tp_W_of (tm_6 (List.mem_of_getElem? (i := 236) rfl)) rfl
theorem ml_X11_265 : Cond.methodLink RX11 265 yX11_isCrossing ∈ tp_W := tp_W_of (tm_7 (List.mem_of_getElem? (i := 5) rfl)) rfl
theorem ml_X11_270 : Cond.methodLink RX11 270 yX11_refuse ∈ tp_W := tp_W_of (tm_7 (List.mem_of_getElem? (i := 10) rfl)) rfl
theorem ml_X11_273 : Cond.methodLink RX11 273 yX11_laysFar ∈ tp_W := tp_W_of (tm_7 (List.mem_of_getElem? (i := 14) rfl)) rfl
theorem ml_X11_255 : Cond.methodLink RX11 255 yX11_goalOf ∈ tp_W := tp_W_of (tm_7 (List.mem_of_getElem? (i := 19) rfl)) rfl
theorem ml_X11_276 : Cond.methodLink RX11 276 yX11_turn ∈ tp_W := tp_W_of (tm_7 (List.mem_of_getElem? (i := 23) rfl)) rfl
theorem ml_X11_258 : Cond.methodLink RX11 258 yX11_ruled ∈ tp_W := tp_W_of (tm_7 (List.mem_of_getElem? (i := 27) rfl)) rfl
theorem ml_X11_251 : Cond.methodLink RX11 251 yX11_worked ∈ tp_W := tp_W_of (tm_7 (List.mem_of_getElem? (i := 31) rfl)) rfl
theorem ml_X11_261 : Cond.methodLink RX11 261 Lib.Math.max.name ∈ tp_W := tp_W_of (tm_7 (List.mem_of_getElem? (i := 34) rfl)) rfl
theorem ml_X11_280 : Cond.methodLink RX11 280 yX11_isOut ∈ tp_W := tp_W_of (tm_7 (List.mem_of_getElem? (i := 39) rfl)) rfl
theorem ml_X11_285 : Cond.methodLink RX11 285 yX11_walkers ∈ tp_W := tp_W_of (tm_7 (List.mem_of_getElem? (i := 48) rfl)) rfl
theorem ml_X11_292 : Cond.methodLink RX11 292 yX11_takesBack ∈ tp_W := tp_W_of (tm_7 (List.mem_of_getElem? (i := 56) rfl)) rfl
theorem ml_X11_320 : Cond.methodLink RX11 320 yX11_putsBy ∈ tp_W := tp_W_of (tm_7 (List.mem_of_getElem? (i := 64) rfl)) rfl
theorem ml_X11_323 : Cond.methodLink RX11 323 yX11_comesMany ∈ tp_W := tp_W_of (tm_7 (List.mem_of_getElem? (i := 68) rfl)) rfl
theorem ml_X11_327 : Cond.methodLink RX11 327 yX11_counted ∈ tp_W := tp_W_of (tm_7 (List.mem_of_getElem? (i := 73) rfl)) rfl
theorem ml_X11_289 : Cond.methodLink RX11 289 yX11_adds ∈ tp_W := tp_W_of (tm_7 (List.mem_of_getElem? (i := 77) rfl)) rfl
theorem ml_X11_330 : Cond.methodLink RX11 330 yX11_goesOne ∈ tp_W := tp_W_of (tm_7 (List.mem_of_getElem? (i := 85) rfl)) rfl
theorem ml_X11_304 : Cond.methodLink RX11 304 yX11_stepFrom ∈ tp_W := tp_W_of (tm_7 (List.mem_of_getElem? (i := 89) rfl)) rfl
theorem ml_X11_296 : Cond.methodLink RX11 296 yX11_turnsPost ∈ tp_W := tp_W_of (tm_7 (List.mem_of_getElem? (i := 93) rfl)) rfl
theorem ml_X11_299 : Cond.methodLink RX11 299 yX11_comesTo ∈ tp_W := tp_W_of (tm_7 (List.mem_of_getElem? (i := 98) rfl)) rfl
theorem ml_X11_18 : Cond.methodLink RX11 18 yX11_enters ∈ tp_W := tp_W_of (tm_7 (List.mem_of_getElem? (i := 101) rfl)) rfl
theorem ml_X11_333 : Cond.methodLink RX11 333 yX11_walksOne ∈ tp_W := tp_W_of (tm_7 (List.mem_of_getElem? (i := 109) rfl)) rfl
theorem ml_X11_307 : Cond.methodLink RX11 307 yX11_copies ∈ tp_W := tp_W_of (tm_7 (List.mem_of_getElem? (i := 113) rfl)) rfl
theorem ml_X11_336 : Cond.methodLink RX11 336 yX11_burstsOne ∈ tp_W := tp_W_of (tm_7 (List.mem_of_getElem? (i := 120) rfl)) rfl
theorem ml_X11_314 : Cond.methodLink RX11 314 yX11_burstsBy ∈ tp_W := tp_W_of (tm_7 (List.mem_of_getElem? (i := 124) rfl)) rfl
theorem ml_X11_339 : Cond.methodLink RX11 339 yX11_calmsAll ∈ tp_W := tp_W_of (tm_7 (List.mem_of_getElem? (i := 132) rfl)) rfl
theorem ml_X11_317 : Cond.methodLink RX11 317 yX11_calmed ∈ tp_W := tp_W_of (tm_7 (List.mem_of_getElem? (i := 136) rfl)) rfl
theorem ml_X11_342 : Cond.methodLink RX11 342 yX11_pointsTo ∈ tp_W := tp_W_of (tm_7 (List.mem_of_getElem? (i := 144) rfl)) rfl
theorem ml_X11_350 : Cond.methodLink RX11 350 yX11_readsAct ∈ tp_W := tp_W_of (tm_7 (List.mem_of_getElem? (i := 152) rfl)) rfl
theorem ml_X11_353 : Cond.methodLink RX11 353 yX11_does ∈ tp_W := tp_W_of (tm_7 (List.mem_of_getElem? (i := 157) rfl)) rfl
theorem ml_X11_365 : Cond.methodLink RX11 365 yX11_placeAfter ∈ tp_W := tp_W_of (tm_7 (List.mem_of_getElem? (i := 165) rfl)) rfl
theorem ml_X11_356 : Cond.methodLink RX11 356 yX11_stepOf ∈ tp_W := tp_W_of (tm_7 (List.mem_of_getElem? (i := 169) rfl)) rfl
theorem ml_X11_368 : Cond.methodLink RX11 368 yX11_walkOf ∈ tp_W := tp_W_of (tm_7 (List.mem_of_getElem? (i := 177) rfl)) rfl
theorem ml_X11_373 : Cond.methodLink RX11 373 yX11_arePosts ∈ tp_W := tp_W_of (tm_7 (List.mem_of_getElem? (i := 190) rfl)) rfl
theorem ml_X11_377 : Cond.methodLink RX11 377 yX11_comesBy ∈ tp_W := tp_W_of (tm_7 (List.mem_of_getElem? (i := 202) rfl)) rfl
theorem ml_X11_380 : Cond.methodLink RX11 380 yX11_ringsBy ∈ tp_W := tp_W_of (tm_7 (List.mem_of_getElem? (i := 206) rfl)) rfl
theorem ml_X11_386 : Cond.methodLink RX11 386 yX11_settings ∈ tp_W := tp_W_of (tm_7 (List.mem_of_getElem? (i := 214) rfl)) rfl
theorem ml_X11_383 : Cond.methodLink RX11 383 yX11_laysSetting ∈ tp_W := tp_W_of (tm_7 (List.mem_of_getElem? (i := 218) rfl)) rfl
theorem ml_X11_391 : Cond.methodLink RX11 391 yX11_entersPosts ∈ tp_W := tp_W_of (tm_7 (List.mem_of_getElem? (i := 227) rfl)) rfl
theorem ml_X11_394 : Cond.methodLink RX11 394 yX11_comesFrom ∈ tp_W := tp_W_of (tm_8 (List.mem_of_getElem? (i := 7) rfl)) rfl
theorem ml_X11_397 : Cond.methodLink RX11 397 yJ6_bitCount_0f7a4 ∈ tp_W := tp_W_of (tm_8 (List.mem_of_getElem? (i := 11) rfl)) rfl
theorem ml_X11_402 : Cond.methodLink RX11 402 yX11_parishOf ∈ tp_W := tp_W_of (tm_8 (List.mem_of_getElem? (i := 16) rfl)) rfl
theorem ml_X11_405 : Cond.methodLink RX11 405 yJ6_numberOfTrailingZeros_0f7a4 ∈ tp_W := tp_W_of (tm_8 (List.mem_of_getElem? (i := 20) rfl)) rfl
theorem ml_X11_417 : Cond.methodLink RX11 417 yX11_laysMatrix ∈ tp_W := tp_W_of (tm_8 (List.mem_of_getElem? (i := 28) rfl)) rfl
theorem ml_X11_408 : Cond.methodLink RX11 408 yX11_cellOf ∈ tp_W := tp_W_of (tm_8 (List.mem_of_getElem? (i := 32) rfl)) rfl
theorem ml_X11_420 : Cond.methodLink RX11 420 yX11_determinant ∈ tp_W := tp_W_of (tm_8 (List.mem_of_getElem? (i := 35) rfl)) rfl
theorem ml_X11_414 : Cond.methodLink RX11 414 yX11_swapsUp ∈ tp_W := tp_W_of (tm_8 (List.mem_of_getElem? (i := 39) rfl)) rfl
theorem ml_X11_424 : Cond.methodLink RX11 424 yX11_entersFraction ∈ tp_W := tp_W_of (tm_8 (List.mem_of_getElem? (i := 43) rfl)) rfl
theorem ml_X11_7 : Cond.methodLink RX11 7 yX11_common ∈ tp_W := tp_W_of (tm_8 (List.mem_of_getElem? (i := 47) rfl)) rfl
theorem ml_X11_432 : Cond.methodLink RX11 432 yX11_laysUnit ∈ tp_W := tp_W_of (tm_8 (List.mem_of_getElem? (i := 68) rfl)) rfl
theorem ml_X11_435 : Cond.methodLink RX11 435 yX11_entersCrowds ∈ tp_W := tp_W_of (tm_8 (List.mem_of_getElem? (i := 72) rfl)) rfl
theorem ml_X11_439 : Cond.methodLink RX11 439 yX11_canBurst ∈ tp_W := tp_W_of (tm_8 (List.mem_of_getElem? (i := 80) rfl)) rfl
theorem ml_X11_443 : Cond.methodLink RX11 443 yX11_areCrowds ∈ tp_W := tp_W_of (tm_8 (List.mem_of_getElem? (i := 84) rfl)) rfl
theorem ml_X11_454 : Cond.methodLink RX11 454 yX11_numbers ∈ tp_W := tp_W_of (tm_8 (List.mem_of_getElem? (i := 114) rfl)) rfl
theorem ml_X11_450 : Cond.methodLink RX11 450 yX11_placeBy ∈ tp_W := tp_W_of (tm_8 (List.mem_of_getElem? (i := 118) rfl)) rfl
theorem ml_X11_457 : Cond.methodLink RX11 457 yX11_lowest ∈ tp_W := tp_W_of (tm_8 (List.mem_of_getElem? (i := 130) rfl)) rfl
theorem ml_X11_460 : Cond.methodLink RX11 460 yX11_highest ∈ tp_W := tp_W_of (tm_8 (List.mem_of_getElem? (i := 133) rfl)) rfl
theorem ml_X11_467 : Cond.methodLink RX11 467 yX11_fitting ∈ tp_W := tp_W_of (tm_8 (List.mem_of_getElem? (i := 144) rfl)) rfl
theorem ml_X11_463 : Cond.methodLink RX11 463 yX11_isSo ∈ tp_W := tp_W_of (tm_8 (List.mem_of_getElem? (i := 148) rfl)) rfl
theorem ml_X11_476 : Cond.methodLink RX11 476 yX11_goodMove ∈ tp_W := tp_W_of (tm_8 (List.mem_of_getElem? (i := 161) rfl)) rfl
theorem ml_X11_470 : Cond.methodLink RX11 470 yX11_isGood ∈ tp_W := tp_W_of (tm_8 (List.mem_of_getElem? (i := 165) rfl)) rfl
theorem ml_X11_479 : Cond.methodLink RX11 479 yX11_homeOfLast ∈ tp_W := tp_W_of (tm_8 (List.mem_of_getElem? (i := 173) rfl)) rfl
theorem ml_X11_487 : Cond.methodLink RX11 487 yX11_isRest ∈ tp_W := tp_W_of (tm_8 (List.mem_of_getElem? (i := 182) rfl)) rfl
theorem ml_X11_482 : Cond.methodLink RX11 482 yX11_costs ∈ tp_W := tp_W_of (tm_8 (List.mem_of_getElem? (i := 185) rfl)) rfl
theorem ml_X11_494 : Cond.methodLink RX11 494 yX11_draws ∈ tp_W := tp_W_of (tm_8 (List.mem_of_getElem? (i := 192) rfl)) rfl
theorem ml_X11_497 : Cond.methodLink RX11 497 yX11_innOf ∈ tp_W := tp_W_of (tm_8 (List.mem_of_getElem? (i := 197) rfl)) rfl
theorem fl_X7_9 : Cond.fieldLink RX7 9 "TurningPosts$Signs" "signs" "[I" ∈ tp_W := tp_W_of (tm_1 (List.mem_of_getElem? (i := 38) rfl)) rfl
theorem fl_X7_15 : Cond.fieldLink RX7 15 "TurningPosts$Signs" "size" "I" ∈ tp_W := tp_W_of (tm_1 (List.mem_of_getElem? (i := 39) rfl)) rfl
theorem fl_X8_9 : Cond.fieldLink RX8 9 "TurningPosts$Told" "numbers" "[J" ∈ tp_W := tp_W_of (tm_1 (List.mem_of_getElem? (i := 52) rfl)) rfl
theorem fl_X8_15 : Cond.fieldLink RX8 15 "TurningPosts$Told" "size" "I" ∈ tp_W := tp_W_of (tm_1 (List.mem_of_getElem? (i := 53) rfl)) rfl
theorem fl_X4_9 : Cond.fieldLink RX4 9 "TurningPosts$Paths" "degrees" "[I" ∈ tp_W := tp_W_of (tm_1 (List.mem_of_getElem? (i := 66) rfl)) rfl
theorem fl_X4_15 : Cond.fieldLink RX4 15 "TurningPosts$Paths" "goals" "[I" ∈ tp_W := tp_W_of (tm_1 (List.mem_of_getElem? (i := 67) rfl)) rfl
theorem fl_X4_18 : Cond.fieldLink RX4 18 "TurningPosts$Paths" "nexts" "[I" ∈ tp_W := tp_W_of (tm_1 (List.mem_of_getElem? (i := 68) rfl)) rfl
theorem fl_X4_21 : Cond.fieldLink RX4 21 "TurningPosts$Paths" "fars" "[I" ∈ tp_W := tp_W_of (tm_1 (List.mem_of_getElem? (i := 69) rfl)) rfl
theorem fl_X4_27 : Cond.fieldLink RX4 27 "TurningPosts$Paths" "crossings" "I" ∈ tp_W := tp_W_of (tm_1 (List.mem_of_getElem? (i := 70) rfl)) rfl
theorem fl_X4_39 : Cond.fieldLink RX4 39 "TurningPosts$Paths" "waysInAll" "I" ∈ tp_W := tp_W_of (tm_1 (List.mem_of_getElem? (i := 71) rfl)) rfl
theorem fl_X9_9 : Cond.fieldLink RX9 9 "TurningPosts$Turner" "codes" "[I" ∈ tp_W := tp_W_of (tm_1 (List.mem_of_getElem? (i := 91) rfl)) rfl
theorem fl_X9_15 : Cond.fieldLink RX9 15 "TurningPosts$Turner" "waiting" "[I" ∈ tp_W := tp_W_of (tm_1 (List.mem_of_getElem? (i := 92) rfl)) rfl
theorem fl_X9_18 : Cond.fieldLink RX9 18 "TurningPosts$Turner" "stack" "[I" ∈ tp_W := tp_W_of (tm_1 (List.mem_of_getElem? (i := 93) rfl)) rfl
theorem fl_X9_21 : Cond.fieldLink RX9 21 "TurningPosts$Turner" "compared" "[Z" ∈ tp_W := tp_W_of (tm_1 (List.mem_of_getElem? (i := 94) rfl)) rfl
theorem fl_X9_25 : Cond.fieldLink RX9 25 "TurningPosts$Turner" "size" "I" ∈ tp_W := tp_W_of (tm_1 (List.mem_of_getElem? (i := 95) rfl)) rfl
theorem fl_X9_35 : Cond.fieldLink RX9 35 "TurningPosts$Turner" "held" "I" ∈ tp_W := tp_W_of (tm_1 (List.mem_of_getElem? (i := 96) rfl)) rfl
theorem fl_X9_38 : Cond.fieldLink RX9 38 "TurningPosts$Turner" "depth" "I" ∈ tp_W := tp_W_of (tm_1 (List.mem_of_getElem? (i := 97) rfl)) rfl
theorem fl_X9_41 : Cond.fieldLink RX9 41 "TurningPosts$Turner" "digits" "I" ∈ tp_W := tp_W_of (tm_1 (List.mem_of_getElem? (i := 98) rfl)) rfl
theorem fl_X9_44 : Cond.fieldLink RX9 44 "TurningPosts$Turner" "wantsThing" "Z" ∈ tp_W := tp_W_of (tm_1 (List.mem_of_getElem? (i := 99) rfl)) rfl
theorem fl_X2_9 : Cond.fieldLink RX2 9 "TurningPosts$Moor" "posts" "[I" ∈ tp_W := tp_W_of (tm_1 (List.mem_of_getElem? (i := 126) rfl)) rfl
theorem fl_X2_15 : Cond.fieldLink RX2 15 "TurningPosts$Moor" "crowds" "[I" ∈ tp_W := tp_W_of (tm_1 (List.mem_of_getElem? (i := 130) rfl)) rfl
theorem fl_X2_18 : Cond.fieldLink RX2 18 "TurningPosts$Moor" "housed" "I" ∈ tp_W := tp_W_of (tm_1 (List.mem_of_getElem? (i := 134) rfl)) rfl
theorem fl_X2_22 : Cond.fieldLink RX2 22 "TurningPosts$Moor" "steps" "I" ∈ tp_W := tp_W_of (tm_1 (List.mem_of_getElem? (i := 138) rfl)) rfl
theorem fl_X3_11 : Cond.fieldLink RX3 11 "TurningPosts$Past" "shelf" "[I" ∈ tp_W := tp_W_of (tm_1 (List.mem_of_getElem? (i := 157) rfl)) rfl
theorem fl_X3_15 : Cond.fieldLink RX3 15 "TurningPosts$Past" "size" "I" ∈ tp_W := tp_W_of (tm_1 (List.mem_of_getElem? (i := 158) rfl)) rfl
theorem fl_X3_22 : Cond.fieldLink RX3 22 "TurningPosts$Past" "next" "I" ∈ tp_W := tp_W_of (tm_1 (List.mem_of_getElem? (i := 159) rfl)) rfl
theorem fl_X3_19 : Cond.fieldLink RX3 19 "TurningPosts$Past" "kept" "I" ∈ tp_W := tp_W_of (tm_1 (List.mem_of_getElem? (i := 160) rfl)) rfl
theorem fl_X5_9 : Cond.fieldLink RX5 9 "TurningPosts$Sand" "heap" "[I" ∈ tp_W := tp_W_of (tm_1 (List.mem_of_getElem? (i := 176) rfl)) rfl
theorem fl_X5_15 : Cond.fieldLink RX5 15 "TurningPosts$Sand" "times" "[I" ∈ tp_W := tp_W_of (tm_1 (List.mem_of_getElem? (i := 178) rfl)) rfl
theorem fl_X5_18 : Cond.fieldLink RX5 18 "TurningPosts$Sand" "neutral" "[I" ∈ tp_W := tp_W_of (tm_1 (List.mem_of_getElem? (i := 180) rfl)) rfl
theorem fl_X0_11 : Cond.fieldLink RX0 11 "TurningPosts$Chances" "cells" "[[J" ∈ tp_W := tp_W_of (tm_1 (List.mem_of_getElem? (i := 197) rfl)) rfl
theorem fl_X0_16 : Cond.fieldLink RX0 16 "TurningPosts$Chances" "shares" "[J" ∈ tp_W := tp_W_of (tm_1 (List.mem_of_getElem? (i := 198) rfl)) rfl
theorem fl_X0_20 : Cond.fieldLink RX0 20 "TurningPosts$Chances" "spreads" "[J" ∈ tp_W := tp_W_of (tm_1 (List.mem_of_getElem? (i := 199) rfl)) rfl
theorem fl_X0_56 : Cond.fieldLink RX0 56 "TurningPosts$Chances" "upper" "J" ∈ tp_W := tp_W_of (tm_1 (List.mem_of_getElem? (i := 200) rfl)) rfl
theorem fl_X0_60 : Cond.fieldLink RX0 60 "TurningPosts$Chances" "lower" "J" ∈ tp_W := tp_W_of (tm_1 (List.mem_of_getElem? (i := 202) rfl)) rfl
theorem fl_X6_9 : Cond.fieldLink RX6 9 "TurningPosts$Sights" "starts" "[I" ∈ tp_W := tp_W_of (tm_1 (List.mem_of_getElem? (i := 221) rfl)) rfl
theorem fl_X6_13 : Cond.fieldLink RX6 13 "TurningPosts$Sights" "lengths" "[I" ∈ tp_W := tp_W_of (tm_1 (List.mem_of_getElem? (i := 222) rfl)) rfl
theorem fl_X6_16 : Cond.fieldLink RX6 16 "TurningPosts$Sights" "ends" "[I" ∈ tp_W := tp_W_of (tm_1 (List.mem_of_getElem? (i := 223) rfl)) rfl
theorem fl_X6_19 : Cond.fieldLink RX6 19 "TurningPosts$Sights" "size" "I" ∈ tp_W := tp_W_of (tm_1 (List.mem_of_getElem? (i := 224) rfl)) rfl
theorem fl_X1_11 : Cond.fieldLink RX1 11 "TurningPosts$Hearsay" "whats" "[I" ∈ tp_W := tp_W_of (tm_2 (List.mem_of_getElem? (i := 0) rfl)) rfl
theorem fl_X1_15 : Cond.fieldLink RX1 15 "TurningPosts$Hearsay" "values" "[I" ∈ tp_W := tp_W_of (tm_2 (List.mem_of_getElem? (i := 1) rfl)) rfl
theorem fl_X1_18 : Cond.fieldLink RX1 18 "TurningPosts$Hearsay" "size" "I" ∈ tp_W := tp_W_of (tm_2 (List.mem_of_getElem? (i := 2) rfl)) rfl
theorem fl_X10_12 : Cond.fieldLink RX10 12 "TurningPosts" "text" "LTurningPosts$Signs;" ∈ tp_W := tp_W_of (tm_2 (List.mem_of_getElem? (i := 29) rfl)) rfl
theorem fl_X10_19 : Cond.fieldLink RX10 19 "TurningPosts" "told" "LTurningPosts$Told;" ∈ tp_W := tp_W_of (tm_2 (List.mem_of_getElem? (i := 30) rfl)) rfl
theorem fl_X10_26 : Cond.fieldLink RX10 26 "TurningPosts" "paths" "LTurningPosts$Paths;" ∈ tp_W := tp_W_of (tm_2 (List.mem_of_getElem? (i := 31) rfl)) rfl
theorem fl_X10_30 : Cond.fieldLink RX10 30 "TurningPosts" "draftPaths" "LTurningPosts$Paths;" ∈ tp_W := tp_W_of (tm_2 (List.mem_of_getElem? (i := 32) rfl)) rfl
theorem fl_X10_36 : Cond.fieldLink RX10 36 "TurningPosts" "turner" "LTurningPosts$Turner;" ∈ tp_W := tp_W_of (tm_2 (List.mem_of_getElem? (i := 33) rfl)) rfl
theorem fl_X10_40 : Cond.fieldLink RX10 40 "TurningPosts" "draftTurner" "LTurningPosts$Turner;" ∈ tp_W := tp_W_of (tm_2 (List.mem_of_getElem? (i := 34) rfl)) rfl
theorem fl_X10_46 : Cond.fieldLink RX10 46 "TurningPosts" "now" "LTurningPosts$Moor;" ∈ tp_W := tp_W_of (tm_2 (List.mem_of_getElem? (i := 35) rfl)) rfl
theorem fl_X10_50 : Cond.fieldLink RX10 50 "TurningPosts" "trial" "LTurningPosts$Moor;" ∈ tp_W := tp_W_of (tm_2 (List.mem_of_getElem? (i := 36) rfl)) rfl
theorem fl_X10_53 : Cond.fieldLink RX10 53 "TurningPosts" "before" "LTurningPosts$Moor;" ∈ tp_W := tp_W_of (tm_2 (List.mem_of_getElem? (i := 37) rfl)) rfl
theorem fl_X10_59 : Cond.fieldLink RX10 59 "TurningPosts" "past" "LTurningPosts$Past;" ∈ tp_W := tp_W_of (tm_2 (List.mem_of_getElem? (i := 38) rfl)) rfl
theorem fl_X10_66 : Cond.fieldLink RX10 66 "TurningPosts" "sand" "LTurningPosts$Sand;" ∈ tp_W := tp_W_of (tm_2 (List.mem_of_getElem? (i := 39) rfl)) rfl
theorem fl_X10_73 : Cond.fieldLink RX10 73 "TurningPosts" "chances" "LTurningPosts$Chances;" ∈ tp_W := tp_W_of (tm_2 (List.mem_of_getElem? (i := 40) rfl)) rfl
theorem fl_X10_80 : Cond.fieldLink RX10 80 "TurningPosts" "sights" "LTurningPosts$Sights;" ∈ tp_W := tp_W_of (tm_2 (List.mem_of_getElem? (i := 41) rfl)) rfl
theorem fl_X10_87 : Cond.fieldLink RX10 87 "TurningPosts" "hearsay" "LTurningPosts$Hearsay;" ∈ tp_W := tp_W_of (tm_2 (List.mem_of_getElem? (i := 42) rfl)) rfl
theorem fl_X10_91 : Cond.fieldLink RX10 91 "TurningPosts" "leaves" "[I" ∈ tp_W := tp_W_of (tm_2 (List.mem_of_getElem? (i := 43) rfl)) rfl
theorem fl_X10_95 : Cond.fieldLink RX10 95 "TurningPosts" "picks" "[I" ∈ tp_W := tp_W_of (tm_2 (List.mem_of_getElem? (i := 44) rfl)) rfl
theorem fl_X10_98 : Cond.fieldLink RX10 98 "TurningPosts" "fewest" "[I" ∈ tp_W := tp_W_of (tm_2 (List.mem_of_getElem? (i := 45) rfl)) rfl
theorem fl_X10_101 : Cond.fieldLink RX10 101 "TurningPosts" "places" "[I" ∈ tp_W := tp_W_of (tm_2 (List.mem_of_getElem? (i := 46) rfl)) rfl
theorem fl_X10_104 : Cond.fieldLink RX10 104 "TurningPosts" "coldPartners" "[I" ∈ tp_W := tp_W_of (tm_2 (List.mem_of_getElem? (i := 47) rfl)) rfl
theorem fl_X11_3 : Cond.fieldLink RX11 3 "TurningPostsModel" "thrown" "I" ∈ tp_W := tp_W_of (tm_5 (List.mem_of_getElem? (i := 183) rfl)) rfl
theorem fl_X11_15 : Cond.fieldLink RX11 15 "TurningPostsModel" "told" "I" ∈ tp_W := tp_W_of (tm_5 (List.mem_of_getElem? (i := 184) rfl)) rfl
theorem fl_X11_11 : Cond.fieldLink RX11 11 "TurningPostsModel" "row" "[J" ∈ tp_W := tp_W_of (tm_5 (List.mem_of_getElem? (i := 185) rfl)) rfl
theorem fl_X11_28 : Cond.fieldLink RX11 28 "TurningPostsModel" "crossings" "I" ∈ tp_W := tp_W_of (tm_5 (List.mem_of_getElem? (i := 186) rfl)) rfl
theorem fl_X11_31 : Cond.fieldLink RX11 31 "TurningPostsModel" "wide" "[I" ∈ tp_W := tp_W_of (tm_5 (List.mem_of_getElem? (i := 187) rfl)) rfl
theorem fl_X11_35 : Cond.fieldLink RX11 35 "TurningPostsModel" "goal" "[I" ∈ tp_W := tp_W_of (tm_5 (List.mem_of_getElem? (i := 188) rfl)) rfl
theorem fl_X11_38 : Cond.fieldLink RX11 38 "TurningPostsModel" "now" "[I" ∈ tp_W := tp_W_of (tm_5 (List.mem_of_getElem? (i := 189) rfl)) rfl
theorem fl_X11_41 : Cond.fieldLink RX11 41 "TurningPostsModel" "then" "[I" ∈ tp_W := tp_W_of (tm_5 (List.mem_of_getElem? (i := 190) rfl)) rfl
theorem fl_X11_44 : Cond.fieldLink RX11 44 "TurningPostsModel" "tape" "[I" ∈ tp_W := tp_W_of (tm_5 (List.mem_of_getElem? (i := 191) rfl)) rfl
theorem fl_X11_133 : Cond.fieldLink RX11 133 "TurningPostsModel" "taped" "I" ∈ tp_W := tp_W_of (tm_5 (List.mem_of_getElem? (i := 192) rfl)) rfl
theorem fl_X11_136 : Cond.fieldLink RX11 136 "TurningPostsModel" "at" "I" ∈ tp_W := tp_W_of (tm_5 (List.mem_of_getElem? (i := 193) rfl)) rfl
theorem fl_X11_148 : Cond.fieldLink RX11 148 "TurningPostsModel" "to" "I" ∈ tp_W := tp_W_of (tm_5 (List.mem_of_getElem? (i := 194) rfl)) rfl
theorem fl_X11_139 : Cond.fieldLink RX11 139 "TurningPostsModel" "nest" "I" ∈ tp_W := tp_W_of (tm_5 (List.mem_of_getElem? (i := 195) rfl)) rfl
theorem fl_X11_47 : Cond.fieldLink RX11 47 "TurningPostsModel" "readWide" "[I" ∈ tp_W := tp_W_of (tm_5 (List.mem_of_getElem? (i := 196) rfl)) rfl
theorem fl_X11_50 : Cond.fieldLink RX11 50 "TurningPostsModel" "readGoal" "[I" ∈ tp_W := tp_W_of (tm_5 (List.mem_of_getElem? (i := 197) rfl)) rfl
theorem fl_X11_176 : Cond.fieldLink RX11 176 "TurningPostsModel" "lines" "I" ∈ tp_W := tp_W_of (tm_5 (List.mem_of_getElem? (i := 198) rfl)) rfl
theorem fl_X11_53 : Cond.fieldLink RX11 53 "TurningPostsModel" "code" "[I" ∈ tp_W := tp_W_of (tm_5 (List.mem_of_getElem? (i := 199) rfl)) rfl
theorem fl_X11_56 : Cond.fieldLink RX11 56 "TurningPostsModel" "readCode" "[I" ∈ tp_W := tp_W_of (tm_5 (List.mem_of_getElem? (i := 200) rfl)) rfl
theorem fl_X11_241 : Cond.fieldLink RX11 241 "TurningPostsModel" "codeLong" "I" ∈ tp_W := tp_W_of (tm_5 (List.mem_of_getElem? (i := 201) rfl)) rfl
theorem fl_X11_209 : Cond.fieldLink RX11 209 "TurningPostsModel" "codesRead" "I" ∈ tp_W := tp_W_of (tm_5 (List.mem_of_getElem? (i := 202) rfl)) rfl
theorem fl_X11_59 : Cond.fieldLink RX11 59 "TurningPostsModel" "stack" "[I" ∈ tp_W := tp_W_of (tm_5 (List.mem_of_getElem? (i := 203) rfl)) rfl
theorem fl_X11_62 : Cond.fieldLink RX11 62 "TurningPostsModel" "asked" "[I" ∈ tp_W := tp_W_of (tm_5 (List.mem_of_getElem? (i := 204) rfl)) rfl
theorem fl_X11_65 : Cond.fieldLink RX11 65 "TurningPostsModel" "far" "[I" ∈ tp_W := tp_W_of (tm_5 (List.mem_of_getElem? (i := 205) rfl)) rfl
theorem fl_X11_200 : Cond.fieldLink RX11 200 "TurningPostsModel" "undos" "I" ∈ tp_W := tp_W_of (tm_5 (List.mem_of_getElem? (i := 206) rfl)) rfl
theorem fl_X11_68 : Cond.fieldLink RX11 68 "TurningPostsModel" "undone" "[I" ∈ tp_W := tp_W_of (tm_5 (List.mem_of_getElem? (i := 207) rfl)) rfl
theorem fl_X11_311 : Cond.fieldLink RX11 311 "TurningPostsModel" "through" "I" ∈ tp_W := tp_W_of (tm_5 (List.mem_of_getElem? (i := 208) rfl)) rfl
theorem fl_X11_71 : Cond.fieldLink RX11 71 "TurningPostsModel" "burst" "[I" ∈ tp_W := tp_W_of (tm_5 (List.mem_of_getElem? (i := 209) rfl)) rfl
theorem fl_X11_74 : Cond.fieldLink RX11 74 "TurningPostsModel" "actSign" "[I" ∈ tp_W := tp_W_of (tm_5 (List.mem_of_getElem? (i := 210) rfl)) rfl
theorem fl_X11_77 : Cond.fieldLink RX11 77 "TurningPostsModel" "actOne" "[I" ∈ tp_W := tp_W_of (tm_5 (List.mem_of_getElem? (i := 211) rfl)) rfl
theorem fl_X11_80 : Cond.fieldLink RX11 80 "TurningPostsModel" "actTwo" "[I" ∈ tp_W := tp_W_of (tm_5 (List.mem_of_getElem? (i := 212) rfl)) rfl
theorem fl_X11_345 : Cond.fieldLink RX11 345 "TurningPostsModel" "acts" "I" ∈ tp_W := tp_W_of (tm_5 (List.mem_of_getElem? (i := 213) rfl)) rfl
theorem fl_X11_83 : Cond.fieldLink RX11 83 "TurningPostsModel" "leaves" "[I" ∈ tp_W := tp_W_of (tm_5 (List.mem_of_getElem? (i := 214) rfl)) rfl
theorem fl_X11_359 : Cond.fieldLink RX11 359 "TurningPostsModel" "wentMany" "I" ∈ tp_W := tp_W_of (tm_5 (List.mem_of_getElem? (i := 215) rfl)) rfl
theorem fl_X11_362 : Cond.fieldLink RX11 362 "TurningPostsModel" "backMany" "I" ∈ tp_W := tp_W_of (tm_5 (List.mem_of_getElem? (i := 216) rfl)) rfl
theorem fl_X11_86 : Cond.fieldLink RX11 86 "TurningPostsModel" "posts" "[I" ∈ tp_W := tp_W_of (tm_5 (List.mem_of_getElem? (i := 217) rfl)) rfl
theorem fl_X11_89 : Cond.fieldLink RX11 89 "TurningPostsModel" "matrix" "[J" ∈ tp_W := tp_W_of (tm_5 (List.mem_of_getElem? (i := 218) rfl)) rfl
theorem fl_X11_411 : Cond.fieldLink RX11 411 "TurningPostsModel" "signOf" "I" ∈ tp_W := tp_W_of (tm_5 (List.mem_of_getElem? (i := 219) rfl)) rfl
theorem fl_X11_92 : Cond.fieldLink RX11 92 "TurningPostsModel" "chance" "[J" ∈ tp_W := tp_W_of (tm_5 (List.mem_of_getElem? (i := 220) rfl)) rfl
theorem fl_X11_95 : Cond.fieldLink RX11 95 "TurningPostsModel" "next" "[J" ∈ tp_W := tp_W_of (tm_5 (List.mem_of_getElem? (i := 221) rfl)) rfl
theorem fl_X11_203 : Cond.fieldLink RX11 203 "TurningPostsModel" "seenMany" "I" ∈ tp_W := tp_W_of (tm_5 (List.mem_of_getElem? (i := 222) rfl)) rfl
theorem fl_X11_98 : Cond.fieldLink RX11 98 "TurningPostsModel" "seenFrom" "[I" ∈ tp_W := tp_W_of (tm_5 (List.mem_of_getElem? (i := 223) rfl)) rfl
theorem fl_X11_101 : Cond.fieldLink RX11 101 "TurningPostsModel" "seenSteps" "[I" ∈ tp_W := tp_W_of (tm_5 (List.mem_of_getElem? (i := 224) rfl)) rfl
theorem fl_X11_104 : Cond.fieldLink RX11 104 "TurningPostsModel" "seenAt" "[I" ∈ tp_W := tp_W_of (tm_5 (List.mem_of_getElem? (i := 225) rfl)) rfl
theorem fl_X11_107 : Cond.fieldLink RX11 107 "TurningPostsModel" "often" "[I" ∈ tp_W := tp_W_of (tm_5 (List.mem_of_getElem? (i := 226) rfl)) rfl
theorem fl_X11_206 : Cond.fieldLink RX11 206 "TurningPostsModel" "heardMany" "I" ∈ tp_W := tp_W_of (tm_5 (List.mem_of_getElem? (i := 227) rfl)) rfl
theorem fl_X11_110 : Cond.fieldLink RX11 110 "TurningPostsModel" "heardWhat" "[I" ∈ tp_W := tp_W_of (tm_5 (List.mem_of_getElem? (i := 228) rfl)) rfl
theorem fl_X11_113 : Cond.fieldLink RX11 113 "TurningPostsModel" "heardOf" "[I" ∈ tp_W := tp_W_of (tm_5 (List.mem_of_getElem? (i := 229) rfl)) rfl
theorem fl_X11_116 : Cond.fieldLink RX11 116 "TurningPostsModel" "won" "[Z" ∈ tp_W := tp_W_of (tm_5 (List.mem_of_getElem? (i := 230) rfl)) rfl
theorem fl_X11_120 : Cond.fieldLink RX11 120 "TurningPostsModel" "wasCode" "[I" ∈ tp_W := tp_W_of (tm_5 (List.mem_of_getElem? (i := 231) rfl)) rfl
theorem fl_X11_490 : Cond.fieldLink RX11 490 "TurningPostsModel" "random" "I" ∈ tp_W := tp_W_of (tm_5 (List.mem_of_getElem? (i := 232) rfl)) rfl
theorem fl_X11_123 : Cond.fieldLink RX11 123 "TurningPostsModel" "isKept" "[Z" ∈ tp_W := tp_W_of (tm_5 (List.mem_of_getElem? (i := 233) rfl)) rfl
theorem fl_X11_126 : Cond.fieldLink RX11 126 "TurningPostsModel" "kept" "[I" ∈ tp_W := tp_W_of (tm_5 (List.mem_of_getElem? (i := 234) rfl)) rfl
theorem fn_X10_160 : Cond.fieldLinkNest RX10 160 "TurningPosts$Moor" "posts" "[I" "TurningPosts" ∈ tp_NW := tp_NW_of (tm_1 (List.mem_of_getElem? (i := 127) rfl)) rfl
theorem fn_X3_36 : Cond.fieldLinkNest RX3 36 "TurningPosts$Moor" "posts" "[I" "TurningPosts" ∈ tp_NW := tp_NW_of (tm_1 (List.mem_of_getElem? (i := 128) rfl)) rfl
theorem fn_X9_103 : Cond.fieldLinkNest RX9 103 "TurningPosts$Moor" "posts" "[I" "TurningPosts" ∈ tp_NW := tp_NW_of (tm_1 (List.mem_of_getElem? (i := 129) rfl)) rfl
theorem fn_X10_167 : Cond.fieldLinkNest RX10 167 "TurningPosts$Moor" "crowds" "[I" "TurningPosts" ∈ tp_NW := tp_NW_of (tm_1 (List.mem_of_getElem? (i := 131) rfl)) rfl
theorem fn_X3_47 : Cond.fieldLinkNest RX3 47 "TurningPosts$Moor" "crowds" "[I" "TurningPosts" ∈ tp_NW := tp_NW_of (tm_1 (List.mem_of_getElem? (i := 132) rfl)) rfl
theorem fn_X9_108 : Cond.fieldLinkNest RX9 108 "TurningPosts$Moor" "crowds" "[I" "TurningPosts" ∈ tp_NW := tp_NW_of (tm_1 (List.mem_of_getElem? (i := 133) rfl)) rfl
theorem fn_X10_152 : Cond.fieldLinkNest RX10 152 "TurningPosts$Moor" "housed" "I" "TurningPosts" ∈ tp_NW := tp_NW_of (tm_1 (List.mem_of_getElem? (i := 135) rfl)) rfl
theorem fn_X3_50 : Cond.fieldLinkNest RX3 50 "TurningPosts$Moor" "housed" "I" "TurningPosts" ∈ tp_NW := tp_NW_of (tm_1 (List.mem_of_getElem? (i := 136) rfl)) rfl
theorem fn_X9_111 : Cond.fieldLinkNest RX9 111 "TurningPosts$Moor" "housed" "I" "TurningPosts" ∈ tp_NW := tp_NW_of (tm_1 (List.mem_of_getElem? (i := 137) rfl)) rfl
theorem fn_X3_53 : Cond.fieldLinkNest RX3 53 "TurningPosts$Moor" "steps" "I" "TurningPosts" ∈ tp_NW := tp_NW_of (tm_1 (List.mem_of_getElem? (i := 139) rfl)) rfl
theorem fn_X9_114 : Cond.fieldLinkNest RX9 114 "TurningPosts$Moor" "steps" "I" "TurningPosts" ∈ tp_NW := tp_NW_of (tm_1 (List.mem_of_getElem? (i := 140) rfl)) rfl
theorem fn_X10_307 : Cond.fieldLinkNest RX10 307 "TurningPosts$Moor" "steps" "I" "TurningPosts" ∈ tp_NW := tp_NW_of (tm_1 (List.mem_of_getElem? (i := 141) rfl)) rfl
theorem fn_X10_278 : Cond.fieldLinkNest RX10 278 "TurningPosts$Sand" "heap" "[I" "TurningPosts" ∈ tp_NW := tp_NW_of (tm_1 (List.mem_of_getElem? (i := 177) rfl)) rfl
theorem fn_X10_281 : Cond.fieldLinkNest RX10 281 "TurningPosts$Sand" "times" "[I" "TurningPosts" ∈ tp_NW := tp_NW_of (tm_1 (List.mem_of_getElem? (i := 179) rfl)) rfl
theorem fn_X10_373 : Cond.fieldLinkNest RX10 373 "TurningPosts$Sand" "neutral" "[I" "TurningPosts" ∈ tp_NW := tp_NW_of (tm_1 (List.mem_of_getElem? (i := 181) rfl)) rfl
theorem fn_X10_359 : Cond.fieldLinkNest RX10 359 "TurningPosts$Chances" "upper" "J" "TurningPosts" ∈ tp_NW := tp_NW_of (tm_1 (List.mem_of_getElem? (i := 201) rfl)) rfl
theorem fn_X10_363 : Cond.fieldLinkNest RX10 363 "TurningPosts$Chances" "lower" "J" "TurningPosts" ∈ tp_NW := tp_NW_of (tm_1 (List.mem_of_getElem? (i := 203) rfl)) rfl
theorem mnl_X10_11 : Cond.methodLinkNest RX10 11 yX7_init "TurningPosts" ∈ tp_NW := tp_NW_of (tm_1 (List.mem_of_getElem? (i := 34) rfl)) rfl
theorem mnl_X10_18 : Cond.methodLinkNest RX10 18 yX8_init "TurningPosts" ∈ tp_NW := tp_NW_of (tm_1 (List.mem_of_getElem? (i := 48) rfl)) rfl
theorem mnl_X10_25 : Cond.methodLinkNest RX10 25 yX4_init "TurningPosts" ∈ tp_NW := tp_NW_of (tm_1 (List.mem_of_getElem? (i := 62) rfl)) rfl
theorem mnl_X10_35 : Cond.methodLinkNest RX10 35 yX9_init "TurningPosts" ∈ tp_NW := tp_NW_of (tm_1 (List.mem_of_getElem? (i := 87) rfl)) rfl
theorem mnl_X10_45 : Cond.methodLinkNest RX10 45 yX2_init "TurningPosts" ∈ tp_NW := tp_NW_of (tm_1 (List.mem_of_getElem? (i := 122) rfl)) rfl
theorem mnl_X10_58 : Cond.methodLinkNest RX10 58 yX3_init "TurningPosts" ∈ tp_NW := tp_NW_of (tm_1 (List.mem_of_getElem? (i := 153) rfl)) rfl
theorem mnl_X10_65 : Cond.methodLinkNest RX10 65 yX5_init "TurningPosts" ∈ tp_NW := tp_NW_of (tm_1 (List.mem_of_getElem? (i := 172) rfl)) rfl
theorem mnl_X10_72 : Cond.methodLinkNest RX10 72 yX0_init "TurningPosts" ∈ tp_NW := tp_NW_of (tm_1 (List.mem_of_getElem? (i := 191) rfl)) rfl
theorem mnl_X10_79 : Cond.methodLinkNest RX10 79 yX6_init "TurningPosts" ∈ tp_NW := tp_NW_of (tm_1 (List.mem_of_getElem? (i := 217) rfl)) rfl
theorem mnl_X10_86 : Cond.methodLinkNest RX10 86 yX1_init "TurningPosts" ∈ tp_NW := tp_NW_of (tm_1 (List.mem_of_getElem? (i := 236) rfl)) rfl
theorem mnl_X9_77 : Cond.methodLinkNest RX9 77 yX10_isDigit "TurningPosts" ∈ tp_NW := tp_NW_of (tm_2 (List.mem_of_getElem? (i := 168) rfl)) rfl
theorem ct_X10_306 : Cond.constant RX10 306 (99999) ∈ tp_W := tp_W_of (tm_3 (List.mem_of_getElem? (i := 48) rfl)) rfl
theorem ct_J6_265 : Cond.constant RJ6 265 (1431655765) ∈ tp_W := tp_W_of (tm_3 (List.mem_of_getElem? (i := 211) rfl)) rfl
theorem ct_J6_266 : Cond.constant RJ6 266 (858993459) ∈ tp_W := tp_W_of (tm_3 (List.mem_of_getElem? (i := 212) rfl)) rfl
theorem ct_J6_267 : Cond.constant RJ6 267 (252645135) ∈ tp_W := tp_W_of (tm_3 (List.mem_of_getElem? (i := 213) rfl)) rfl
theorem ct_X10_331 : Cond.constant RX10 331 (1000000) ∈ tp_W := tp_W_of (tm_4 (List.mem_of_getElem? (i := 21) rfl)) rfl
theorem ct_X10_459 : Cond.constant RX10 459 (1103515245) ∈ tp_W := tp_W_of (tm_5 (List.mem_of_getElem? (i := 46) rfl)) rfl
theorem ct_X11_264 : Cond.constant RX11 264 (1000000) ∈ tp_W := tp_W_of (tm_7 (List.mem_of_getElem? (i := 18) rfl)) rfl
theorem ct_X11_295 : Cond.constant RX11 295 (99999) ∈ tp_W := tp_W_of (tm_7 (List.mem_of_getElem? (i := 97) rfl)) rfl
theorem ct_J6_264 : Cond.constant RJ6 264 (65536) ∈ tp_W := tp_W_of (tm_8 (List.mem_of_getElem? (i := 23) rfl)) rfl
theorem ct_X11_493 : Cond.constant RX11 493 (1103515245) ∈ tp_W := tp_W_of (tm_8 (List.mem_of_getElem? (i := 196) rfl)) rfl
theorem ct_X0_70 : Cond.constantLong RX0 70 (12) ∈ tp_W := tp_W_of (tm_4 (List.mem_of_getElem? (i := 94) rfl)) rfl
theorem ct_X11_155 : Cond.constantLong RX11 155 (48) ∈ tp_W := tp_W_of (tm_6 (List.mem_of_getElem? (i := 128) rfl)) rfl
theorem ct_X11_157 : Cond.constantLong RX11 157 (57) ∈ tp_W := tp_W_of (tm_6 (List.mem_of_getElem? (i := 129) rfl)) rfl
theorem ct_X11_268 : Cond.constantLong RX11 268 (5) ∈ tp_W := tp_W_of (tm_7 (List.mem_of_getElem? (i := 9) rfl)) rfl
theorem ct_X11_283 : Cond.constantLong RX11 283 (3) ∈ tp_W := tp_W_of (tm_7 (List.mem_of_getElem? (i := 47) rfl)) rfl
theorem ct_X11_302 : Cond.constantLong RX11 302 (99) ∈ tp_W := tp_W_of (tm_7 (List.mem_of_getElem? (i := 72) rfl)) rfl
theorem ct_X11_371 : Cond.constantLong RX11 371 (60) ∈ tp_W := tp_W_of (tm_7 (List.mem_of_getElem? (i := 185) rfl)) rfl
theorem ct_X11_389 : Cond.constantLong RX11 389 (999) ∈ tp_W := tp_W_of (tm_7 (List.mem_of_getElem? (i := 226) rfl)) rfl
theorem ct_X11_428 : Cond.constantLong RX11 428 (8) ∈ tp_W := tp_W_of (tm_8 (List.mem_of_getElem? (i := 58) rfl)) rfl
theorem ct_X11_430 : Cond.constantLong RX11 430 (12) ∈ tp_W := tp_W_of (tm_8 (List.mem_of_getElem? (i := 59) rfl)) rfl
theorem ct_X11_446 : Cond.constantLong RX11 446 (2) ∈ tp_W := tp_W_of (tm_8 (List.mem_of_getElem? (i := 92) rfl)) rfl
theorem ct_X11_448 : Cond.constantLong RX11 448 (20) ∈ tp_W := tp_W_of (tm_8 (List.mem_of_getElem? (i := 105) rfl)) rfl
theorem ct_X11_474 : Cond.constantLong RX11 474 (30) ∈ tp_W := tp_W_of (tm_8 (List.mem_of_getElem? (i := 160) rfl)) rfl
theorem ct_X11_485 : Cond.constantLong RX11 485 (9) ∈ tp_W := tp_W_of (tm_8 (List.mem_of_getElem? (i := 181) rfl)) rfl
theorem mw_n : Cond.native arraycopyName ∈ tp_W := tp_W_of (tm_2 (List.mem_of_getElem? (i := 130) rfl)) rfl
theorem mw_s : Cond.static arraycopyName ∈ tp_W := tp_W_of (tm_2 (List.mem_of_getElem? (i := 129) rfl)) rfl
theorem mw_copy : Cond.native arraycopyName ∈ tp_W ∧ Cond.static arraycopyName ∈ tp_W ∧ Cond.initialized "java/lang/System" ∈ tp_W := ⟨mw_n, mw_s, mi_sys⟩
theorem mw_smin : Cond.static Lib.Math.min.name ∈ tp_W := tp_W_of (tm_2 (List.mem_of_getElem? (i := 157) rfl)) rfl
theorem mw_cmin : Cond.code Lib.Math.min.name Lib.Math.min.code 2 (some .int) ∈ tp_W := tp_W_of (tm_2 (List.mem_of_getElem? (i := 158) rfl)) rfl
theorem mw_min : Cond.static Lib.Math.min.name ∈ tp_W ∧ Cond.initialized "java/lang/Math" ∈ tp_W ∧ Cond.code Lib.Math.min.name Lib.Math.min.code 2 (some .int) ∈ tp_W := ⟨mw_smin, mi_math, mw_cmin⟩
theorem mw_smax : Cond.static Lib.Math.max.name ∈ tp_W := tp_W_of (tm_2 (List.mem_of_getElem? (i := 211) rfl)) rfl
theorem mw_cmax : Cond.code Lib.Math.max.name Lib.Math.max.code 2 (some .int) ∈ tp_W := tp_W_of (tm_2 (List.mem_of_getElem? (i := 212) rfl)) rfl
theorem mw_max : Cond.static Lib.Math.max.name ∈ tp_W ∧ Cond.initialized "java/lang/Math" ∈ tp_W ∧ Cond.code Lib.Math.max.name Lib.Math.max.code 2 (some .int) ∈ tp_W := ⟨mw_smax, mi_math, mw_cmax⟩
theorem la_X0_0 : Cond.laysFinal RX0 "TurningPosts$Chances" "cells" "[[J" ∈ tp_W := tp_W_of (tm_1 (List.mem_of_getElem? (i := 204) rfl)) rfl
theorem la_X0_1 : Cond.laysFinal RX0 "TurningPosts$Chances" "shares" "[J" ∈ tp_W := tp_W_of (tm_1 (List.mem_of_getElem? (i := 206) rfl)) rfl
theorem la_X0_2 : Cond.laysFinal RX0 "TurningPosts$Chances" "spreads" "[J" ∈ tp_W := tp_W_of (tm_1 (List.mem_of_getElem? (i := 208) rfl)) rfl
theorem la_X0_3 : Cond.lays RX0 "TurningPosts$Chances" "upper" "J" ∈ tp_W := tp_W_of (tm_1 (List.mem_of_getElem? (i := 210) rfl)) rfl
theorem la_X0_4 : Cond.lays RX0 "TurningPosts$Chances" "lower" "J" ∈ tp_W := tp_W_of (tm_1 (List.mem_of_getElem? (i := 212) rfl)) rfl
theorem tk_X0 : tp_Cl 0 RX0 TX0 5 tyX0 := ⟨rfl, fun w h => by
  obtain ⟨k, hk, rfl⟩ := List.mem_map.mp h
  match k, List.mem_range.mp hk with
  | 0, _ => exact la_X0_0
  | 1, _ => exact la_X0_1
  | 2, _ => exact la_X0_2
  | 3, _ => exact la_X0_3
  | 4, _ => exact la_X0_4
  | k + 5, h => exact absurd h (by omega), tyX0_ok, nmX0⟩
theorem la_X1_0 : Cond.laysFinal RX1 "TurningPosts$Hearsay" "whats" "[I" ∈ tp_W := tp_W_of (tm_2 (List.mem_of_getElem? (i := 3) rfl)) rfl
theorem la_X1_1 : Cond.laysFinal RX1 "TurningPosts$Hearsay" "values" "[I" ∈ tp_W := tp_W_of (tm_2 (List.mem_of_getElem? (i := 5) rfl)) rfl
theorem la_X1_2 : Cond.lays RX1 "TurningPosts$Hearsay" "size" "I" ∈ tp_W := tp_W_of (tm_2 (List.mem_of_getElem? (i := 7) rfl)) rfl
theorem tk_X1 : tp_Cl 1 RX1 TX1 3 tyX1 := ⟨rfl, fun w h => by
  obtain ⟨k, hk, rfl⟩ := List.mem_map.mp h
  match k, List.mem_range.mp hk with
  | 0, _ => exact la_X1_0
  | 1, _ => exact la_X1_1
  | 2, _ => exact la_X1_2
  | k + 3, h => exact absurd h (by omega), tyX1_ok, nmX1⟩
theorem la_X2_0 : Cond.laysFinal RX2 "TurningPosts$Moor" "posts" "[I" ∈ tp_W := tp_W_of (tm_1 (List.mem_of_getElem? (i := 142) rfl)) rfl
theorem la_X2_1 : Cond.laysFinal RX2 "TurningPosts$Moor" "crowds" "[I" ∈ tp_W := tp_W_of (tm_1 (List.mem_of_getElem? (i := 144) rfl)) rfl
theorem la_X2_2 : Cond.lays RX2 "TurningPosts$Moor" "housed" "I" ∈ tp_W := tp_W_of (tm_1 (List.mem_of_getElem? (i := 146) rfl)) rfl
theorem la_X2_3 : Cond.lays RX2 "TurningPosts$Moor" "steps" "I" ∈ tp_W := tp_W_of (tm_1 (List.mem_of_getElem? (i := 148) rfl)) rfl
theorem tk_X2 : tp_Cl 2 RX2 TX2 4 tyX2 := ⟨rfl, fun w h => by
  obtain ⟨k, hk, rfl⟩ := List.mem_map.mp h
  match k, List.mem_range.mp hk with
  | 0, _ => exact la_X2_0
  | 1, _ => exact la_X2_1
  | 2, _ => exact la_X2_2
  | 3, _ => exact la_X2_3
  | k + 4, h => exact absurd h (by omega), tyX2_ok, nmX2⟩
theorem la_X3_0 : Cond.laysFinal RX3 "TurningPosts$Past" "shelf" "[I" ∈ tp_W := tp_W_of (tm_1 (List.mem_of_getElem? (i := 161) rfl)) rfl
theorem la_X3_1 : Cond.lays RX3 "TurningPosts$Past" "size" "I" ∈ tp_W := tp_W_of (tm_1 (List.mem_of_getElem? (i := 163) rfl)) rfl
theorem la_X3_2 : Cond.lays RX3 "TurningPosts$Past" "next" "I" ∈ tp_W := tp_W_of (tm_1 (List.mem_of_getElem? (i := 165) rfl)) rfl
theorem la_X3_3 : Cond.lays RX3 "TurningPosts$Past" "kept" "I" ∈ tp_W := tp_W_of (tm_1 (List.mem_of_getElem? (i := 167) rfl)) rfl
theorem tk_X3 : tp_Cl 3 RX3 TX3 4 tyX3 := ⟨rfl, fun w h => by
  obtain ⟨k, hk, rfl⟩ := List.mem_map.mp h
  match k, List.mem_range.mp hk with
  | 0, _ => exact la_X3_0
  | 1, _ => exact la_X3_1
  | 2, _ => exact la_X3_2
  | 3, _ => exact la_X3_3
  | k + 4, h => exact absurd h (by omega), tyX3_ok, nmX3⟩
theorem la_X4_0 : Cond.laysFinal RX4 "TurningPosts$Paths" "degrees" "[I" ∈ tp_W := tp_W_of (tm_1 (List.mem_of_getElem? (i := 72) rfl)) rfl
theorem la_X4_1 : Cond.laysFinal RX4 "TurningPosts$Paths" "goals" "[I" ∈ tp_W := tp_W_of (tm_1 (List.mem_of_getElem? (i := 74) rfl)) rfl
theorem la_X4_2 : Cond.laysFinal RX4 "TurningPosts$Paths" "nexts" "[I" ∈ tp_W := tp_W_of (tm_1 (List.mem_of_getElem? (i := 76) rfl)) rfl
theorem la_X4_3 : Cond.laysFinal RX4 "TurningPosts$Paths" "fars" "[I" ∈ tp_W := tp_W_of (tm_1 (List.mem_of_getElem? (i := 78) rfl)) rfl
theorem la_X4_4 : Cond.lays RX4 "TurningPosts$Paths" "crossings" "I" ∈ tp_W := tp_W_of (tm_1 (List.mem_of_getElem? (i := 80) rfl)) rfl
theorem la_X4_5 : Cond.lays RX4 "TurningPosts$Paths" "waysInAll" "I" ∈ tp_W := tp_W_of (tm_1 (List.mem_of_getElem? (i := 82) rfl)) rfl
theorem tk_X4 : tp_Cl 4 RX4 TX4 6 tyX4 := ⟨rfl, fun w h => by
  obtain ⟨k, hk, rfl⟩ := List.mem_map.mp h
  match k, List.mem_range.mp hk with
  | 0, _ => exact la_X4_0
  | 1, _ => exact la_X4_1
  | 2, _ => exact la_X4_2
  | 3, _ => exact la_X4_3
  | 4, _ => exact la_X4_4
  | 5, _ => exact la_X4_5
  | k + 6, h => exact absurd h (by omega), tyX4_ok, nmX4⟩
theorem la_X5_0 : Cond.laysFinal RX5 "TurningPosts$Sand" "heap" "[I" ∈ tp_W := tp_W_of (tm_1 (List.mem_of_getElem? (i := 182) rfl)) rfl
theorem la_X5_1 : Cond.laysFinal RX5 "TurningPosts$Sand" "times" "[I" ∈ tp_W := tp_W_of (tm_1 (List.mem_of_getElem? (i := 184) rfl)) rfl
theorem la_X5_2 : Cond.laysFinal RX5 "TurningPosts$Sand" "neutral" "[I" ∈ tp_W := tp_W_of (tm_1 (List.mem_of_getElem? (i := 186) rfl)) rfl
theorem tk_X5 : tp_Cl 5 RX5 TX5 3 tyX5 := ⟨rfl, fun w h => by
  obtain ⟨k, hk, rfl⟩ := List.mem_map.mp h
  match k, List.mem_range.mp hk with
  | 0, _ => exact la_X5_0
  | 1, _ => exact la_X5_1
  | 2, _ => exact la_X5_2
  | k + 3, h => exact absurd h (by omega), tyX5_ok, nmX5⟩
theorem la_X6_0 : Cond.laysFinal RX6 "TurningPosts$Sights" "starts" "[I" ∈ tp_W := tp_W_of (tm_1 (List.mem_of_getElem? (i := 225) rfl)) rfl
theorem la_X6_1 : Cond.laysFinal RX6 "TurningPosts$Sights" "lengths" "[I" ∈ tp_W := tp_W_of (tm_1 (List.mem_of_getElem? (i := 227) rfl)) rfl
theorem la_X6_2 : Cond.laysFinal RX6 "TurningPosts$Sights" "ends" "[I" ∈ tp_W := tp_W_of (tm_1 (List.mem_of_getElem? (i := 229) rfl)) rfl
theorem la_X6_3 : Cond.lays RX6 "TurningPosts$Sights" "size" "I" ∈ tp_W := tp_W_of (tm_1 (List.mem_of_getElem? (i := 231) rfl)) rfl
theorem tk_X6 : tp_Cl 6 RX6 TX6 4 tyX6 := ⟨rfl, fun w h => by
  obtain ⟨k, hk, rfl⟩ := List.mem_map.mp h
  match k, List.mem_range.mp hk with
  | 0, _ => exact la_X6_0
  | 1, _ => exact la_X6_1
  | 2, _ => exact la_X6_2
  | 3, _ => exact la_X6_3
  | k + 4, h => exact absurd h (by omega), tyX6_ok, nmX6⟩
theorem la_X7_0 : Cond.laysFinal RX7 "TurningPosts$Signs" "signs" "[I" ∈ tp_W := tp_W_of (tm_1 (List.mem_of_getElem? (i := 40) rfl)) rfl
theorem la_X7_1 : Cond.lays RX7 "TurningPosts$Signs" "size" "I" ∈ tp_W := tp_W_of (tm_1 (List.mem_of_getElem? (i := 42) rfl)) rfl
theorem tk_X7 : tp_Cl 7 RX7 TX7 2 tyX7 := ⟨rfl, fun w h => by
  obtain ⟨k, hk, rfl⟩ := List.mem_map.mp h
  match k, List.mem_range.mp hk with
  | 0, _ => exact la_X7_0
  | 1, _ => exact la_X7_1
  | k + 2, h => exact absurd h (by omega), tyX7_ok, nmX7⟩
theorem la_X8_0 : Cond.laysFinal RX8 "TurningPosts$Told" "numbers" "[J" ∈ tp_W := tp_W_of (tm_1 (List.mem_of_getElem? (i := 54) rfl)) rfl
theorem la_X8_1 : Cond.lays RX8 "TurningPosts$Told" "size" "I" ∈ tp_W := tp_W_of (tm_1 (List.mem_of_getElem? (i := 56) rfl)) rfl
theorem tk_X8 : tp_Cl 8 RX8 TX8 2 tyX8 := ⟨rfl, fun w h => by
  obtain ⟨k, hk, rfl⟩ := List.mem_map.mp h
  match k, List.mem_range.mp hk with
  | 0, _ => exact la_X8_0
  | 1, _ => exact la_X8_1
  | k + 2, h => exact absurd h (by omega), tyX8_ok, nmX8⟩
theorem la_X9_0 : Cond.laysFinal RX9 "TurningPosts$Turner" "codes" "[I" ∈ tp_W := tp_W_of (tm_1 (List.mem_of_getElem? (i := 100) rfl)) rfl
theorem la_X9_1 : Cond.laysFinal RX9 "TurningPosts$Turner" "waiting" "[I" ∈ tp_W := tp_W_of (tm_1 (List.mem_of_getElem? (i := 102) rfl)) rfl
theorem la_X9_2 : Cond.laysFinal RX9 "TurningPosts$Turner" "stack" "[I" ∈ tp_W := tp_W_of (tm_1 (List.mem_of_getElem? (i := 104) rfl)) rfl
theorem la_X9_3 : Cond.laysFinal RX9 "TurningPosts$Turner" "compared" "[Z" ∈ tp_W := tp_W_of (tm_1 (List.mem_of_getElem? (i := 106) rfl)) rfl
theorem la_X9_4 : Cond.lays RX9 "TurningPosts$Turner" "size" "I" ∈ tp_W := tp_W_of (tm_1 (List.mem_of_getElem? (i := 108) rfl)) rfl
theorem la_X9_5 : Cond.lays RX9 "TurningPosts$Turner" "held" "I" ∈ tp_W := tp_W_of (tm_1 (List.mem_of_getElem? (i := 110) rfl)) rfl
theorem la_X9_6 : Cond.lays RX9 "TurningPosts$Turner" "depth" "I" ∈ tp_W := tp_W_of (tm_1 (List.mem_of_getElem? (i := 112) rfl)) rfl
theorem la_X9_7 : Cond.lays RX9 "TurningPosts$Turner" "digits" "I" ∈ tp_W := tp_W_of (tm_1 (List.mem_of_getElem? (i := 114) rfl)) rfl
theorem la_X9_8 : Cond.lays RX9 "TurningPosts$Turner" "wantsThing" "Z" ∈ tp_W := tp_W_of (tm_1 (List.mem_of_getElem? (i := 116) rfl)) rfl
theorem tk_X9 : tp_Cl 9 RX9 TX9 9 tyX9 := ⟨rfl, fun w h => by
  obtain ⟨k, hk, rfl⟩ := List.mem_map.mp h
  match k, List.mem_range.mp hk with
  | 0, _ => exact la_X9_0
  | 1, _ => exact la_X9_1
  | 2, _ => exact la_X9_2
  | 3, _ => exact la_X9_3
  | 4, _ => exact la_X9_4
  | 5, _ => exact la_X9_5
  | 6, _ => exact la_X9_6
  | 7, _ => exact la_X9_7
  | 8, _ => exact la_X9_8
  | k + 9, h => exact absurd h (by omega), tyX9_ok, nmX9⟩
theorem la_X10_0 : Cond.laysFinal RX10 "TurningPosts" "text" "LTurningPosts$Signs;" ∈ tp_W := tp_W_of (tm_2 (List.mem_of_getElem? (i := 48) rfl)) rfl
theorem la_X10_1 : Cond.laysFinal RX10 "TurningPosts" "told" "LTurningPosts$Told;" ∈ tp_W := tp_W_of (tm_2 (List.mem_of_getElem? (i := 50) rfl)) rfl
theorem la_X10_2 : Cond.laysFinal RX10 "TurningPosts" "paths" "LTurningPosts$Paths;" ∈ tp_W := tp_W_of (tm_2 (List.mem_of_getElem? (i := 52) rfl)) rfl
theorem la_X10_3 : Cond.laysFinal RX10 "TurningPosts" "draftPaths" "LTurningPosts$Paths;" ∈ tp_W := tp_W_of (tm_2 (List.mem_of_getElem? (i := 54) rfl)) rfl
theorem la_X10_4 : Cond.laysFinal RX10 "TurningPosts" "turner" "LTurningPosts$Turner;" ∈ tp_W := tp_W_of (tm_2 (List.mem_of_getElem? (i := 56) rfl)) rfl
theorem la_X10_5 : Cond.laysFinal RX10 "TurningPosts" "draftTurner" "LTurningPosts$Turner;" ∈ tp_W := tp_W_of (tm_2 (List.mem_of_getElem? (i := 58) rfl)) rfl
theorem la_X10_6 : Cond.laysFinal RX10 "TurningPosts" "now" "LTurningPosts$Moor;" ∈ tp_W := tp_W_of (tm_2 (List.mem_of_getElem? (i := 60) rfl)) rfl
theorem la_X10_7 : Cond.laysFinal RX10 "TurningPosts" "trial" "LTurningPosts$Moor;" ∈ tp_W := tp_W_of (tm_2 (List.mem_of_getElem? (i := 62) rfl)) rfl
theorem la_X10_8 : Cond.laysFinal RX10 "TurningPosts" "before" "LTurningPosts$Moor;" ∈ tp_W := tp_W_of (tm_2 (List.mem_of_getElem? (i := 64) rfl)) rfl
theorem la_X10_9 : Cond.laysFinal RX10 "TurningPosts" "past" "LTurningPosts$Past;" ∈ tp_W := tp_W_of (tm_2 (List.mem_of_getElem? (i := 66) rfl)) rfl
theorem la_X10_10 : Cond.laysFinal RX10 "TurningPosts" "sand" "LTurningPosts$Sand;" ∈ tp_W := tp_W_of (tm_2 (List.mem_of_getElem? (i := 68) rfl)) rfl
theorem la_X10_11 : Cond.laysFinal RX10 "TurningPosts" "chances" "LTurningPosts$Chances;" ∈ tp_W := tp_W_of (tm_2 (List.mem_of_getElem? (i := 70) rfl)) rfl
theorem la_X10_12 : Cond.laysFinal RX10 "TurningPosts" "sights" "LTurningPosts$Sights;" ∈ tp_W := tp_W_of (tm_2 (List.mem_of_getElem? (i := 72) rfl)) rfl
theorem la_X10_13 : Cond.laysFinal RX10 "TurningPosts" "hearsay" "LTurningPosts$Hearsay;" ∈ tp_W := tp_W_of (tm_2 (List.mem_of_getElem? (i := 74) rfl)) rfl
theorem la_X10_14 : Cond.laysFinal RX10 "TurningPosts" "leaves" "[I" ∈ tp_W := tp_W_of (tm_2 (List.mem_of_getElem? (i := 76) rfl)) rfl
theorem la_X10_15 : Cond.laysFinal RX10 "TurningPosts" "picks" "[I" ∈ tp_W := tp_W_of (tm_2 (List.mem_of_getElem? (i := 78) rfl)) rfl
theorem la_X10_16 : Cond.laysFinal RX10 "TurningPosts" "fewest" "[I" ∈ tp_W := tp_W_of (tm_2 (List.mem_of_getElem? (i := 80) rfl)) rfl
theorem la_X10_17 : Cond.laysFinal RX10 "TurningPosts" "places" "[I" ∈ tp_W := tp_W_of (tm_2 (List.mem_of_getElem? (i := 82) rfl)) rfl
theorem la_X10_18 : Cond.laysFinal RX10 "TurningPosts" "coldPartners" "[I" ∈ tp_W := tp_W_of (tm_2 (List.mem_of_getElem? (i := 84) rfl)) rfl
theorem tk_X10 : tp_Cl 10 RX10 TX10 19 tyX10 := ⟨rfl, fun w h => by
  obtain ⟨k, hk, rfl⟩ := List.mem_map.mp h
  match k, List.mem_range.mp hk with
  | 0, _ => exact la_X10_0
  | 1, _ => exact la_X10_1
  | 2, _ => exact la_X10_2
  | 3, _ => exact la_X10_3
  | 4, _ => exact la_X10_4
  | 5, _ => exact la_X10_5
  | 6, _ => exact la_X10_6
  | 7, _ => exact la_X10_7
  | 8, _ => exact la_X10_8
  | 9, _ => exact la_X10_9
  | 10, _ => exact la_X10_10
  | 11, _ => exact la_X10_11
  | 12, _ => exact la_X10_12
  | 13, _ => exact la_X10_13
  | 14, _ => exact la_X10_14
  | 15, _ => exact la_X10_15
  | 16, _ => exact la_X10_16
  | 17, _ => exact la_X10_17
  | 18, _ => exact la_X10_18
  | k + 19, h => exact absurd h (by omega), tyX10_ok, nmX10⟩
theorem la_X11_0 : Cond.lays RX11 "TurningPostsModel" "thrown" "I" ∈ tp_W := tp_W_of (tm_5 (List.mem_of_getElem? (i := 235) rfl)) rfl
theorem la_X11_1 : Cond.lays RX11 "TurningPostsModel" "told" "I" ∈ tp_W := tp_W_of (tm_5 (List.mem_of_getElem? (i := 237) rfl)) rfl
theorem la_X11_2 : Cond.laysFinal RX11 "TurningPostsModel" "row" "[J" ∈ tp_W := tp_W_of (tm_5 (List.mem_of_getElem? (i := 239) rfl)) rfl
theorem la_X11_3 : Cond.lays RX11 "TurningPostsModel" "crossings" "I" ∈ tp_W := tp_W_of (tm_6 (List.mem_of_getElem? (i := 1) rfl)) rfl
theorem la_X11_4 : Cond.laysFinal RX11 "TurningPostsModel" "wide" "[I" ∈ tp_W := tp_W_of (tm_6 (List.mem_of_getElem? (i := 3) rfl)) rfl
theorem la_X11_5 : Cond.laysFinal RX11 "TurningPostsModel" "goal" "[I" ∈ tp_W := tp_W_of (tm_6 (List.mem_of_getElem? (i := 5) rfl)) rfl
theorem la_X11_6 : Cond.laysFinal RX11 "TurningPostsModel" "now" "[I" ∈ tp_W := tp_W_of (tm_6 (List.mem_of_getElem? (i := 7) rfl)) rfl
theorem la_X11_7 : Cond.laysFinal RX11 "TurningPostsModel" "then" "[I" ∈ tp_W := tp_W_of (tm_6 (List.mem_of_getElem? (i := 9) rfl)) rfl
theorem la_X11_8 : Cond.laysFinal RX11 "TurningPostsModel" "tape" "[I" ∈ tp_W := tp_W_of (tm_6 (List.mem_of_getElem? (i := 11) rfl)) rfl
theorem la_X11_9 : Cond.lays RX11 "TurningPostsModel" "taped" "I" ∈ tp_W := tp_W_of (tm_6 (List.mem_of_getElem? (i := 13) rfl)) rfl
theorem la_X11_10 : Cond.lays RX11 "TurningPostsModel" "at" "I" ∈ tp_W := tp_W_of (tm_6 (List.mem_of_getElem? (i := 15) rfl)) rfl
theorem la_X11_11 : Cond.lays RX11 "TurningPostsModel" "to" "I" ∈ tp_W := tp_W_of (tm_6 (List.mem_of_getElem? (i := 17) rfl)) rfl
theorem la_X11_12 : Cond.lays RX11 "TurningPostsModel" "nest" "I" ∈ tp_W := tp_W_of (tm_6 (List.mem_of_getElem? (i := 19) rfl)) rfl
theorem la_X11_13 : Cond.laysFinal RX11 "TurningPostsModel" "readWide" "[I" ∈ tp_W := tp_W_of (tm_6 (List.mem_of_getElem? (i := 21) rfl)) rfl
theorem la_X11_14 : Cond.laysFinal RX11 "TurningPostsModel" "readGoal" "[I" ∈ tp_W := tp_W_of (tm_6 (List.mem_of_getElem? (i := 23) rfl)) rfl
theorem la_X11_15 : Cond.lays RX11 "TurningPostsModel" "lines" "I" ∈ tp_W := tp_W_of (tm_6 (List.mem_of_getElem? (i := 25) rfl)) rfl
theorem la_X11_16 : Cond.laysFinal RX11 "TurningPostsModel" "code" "[I" ∈ tp_W := tp_W_of (tm_6 (List.mem_of_getElem? (i := 27) rfl)) rfl
theorem la_X11_17 : Cond.laysFinal RX11 "TurningPostsModel" "readCode" "[I" ∈ tp_W := tp_W_of (tm_6 (List.mem_of_getElem? (i := 29) rfl)) rfl
theorem la_X11_18 : Cond.lays RX11 "TurningPostsModel" "codeLong" "I" ∈ tp_W := tp_W_of (tm_6 (List.mem_of_getElem? (i := 31) rfl)) rfl
theorem la_X11_19 : Cond.lays RX11 "TurningPostsModel" "codesRead" "I" ∈ tp_W := tp_W_of (tm_6 (List.mem_of_getElem? (i := 33) rfl)) rfl
theorem la_X11_20 : Cond.laysFinal RX11 "TurningPostsModel" "stack" "[I" ∈ tp_W := tp_W_of (tm_6 (List.mem_of_getElem? (i := 35) rfl)) rfl
theorem la_X11_21 : Cond.laysFinal RX11 "TurningPostsModel" "asked" "[I" ∈ tp_W := tp_W_of (tm_6 (List.mem_of_getElem? (i := 37) rfl)) rfl
theorem la_X11_22 : Cond.laysFinal RX11 "TurningPostsModel" "far" "[I" ∈ tp_W := tp_W_of (tm_6 (List.mem_of_getElem? (i := 39) rfl)) rfl
theorem la_X11_23 : Cond.lays RX11 "TurningPostsModel" "undos" "I" ∈ tp_W := tp_W_of (tm_6 (List.mem_of_getElem? (i := 41) rfl)) rfl
theorem la_X11_24 : Cond.laysFinal RX11 "TurningPostsModel" "undone" "[I" ∈ tp_W := tp_W_of (tm_6 (List.mem_of_getElem? (i := 43) rfl)) rfl
theorem la_X11_25 : Cond.lays RX11 "TurningPostsModel" "through" "I" ∈ tp_W := tp_W_of (tm_6 (List.mem_of_getElem? (i := 45) rfl)) rfl
theorem la_X11_26 : Cond.laysFinal RX11 "TurningPostsModel" "burst" "[I" ∈ tp_W := tp_W_of (tm_6 (List.mem_of_getElem? (i := 47) rfl)) rfl
theorem la_X11_27 : Cond.laysFinal RX11 "TurningPostsModel" "actSign" "[I" ∈ tp_W := tp_W_of (tm_6 (List.mem_of_getElem? (i := 49) rfl)) rfl
theorem la_X11_28 : Cond.laysFinal RX11 "TurningPostsModel" "actOne" "[I" ∈ tp_W := tp_W_of (tm_6 (List.mem_of_getElem? (i := 51) rfl)) rfl
theorem la_X11_29 : Cond.laysFinal RX11 "TurningPostsModel" "actTwo" "[I" ∈ tp_W := tp_W_of (tm_6 (List.mem_of_getElem? (i := 53) rfl)) rfl
theorem la_X11_30 : Cond.lays RX11 "TurningPostsModel" "acts" "I" ∈ tp_W := tp_W_of (tm_6 (List.mem_of_getElem? (i := 55) rfl)) rfl
theorem la_X11_31 : Cond.laysFinal RX11 "TurningPostsModel" "leaves" "[I" ∈ tp_W := tp_W_of (tm_6 (List.mem_of_getElem? (i := 57) rfl)) rfl
theorem la_X11_32 : Cond.lays RX11 "TurningPostsModel" "wentMany" "I" ∈ tp_W := tp_W_of (tm_6 (List.mem_of_getElem? (i := 59) rfl)) rfl
theorem la_X11_33 : Cond.lays RX11 "TurningPostsModel" "backMany" "I" ∈ tp_W := tp_W_of (tm_6 (List.mem_of_getElem? (i := 61) rfl)) rfl
theorem la_X11_34 : Cond.laysFinal RX11 "TurningPostsModel" "posts" "[I" ∈ tp_W := tp_W_of (tm_6 (List.mem_of_getElem? (i := 63) rfl)) rfl
theorem la_X11_35 : Cond.laysFinal RX11 "TurningPostsModel" "matrix" "[J" ∈ tp_W := tp_W_of (tm_6 (List.mem_of_getElem? (i := 65) rfl)) rfl
theorem la_X11_36 : Cond.lays RX11 "TurningPostsModel" "signOf" "I" ∈ tp_W := tp_W_of (tm_6 (List.mem_of_getElem? (i := 67) rfl)) rfl
theorem la_X11_37 : Cond.laysFinal RX11 "TurningPostsModel" "chance" "[J" ∈ tp_W := tp_W_of (tm_6 (List.mem_of_getElem? (i := 69) rfl)) rfl
theorem la_X11_38 : Cond.laysFinal RX11 "TurningPostsModel" "next" "[J" ∈ tp_W := tp_W_of (tm_6 (List.mem_of_getElem? (i := 71) rfl)) rfl
theorem la_X11_39 : Cond.lays RX11 "TurningPostsModel" "seenMany" "I" ∈ tp_W := tp_W_of (tm_6 (List.mem_of_getElem? (i := 73) rfl)) rfl
theorem la_X11_40 : Cond.laysFinal RX11 "TurningPostsModel" "seenFrom" "[I" ∈ tp_W := tp_W_of (tm_6 (List.mem_of_getElem? (i := 75) rfl)) rfl
theorem la_X11_41 : Cond.laysFinal RX11 "TurningPostsModel" "seenSteps" "[I" ∈ tp_W := tp_W_of (tm_6 (List.mem_of_getElem? (i := 77) rfl)) rfl
theorem la_X11_42 : Cond.laysFinal RX11 "TurningPostsModel" "seenAt" "[I" ∈ tp_W := tp_W_of (tm_6 (List.mem_of_getElem? (i := 79) rfl)) rfl
theorem la_X11_43 : Cond.laysFinal RX11 "TurningPostsModel" "often" "[I" ∈ tp_W := tp_W_of (tm_6 (List.mem_of_getElem? (i := 81) rfl)) rfl
theorem la_X11_44 : Cond.lays RX11 "TurningPostsModel" "heardMany" "I" ∈ tp_W := tp_W_of (tm_6 (List.mem_of_getElem? (i := 83) rfl)) rfl
theorem la_X11_45 : Cond.laysFinal RX11 "TurningPostsModel" "heardWhat" "[I" ∈ tp_W := tp_W_of (tm_6 (List.mem_of_getElem? (i := 85) rfl)) rfl
theorem la_X11_46 : Cond.laysFinal RX11 "TurningPostsModel" "heardOf" "[I" ∈ tp_W := tp_W_of (tm_6 (List.mem_of_getElem? (i := 87) rfl)) rfl
theorem la_X11_47 : Cond.laysFinal RX11 "TurningPostsModel" "won" "[Z" ∈ tp_W := tp_W_of (tm_6 (List.mem_of_getElem? (i := 89) rfl)) rfl
theorem la_X11_48 : Cond.laysFinal RX11 "TurningPostsModel" "wasCode" "[I" ∈ tp_W := tp_W_of (tm_6 (List.mem_of_getElem? (i := 91) rfl)) rfl
theorem la_X11_49 : Cond.lays RX11 "TurningPostsModel" "random" "I" ∈ tp_W := tp_W_of (tm_6 (List.mem_of_getElem? (i := 93) rfl)) rfl
theorem la_X11_50 : Cond.laysFinal RX11 "TurningPostsModel" "isKept" "[Z" ∈ tp_W := tp_W_of (tm_6 (List.mem_of_getElem? (i := 95) rfl)) rfl
theorem la_X11_51 : Cond.laysFinal RX11 "TurningPostsModel" "kept" "[I" ∈ tp_W := tp_W_of (tm_6 (List.mem_of_getElem? (i := 97) rfl)) rfl
theorem tk_X11 : tp_Cl 11 RX11 TX11 52 tyX11 := ⟨rfl, fun w h => by
  obtain ⟨k, hk, rfl⟩ := List.mem_map.mp h
  match k, List.mem_range.mp hk with
  | 0, _ => exact la_X11_0
  | 1, _ => exact la_X11_1
  | 2, _ => exact la_X11_2
  | 3, _ => exact la_X11_3
  | 4, _ => exact la_X11_4
  | 5, _ => exact la_X11_5
  | 6, _ => exact la_X11_6
  | 7, _ => exact la_X11_7
  | 8, _ => exact la_X11_8
  | 9, _ => exact la_X11_9
  | 10, _ => exact la_X11_10
  | 11, _ => exact la_X11_11
  | 12, _ => exact la_X11_12
  | 13, _ => exact la_X11_13
  | 14, _ => exact la_X11_14
  | 15, _ => exact la_X11_15
  | 16, _ => exact la_X11_16
  | 17, _ => exact la_X11_17
  | 18, _ => exact la_X11_18
  | 19, _ => exact la_X11_19
  | 20, _ => exact la_X11_20
  | 21, _ => exact la_X11_21
  | 22, _ => exact la_X11_22
  | 23, _ => exact la_X11_23
  | 24, _ => exact la_X11_24
  | 25, _ => exact la_X11_25
  | 26, _ => exact la_X11_26
  | 27, _ => exact la_X11_27
  | 28, _ => exact la_X11_28
  | 29, _ => exact la_X11_29
  | 30, _ => exact la_X11_30
  | 31, _ => exact la_X11_31
  | 32, _ => exact la_X11_32
  | 33, _ => exact la_X11_33
  | 34, _ => exact la_X11_34
  | 35, _ => exact la_X11_35
  | 36, _ => exact la_X11_36
  | 37, _ => exact la_X11_37
  | 38, _ => exact la_X11_38
  | 39, _ => exact la_X11_39
  | 40, _ => exact la_X11_40
  | 41, _ => exact la_X11_41
  | 42, _ => exact la_X11_42
  | 43, _ => exact la_X11_43
  | 44, _ => exact la_X11_44
  | 45, _ => exact la_X11_45
  | 46, _ => exact la_X11_46
  | 47, _ => exact la_X11_47
  | 48, _ => exact la_X11_48
  | 49, _ => exact la_X11_49
  | 50, _ => exact la_X11_50
  | 51, _ => exact la_X11_51
  | k + 52, h => exact absurd h (by omega), tyX11_ok, nmX11⟩
