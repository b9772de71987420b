theorem dL_cell_0 : decode cL_cell 0 = .ok (.aload_n 0, 1) := by decide +kernel
theorem dL_cell_1 : decode cL_cell 1 = .ok (.arraylength, 1) := by decide +kernel
theorem dL_cell_2 : decode cL_cell 2 = .ok (.ifCond .ne 13, 3) := by decide +kernel
theorem dL_cell_5 : decode cL_cell 5 = .ok (.bipush 71, 2) := by decide +kernel
theorem dL_cell_7 : decode cL_cell 7 = .ok (.iload_n 1, 1) := by decide +kernel
theorem dL_cell_8 : decode cL_cell 8 = .ok (.imul, 1) := by decide +kernel
theorem dL_cell_9 : decode cL_cell 9 = .ok (.bipush 13, 2) := by decide +kernel
theorem dL_cell_11 : decode cL_cell 11 = .ok (.iadd, 1) := by decide +kernel
theorem dL_cell_12 : decode cL_cell 12 = .ok (.goto 19, 3) := by decide +kernel
theorem dL_cell_15 : decode cL_cell 15 = .ok (.aload_n 0, 1) := by decide +kernel
theorem dL_cell_16 : decode cL_cell 16 = .ok (.iload_n 1, 1) := by decide +kernel
theorem dL_cell_17 : decode cL_cell 17 = .ok (.aload_n 0, 1) := by decide +kernel
theorem dL_cell_18 : decode cL_cell 18 = .ok (.arraylength, 1) := by decide +kernel
theorem dL_cell_19 : decode cL_cell 19 = .ok (.irem, 1) := by decide +kernel
theorem dL_cell_20 : decode cL_cell 20 = .ok (.iaload, 1) := by decide +kernel
theorem dL_cell_21 : decode cL_cell 21 = .ok (.iconst 5, 1) := by decide +kernel
theorem dL_cell_22 : decode cL_cell 22 = .ok (.iload_n 1, 1) := by decide +kernel
theorem dL_cell_23 : decode cL_cell 23 = .ok (.aload_n 0, 1) := by decide +kernel
theorem dL_cell_24 : decode cL_cell 24 = .ok (.arraylength, 1) := by decide +kernel
theorem dL_cell_25 : decode cL_cell 25 = .ok (.idiv, 1) := by decide +kernel
theorem dL_cell_26 : decode cL_cell 26 = .ok (.imul, 1) := by decide +kernel
theorem dL_cell_27 : decode cL_cell 27 = .ok (.bipush 17, 2) := by decide +kernel
theorem dL_cell_29 : decode cL_cell 29 = .ok (.irem, 1) := by decide +kernel
theorem dL_cell_30 : decode cL_cell 30 = .ok (.iushr, 1) := by decide +kernel
theorem dL_cell_31 : decode cL_cell 31 = .ok (.ireturn, 1) := by decide +kernel
set_option maxRecDepth 20000 in
theorem ggL_addClaim_X12_addClaim : GoodIn wsL_addClaim wsX12_addClaim := goodIn_ca (goodIn_ca (goodIn_ca (goodIn_ca (goodIn_ca (goodIn_ca (goodIn_r _ [6, 7, 8, 9, 10, 11, 12, 13, 14, 15, 16, 17, 18, 19, 20, 21, 22, 23, 24, 25, 26, 27, 28, 29, 30, 31, 32, 33, 34, 35, 36, 37, 38, 39, 40, 41, 42, 43, 44, 45, 46, 47, 48, 49, 50, 51, 52, 53, 54, 55, 56, 57, 58, 5, 59, 60, 61, 62, 63, 64, 65, 66, 67, 68, 69, 70, 71, 72, 73, 74, 75, 76, 77, 78, 79, 80, 81, 82, 83, 84, 85, 86, 87, 88, 89, 90, 91, 92, 93, 94, 95, 96, 97, 98, 99, 100, 101, 102, 103, 104, 105, 106, 107, 108, 109, 110, 111, 112, 113, 114] rfl (by decide +kernel)) (goodIn_sub (fun _ h => List.mem_cons_of_mem _ (List.mem_append_left _ (List.mem_append_left _ (List.mem_append_left _ (List.mem_append_left _ (List.mem_append_left _ (List.mem_append_right _ h))))))) (by decide +kernel))) (goodIn_sub (fun _ h => List.mem_cons_of_mem _ (List.mem_append_left _ (List.mem_append_left _ (List.mem_append_left _ (List.mem_append_left _ (List.mem_append_right _ h)))))) (by decide +kernel))) (goodIn_sub (fun _ h => List.mem_cons_of_mem _ (List.mem_append_left _ (List.mem_append_left _ (List.mem_append_left _ (List.mem_append_right _ h))))) (by decide +kernel))) (goodIn_sub (fun _ h => List.mem_cons_of_mem _ (List.mem_append_left _ (List.mem_append_left _ (List.mem_append_right _ h)))) (by decide +kernel))) (goodIn_sub (fun _ h => List.mem_cons_of_mem _ (List.mem_append_left _ (List.mem_append_right _ h))) (by decide +kernel))) (goodIn_sub (fun _ h => List.mem_cons_of_mem _ (List.mem_append_right _ h)) (by decide +kernel))
set_option maxRecDepth 20000 in
theorem gL_addClaim_X12_addClaim : GoodIn wsL_addClaim (wsV RL 7 RX12 yX12_addClaim wsX12_addClaim) := goodIn_app (goodIn_of _ (by decide +kernel)) ggL_addClaim_X12_addClaim
theorem dL_addClaim_0 : decode cL_addClaim 0 = .ok (.aload_n 0, 1) := by decide +kernel
theorem dL_addClaim_1 : decode cL_addClaim 1 = .ok (.iload_n 1, 1) := by decide +kernel
theorem dL_addClaim_2 : decode cL_addClaim 2 = .ok (.invokevirtual 7, 3) := by decide +kernel
theorem dL_addClaim_5 : decode cL_addClaim 5 = .ok (.ireturn, 1) := by decide +kernel
theorem dL_addClaim_6 : decode cL_addClaim 6 = .ok (.astore_n 2, 1) := by decide +kernel
theorem dL_addClaim_7 : decode cL_addClaim 7 = .ok (.iconst (-1), 1) := by decide +kernel
theorem dL_addClaim_8 : decode cL_addClaim 8 = .ok (.ireturn, 1) := by decide +kernel
theorem dL_addClaim_9 : decode cL_addClaim 9 = .ok (.astore_n 2, 1) := by decide +kernel
theorem dL_addClaim_10 : decode cL_addClaim 10 = .ok (.bipush (-2), 2) := by decide +kernel
theorem dL_addClaim_12 : decode cL_addClaim 12 = .ok (.ireturn, 1) := by decide +kernel
set_option maxRecDepth 20000 in
theorem ggL_setAttack_X12_setAttack : GoodIn wsL_setAttack wsX12_setAttack := goodIn_ca (goodIn_ca (goodIn_ca (goodIn_ca (goodIn_ca (goodIn_ca (goodIn_r _ [6, 7, 8, 9, 10, 11, 12, 13, 14, 15, 16, 17, 18, 19, 20, 21, 22, 23, 24, 25, 26, 27, 28, 29, 30, 31, 32, 33, 34, 35, 36, 37, 38, 39, 40, 41, 42, 43, 44, 45, 46, 47, 48, 49, 50, 51, 52, 53, 54, 55, 56, 57, 58, 59, 60, 5, 61, 62, 63, 64, 65, 66, 67, 68, 69, 70, 71, 72, 73, 74, 75, 76, 77, 78, 79, 80, 81, 82, 83, 84, 85, 86, 87, 88, 89, 90, 91, 92, 93, 94, 95, 96, 97, 98, 99, 100, 101, 102, 103, 104, 105, 106, 107, 108, 109, 110, 111, 112, 113, 114, 115, 116, 117, 118, 119, 120, 121, 122] rfl (by decide +kernel)) (goodIn_sub (fun _ h => List.mem_cons_of_mem _ (List.mem_append_left _ (List.mem_append_left _ (List.mem_append_left _ (List.mem_append_left _ (List.mem_append_left _ (List.mem_append_right _ h))))))) (by decide +kernel))) (goodIn_sub (fun _ h => List.mem_cons_of_mem _ (List.mem_append_left _ (List.mem_append_left _ (List.mem_append_left _ (List.mem_append_left _ (List.mem_append_right _ h)))))) (by decide +kernel))) (goodIn_sub (fun _ h => List.mem_cons_of_mem _ (List.mem_append_left _ (List.mem_append_left _ (List.mem_append_left _ (List.mem_append_right _ h))))) (by decide +kernel))) (goodIn_sub (fun _ h => List.mem_cons_of_mem _ (List.mem_append_left _ (List.mem_append_left _ (List.mem_append_right _ h)))) (by decide +kernel))) (goodIn_sub (fun _ h => List.mem_cons_of_mem _ (List.mem_append_left _ (List.mem_append_right _ h))) (by decide +kernel))) (goodIn_sub (fun _ h => List.mem_cons_of_mem _ (List.mem_append_right _ h)) (by decide +kernel))
set_option maxRecDepth 20000 in
theorem gL_setAttack_X12_setAttack : GoodIn wsL_setAttack (wsV RL 17 RX12 yX12_setAttack wsX12_setAttack) := goodIn_app (goodIn_of _ (by decide +kernel)) ggL_setAttack_X12_setAttack
theorem dL_setAttack_0 : decode cL_setAttack 0 = .ok (.aload_n 0, 1) := by decide +kernel
theorem dL_setAttack_1 : decode cL_setAttack 1 = .ok (.iload_n 1, 1) := by decide +kernel
theorem dL_setAttack_2 : decode cL_setAttack 2 = .ok (.iload_n 2, 1) := by decide +kernel
theorem dL_setAttack_3 : decode cL_setAttack 3 = .ok (.iload_n 3, 1) := by decide +kernel
theorem dL_setAttack_4 : decode cL_setAttack 4 = .ok (.invokevirtual 17, 3) := by decide +kernel
theorem dL_setAttack_7 : decode cL_setAttack 7 = .ok (.ifCond .eq 7, 3) := by decide +kernel
theorem dL_setAttack_10 : decode cL_setAttack 10 = .ok (.iconst 1, 1) := by decide +kernel
theorem dL_setAttack_11 : decode cL_setAttack 11 = .ok (.goto 4, 3) := by decide +kernel
theorem dL_setAttack_14 : decode cL_setAttack 14 = .ok (.iconst 0, 1) := by decide +kernel
theorem dL_setAttack_15 : decode cL_setAttack 15 = .ok (.ireturn, 1) := by decide +kernel
theorem dL_setAttack_16 : decode cL_setAttack 16 = .ok (.astore 4, 2) := by decide +kernel
theorem dL_setAttack_18 : decode cL_setAttack 18 = .ok (.iconst (-1), 1) := by decide +kernel
theorem dL_setAttack_19 : decode cL_setAttack 19 = .ok (.ireturn, 1) := by decide +kernel
set_option maxRecDepth 20000 in
theorem ggL_setLayer_X12_setLayer : GoodIn wsL_setLayer wsX12_setLayer := goodIn_ca (goodIn_ca (goodIn_ca (goodIn_ca (goodIn_ca (goodIn_ca (goodIn_r _ [6, 7, 8, 9, 10, 11, 12, 13, 14, 15, 16, 17, 18, 19, 20, 21, 22, 23, 24, 25, 26, 27, 28, 29, 30, 31, 32, 33, 34, 35, 36, 37, 38, 39, 40, 41, 42, 43, 44, 45, 46, 47, 48, 49, 50, 51, 52, 53, 54, 55, 56, 57, 58, 59, 60, 5, 61, 62, 63, 64, 65, 66, 67, 68, 69, 70, 71, 72, 73, 74, 75, 76, 77, 78, 79, 80, 81, 82, 83, 84, 85, 86, 87, 88, 89, 90, 91, 92, 93, 94, 95, 96, 97, 98, 99, 100, 101, 102, 103, 104, 105, 106, 107, 108, 109, 110, 111, 112, 113, 114, 115, 116, 117, 118, 119, 120] rfl (by decide +kernel)) (goodIn_sub (fun _ h => List.mem_cons_of_mem _ (List.mem_append_left _ (List.mem_append_left _ (List.mem_append_left _ (List.mem_append_left _ (List.mem_append_left _ (List.mem_append_right _ h))))))) (by decide +kernel))) (goodIn_sub (fun _ h => List.mem_cons_of_mem _ (List.mem_append_left _ (List.mem_append_left _ (List.mem_append_left _ (List.mem_append_left _ (List.mem_append_right _ h)))))) (by decide +kernel))) (goodIn_sub (fun _ h => List.mem_cons_of_mem _ (List.mem_append_left _ (List.mem_append_left _ (List.mem_append_left _ (List.mem_append_right _ h))))) (by decide +kernel))) (goodIn_sub (fun _ h => List.mem_cons_of_mem _ (List.mem_append_left _ (List.mem_append_left _ (List.mem_append_right _ h)))) (by decide +kernel))) (goodIn_sub (fun _ h => List.mem_cons_of_mem _ (List.mem_append_left _ (List.mem_append_right _ h))) (by decide +kernel))) (goodIn_sub (fun _ h => List.mem_cons_of_mem _ (List.mem_append_right _ h)) (by decide +kernel))
set_option maxRecDepth 20000 in
theorem gL_setLayer_X12_setLayer : GoodIn wsL_setLayer (wsV RL 23 RX12 yX12_setLayer wsX12_setLayer) := goodIn_app (goodIn_of _ (by decide +kernel)) ggL_setLayer_X12_setLayer
theorem dL_setLayer_0 : decode cL_setLayer 0 = .ok (.aload_n 0, 1) := by decide +kernel
theorem dL_setLayer_1 : decode cL_setLayer 1 = .ok (.iload_n 1, 1) := by decide +kernel
theorem dL_setLayer_2 : decode cL_setLayer 2 = .ok (.iload_n 2, 1) := by decide +kernel
theorem dL_setLayer_3 : decode cL_setLayer 3 = .ok (.invokevirtual 23, 3) := by decide +kernel
theorem dL_setLayer_6 : decode cL_setLayer 6 = .ok (.ireturn, 1) := by decide +kernel
theorem dL_setLayer_7 : decode cL_setLayer 7 = .ok (.astore_n 3, 1) := by decide +kernel
theorem dL_setLayer_8 : decode cL_setLayer 8 = .ok (.iconst (-1), 1) := by decide +kernel
theorem dL_setLayer_9 : decode cL_setLayer 9 = .ok (.ireturn, 1) := by decide +kernel
set_option maxRecDepth 20000 in
theorem ggL_weightOf_X12_weightOf : GoodIn wsL_weightOf wsX12_weightOf := goodIn_ca (goodIn_ca (goodIn_r _ [6, 7, 8, 9, 10, 11, 12, 5, 13, 14, 15, 16, 17, 18, 19, 20, 21, 22, 23, 24, 25, 26, 27, 28, 29, 30, 31, 32, 33, 34, 35, 36, 37, 38, 39, 40, 41, 42, 43, 44, 45, 46, 47, 48, 49, 50] rfl (by decide +kernel)) (goodIn_sub (fun _ h => List.mem_cons_of_mem _ (List.mem_append_left _ (List.mem_append_right _ h))) (by decide +kernel))) (goodIn_sub (fun _ h => List.mem_cons_of_mem _ (List.mem_append_right _ h)) (by decide +kernel))
set_option maxRecDepth 20000 in
theorem gL_weightOf_X12_weightOf : GoodIn wsL_weightOf (wsV RL 27 RX12 yX12_weightOf wsX12_weightOf) := goodIn_app (goodIn_of _ (by decide +kernel)) ggL_weightOf_X12_weightOf
theorem dL_weightOf_0 : decode cL_weightOf 0 = .ok (.aload_n 0, 1) := by decide +kernel
theorem dL_weightOf_1 : decode cL_weightOf 1 = .ok (.iload_n 1, 1) := by decide +kernel
theorem dL_weightOf_2 : decode cL_weightOf 2 = .ok (.invokevirtual 27, 3) := by decide +kernel
theorem dL_weightOf_5 : decode cL_weightOf 5 = .ok (.ireturn, 1) := by decide +kernel
theorem dL_weightOf_6 : decode cL_weightOf 6 = .ok (.astore_n 2, 1) := by decide +kernel
theorem dL_weightOf_7 : decode cL_weightOf 7 = .ok (.iconst (-1), 1) := by decide +kernel
theorem dL_weightOf_8 : decode cL_weightOf 8 = .ok (.ireturn, 1) := by decide +kernel
set_option maxRecDepth 20000 in
theorem ggL_layerOf_X12_layerOf : GoodIn wsL_layerOf wsX12_layerOf := goodIn_ca (goodIn_ca (goodIn_r _ [6, 7, 8, 9, 10, 11, 12, 5, 13, 14, 15, 16, 17, 18, 19, 20, 21, 22, 23, 24, 25, 26, 27, 28, 29, 30, 31, 32, 33, 34, 35, 36, 37, 38, 39, 40, 41, 42, 43, 44, 45, 46, 47, 48, 49, 50] rfl (by decide +kernel)) (goodIn_sub (fun _ h => List.mem_cons_of_mem _ (List.mem_append_left _ (List.mem_append_right _ h))) (by decide +kernel))) (goodIn_sub (fun _ h => List.mem_cons_of_mem _ (List.mem_append_right _ h)) (by decide +kernel))
set_option maxRecDepth 20000 in
theorem gL_layerOf_X12_layerOf : GoodIn wsL_layerOf (wsV RL 30 RX12 yX12_layerOf wsX12_layerOf) := goodIn_app (goodIn_of _ (by decide +kernel)) ggL_layerOf_X12_layerOf
theorem dL_layerOf_0 : decode cL_layerOf 0 = .ok (.aload_n 0, 1) := by decide +kernel
theorem dL_layerOf_1 : decode cL_layerOf 1 = .ok (.iload_n 1, 1) := by decide +kernel
theorem dL_layerOf_2 : decode cL_layerOf 2 = .ok (.invokevirtual 30, 3) := by decide +kernel
theorem dL_layerOf_5 : decode cL_layerOf 5 = .ok (.ireturn, 1) := by decide +kernel
theorem dL_layerOf_6 : decode cL_layerOf 6 = .ok (.astore_n 2, 1) := by decide +kernel
theorem dL_layerOf_7 : decode cL_layerOf 7 = .ok (.iconst (-1), 1) := by decide +kernel
theorem dL_layerOf_8 : decode cL_layerOf 8 = .ok (.ireturn, 1) := by decide +kernel
set_option maxRecDepth 20000 in
theorem ggL_attacks_X12_attacks : GoodIn wsL_attacks wsX12_attacks := goodIn_ca (goodIn_ca (goodIn_r _ [6, 7, 8, 9, 10, 11, 12, 5, 13, 14, 15, 16, 17, 18, 19, 20, 21, 22, 23, 24, 25, 26, 27, 28, 29, 30, 31, 32, 33, 34, 35, 36, 37, 38, 39, 40, 41, 42, 43, 44, 45, 46, 47, 48, 49, 50, 51, 52, 53] rfl (by decide +kernel)) (goodIn_sub (fun _ h => List.mem_cons_of_mem _ (List.mem_append_left _ (List.mem_append_right _ h))) (by decide +kernel))) (goodIn_sub (fun _ h => List.mem_cons_of_mem _ (List.mem_append_right _ h)) (by decide +kernel))
set_option maxRecDepth 20000 in
theorem gL_attacks_X12_attacks : GoodIn wsL_attacks (wsV RL 33 RX12 yX12_attacks wsX12_attacks) := goodIn_app (goodIn_of _ (by decide +kernel)) ggL_attacks_X12_attacks
theorem dL_attacks_0 : decode cL_attacks 0 = .ok (.aload_n 0, 1) := by decide +kernel
theorem dL_attacks_1 : decode cL_attacks 1 = .ok (.iload_n 1, 1) := by decide +kernel
theorem dL_attacks_2 : decode cL_attacks 2 = .ok (.iload_n 2, 1) := by decide +kernel
theorem dL_attacks_3 : decode cL_attacks 3 = .ok (.invokevirtual 33, 3) := by decide +kernel
theorem dL_attacks_6 : decode cL_attacks 6 = .ok (.ifCond .eq 7, 3) := by decide +kernel
theorem dL_attacks_9 : decode cL_attacks 9 = .ok (.iconst 1, 1) := by decide +kernel
theorem dL_attacks_10 : decode cL_attacks 10 = .ok (.goto 4, 3) := by decide +kernel
theorem dL_attacks_13 : decode cL_attacks 13 = .ok (.iconst 0, 1) := by decide +kernel
theorem dL_attacks_14 : decode cL_attacks 14 = .ok (.ireturn, 1) := by decide +kernel
theorem dL_attacks_15 : decode cL_attacks 15 = .ok (.astore_n 3, 1) := by decide +kernel
theorem dL_attacks_16 : decode cL_attacks 16 = .ok (.iconst (-1), 1) := by decide +kernel
theorem dL_attacks_17 : decode cL_attacks 17 = .ok (.ireturn, 1) := by decide +kernel
set_option maxRecDepth 20000 in
theorem ggL_isRejected_X12_isRejected : GoodIn wsL_isRejected wsX12_isRejected := goodIn_ca (goodIn_ca (goodIn_r _ [6, 7, 8, 9, 5, 10, 11, 12, 13, 14, 15, 16, 17, 18, 19, 20, 21, 22, 23, 24, 25, 26, 27, 28, 29, 30, 31, 32, 33, 34, 35, 36, 37, 38, 39, 40, 41, 42, 43, 44, 45, 46, 47, 48, 49, 50, 51, 52, 53, 54, 55, 56, 57, 58, 59, 60, 61, 62, 63, 64, 65, 66, 67, 68, 69, 70, 71, 72, 73, 74, 75, 76, 77] rfl (by decide +kernel)) (goodIn_sub (fun _ h => List.mem_cons_of_mem _ (List.mem_append_left _ (List.mem_append_right _ h))) (by decide +kernel))) (goodIn_sub (fun _ h => List.mem_cons_of_mem _ (List.mem_append_right _ h)) (by decide +kernel))
set_option maxRecDepth 20000 in
theorem gL_isRejected_X12_isRejected : GoodIn wsL_isRejected (wsV RL 37 RX12 yX12_isRejected wsX12_isRejected) := goodIn_app (goodIn_of _ (by decide +kernel)) ggL_isRejected_X12_isRejected
theorem dL_isRejected_0 : decode cL_isRejected 0 = .ok (.aload_n 0, 1) := by decide +kernel
theorem dL_isRejected_1 : decode cL_isRejected 1 = .ok (.iload_n 1, 1) := by decide +kernel
theorem dL_isRejected_2 : decode cL_isRejected 2 = .ok (.invokevirtual 37, 3) := by decide +kernel
theorem dL_isRejected_5 : decode cL_isRejected 5 = .ok (.ifCond .eq 7, 3) := by decide +kernel
theorem dL_isRejected_8 : decode cL_isRejected 8 = .ok (.iconst 1, 1) := by decide +kernel
theorem dL_isRejected_9 : decode cL_isRejected 9 = .ok (.goto 4, 3) := by decide +kernel
theorem dL_isRejected_12 : decode cL_isRejected 12 = .ok (.iconst 0, 1) := by decide +kernel
theorem dL_isRejected_13 : decode cL_isRejected 13 = .ok (.ireturn, 1) := by decide +kernel
theorem dL_isRejected_14 : decode cL_isRejected 14 = .ok (.astore_n 2, 1) := by decide +kernel
theorem dL_isRejected_15 : decode cL_isRejected 15 = .ok (.iconst (-1), 1) := by decide +kernel
theorem dL_isRejected_16 : decode cL_isRejected 16 = .ok (.ireturn, 1) := by decide +kernel
set_option maxRecDepth 20000 in
theorem ggL_isPosition_X12_isPosition : GoodIn wsL_isPosition wsX12_isPosition := goodIn_ca (goodIn_ca (goodIn_r _ [6, 7, 8, 9, 10, 11, 12, 13, 14, 15, 16, 17, 5, 18, 19, 20, 21, 22, 23, 24, 25, 26, 27, 28, 29, 30, 31, 32, 33, 34, 35, 36, 37, 38, 39, 40, 41, 42, 43, 44, 45, 46, 47, 48, 49, 50, 51, 52, 53, 54, 55, 56, 57, 58, 59, 60, 61, 62, 63] rfl (by decide +kernel)) (goodIn_sub (fun _ h => List.mem_cons_of_mem _ (List.mem_append_left _ (List.mem_append_right _ h))) (by decide +kernel))) (goodIn_sub (fun _ h => List.mem_cons_of_mem _ (List.mem_append_right _ h)) (by decide +kernel))
set_option maxRecDepth 20000 in
theorem gL_isPosition_X12_isPosition : GoodIn wsL_isPosition (wsV RL 41 RX12 yX12_isPosition wsX12_isPosition) := goodIn_app (goodIn_of _ (by decide +kernel)) ggL_isPosition_X12_isPosition
theorem dL_isPosition_0 : decode cL_isPosition 0 = .ok (.aload_n 0, 1) := by decide +kernel
theorem dL_isPosition_1 : decode cL_isPosition 1 = .ok (.iload_n 1, 1) := by decide +kernel
theorem dL_isPosition_2 : decode cL_isPosition 2 = .ok (.invokevirtual 41, 3) := by decide +kernel
theorem dL_isPosition_5 : decode cL_isPosition 5 = .ok (.ifCond .eq 7, 3) := by decide +kernel
theorem dL_isPosition_8 : decode cL_isPosition 8 = .ok (.iconst 1, 1) := by decide +kernel
theorem dL_isPosition_9 : decode cL_isPosition 9 = .ok (.goto 4, 3) := by decide +kernel
theorem dL_isPosition_12 : decode cL_isPosition 12 = .ok (.iconst 0, 1) := by decide +kernel
theorem dL_isPosition_13 : decode cL_isPosition 13 = .ok (.ireturn, 1) := by decide +kernel
theorem dL_isPosition_14 : decode cL_isPosition 14 = .ok (.astore_n 2, 1) := by decide +kernel
theorem dL_isPosition_15 : decode cL_isPosition 15 = .ok (.iconst (-1), 1) := by decide +kernel
theorem dL_isPosition_16 : decode cL_isPosition 16 = .ok (.ireturn, 1) := by decide +kernel
set_option maxRecDepth 20000 in
theorem ggL_circleSize_X12_circleSize : GoodIn wsL_circleSize wsX12_circleSize := goodIn_ca (goodIn_ca (goodIn_r _ [6, 7, 8, 9, 10, 11, 5, 12, 13, 14, 15, 16, 17, 18, 19, 20, 21, 22, 23, 24, 25, 26, 27, 28, 29, 30, 31, 32, 33, 34, 35, 36, 37, 38, 39, 40, 41, 42, 43, 44, 45, 46, 47, 48, 49, 50, 51, 52, 53, 54, 55, 56, 57, 58, 59, 60, 61, 62, 63, 64, 65, 66, 67, 68, 69, 70, 71, 72, 73, 74, 75, 76, 77, 78] rfl (by decide +kernel)) (goodIn_sub (fun _ h => List.mem_cons_of_mem _ (List.mem_append_left _ (List.mem_append_right _ h))) (by decide +kernel))) (goodIn_sub (fun _ h => List.mem_cons_of_mem _ (List.mem_append_right _ h)) (by decide +kernel))
set_option maxRecDepth 20000 in
theorem gL_circleSize_X12_circleSize : GoodIn wsL_circleSize (wsV RL 44 RX12 yX12_circleSize wsX12_circleSize) := goodIn_app (goodIn_of _ (by decide +kernel)) ggL_circleSize_X12_circleSize
theorem dL_circleSize_0 : decode cL_circleSize 0 = .ok (.aload_n 0, 1) := by decide +kernel
theorem dL_circleSize_1 : decode cL_circleSize 1 = .ok (.iload_n 1, 1) := by decide +kernel
theorem dL_circleSize_2 : decode cL_circleSize 2 = .ok (.invokevirtual 44, 3) := by decide +kernel
theorem dL_circleSize_5 : decode cL_circleSize 5 = .ok (.ireturn, 1) := by decide +kernel
theorem dL_circleSize_6 : decode cL_circleSize 6 = .ok (.astore_n 2, 1) := by decide +kernel
theorem dL_circleSize_7 : decode cL_circleSize 7 = .ok (.iconst (-1), 1) := by decide +kernel
theorem dL_circleSize_8 : decode cL_circleSize 8 = .ok (.ireturn, 1) := by decide +kernel
set_option maxRecDepth 20000 in
theorem ggL_chains_X12_chains : GoodIn wsL_chains wsX12_chains := goodIn_ca (goodIn_ca (goodIn_ca (goodIn_r _ [6, 7, 8, 9, 10, 11, 12, 5, 13, 14, 15, 16, 17, 18, 19, 20, 21, 22, 23, 24, 25, 26, 27, 28, 29, 30, 31, 32, 33, 34, 35, 36, 37, 38, 39, 40, 41, 42, 43, 44, 45, 46, 47, 48, 49, 50, 51, 52, 53, 54, 55, 56, 57, 58, 59, 60, 61, 62, 63, 64, 65, 66, 67, 68, 69, 70, 71, 72, 73, 74, 75, 76, 77, 78, 79, 80, 81, 82, 83, 84, 85, 86, 87, 88, 89, 90, 91, 92, 93, 94, 95, 96, 97, 98] rfl (by decide +kernel)) (goodIn_sub (fun _ h => List.mem_cons_of_mem _ (List.mem_append_left _ (List.mem_append_left _ (List.mem_append_right _ h)))) (by decide +kernel))) (goodIn_sub (fun _ h => List.mem_cons_of_mem _ (List.mem_append_left _ (List.mem_append_right _ h))) (by decide +kernel))) (goodIn_sub (fun _ h => List.mem_cons_of_mem _ (List.mem_append_right _ h)) (by decide +kernel))
set_option maxRecDepth 20000 in
theorem gL_chains_X12_chains : GoodIn wsL_chains (wsV RL 47 RX12 yX12_chains wsX12_chains) := goodIn_app (goodIn_of _ (by decide +kernel)) ggL_chains_X12_chains
theorem dL_chains_0 : decode cL_chains 0 = .ok (.aload_n 0, 1) := by decide +kernel
theorem dL_chains_1 : decode cL_chains 1 = .ok (.iload_n 1, 1) := by decide +kernel
theorem dL_chains_2 : decode cL_chains 2 = .ok (.iload_n 2, 1) := by decide +kernel
theorem dL_chains_3 : decode cL_chains 3 = .ok (.iload_n 3, 1) := by decide +kernel
theorem dL_chains_4 : decode cL_chains 4 = .ok (.invokevirtual 47, 3) := by decide +kernel
theorem dL_chains_7 : decode cL_chains 7 = .ok (.ireturn, 1) := by decide +kernel
theorem dL_chains_8 : decode cL_chains 8 = .ok (.astore 4, 2) := by decide +kernel
theorem dL_chains_10 : decode cL_chains 10 = .ok (.iconst (-1), 1) := by decide +kernel
theorem dL_chains_11 : decode cL_chains 11 = .ok (.ireturn, 1) := by decide +kernel
theorem dL_chains_12 : decode cL_chains 12 = .ok (.astore 4, 2) := by decide +kernel
theorem dL_chains_14 : decode cL_chains 14 = .ok (.bipush (-2), 2) := by decide +kernel
theorem dL_chains_16 : decode cL_chains 16 = .ok (.ireturn, 1) := by decide +kernel
set_option maxRecDepth 20000 in
theorem ggL_chainsBySteps_X12_chainsBySteps : GoodIn wsL_chainsBySteps wsX12_chainsBySteps := goodIn_ca (goodIn_ca (goodIn_ca (goodIn_r _ [6, 7, 8, 9, 10, 11, 12, 5, 13, 14, 15, 16, 17, 18, 19, 20, 21, 22, 23, 24, 25, 26, 27, 28, 29, 30, 31, 32, 33, 34, 35, 36, 37, 38, 39, 40, 41, 42, 43, 44, 45, 46, 47, 48, 49, 50, 51, 52, 53, 54, 55, 56, 57, 58, 59, 60, 61, 62, 63, 64, 65, 66, 67, 68, 69, 70, 71, 72, 73, 74, 75, 76, 77, 78, 79, 80, 81, 82, 83, 84] rfl (by decide +kernel)) (goodIn_sub (fun _ h => List.mem_cons_of_mem _ (List.mem_append_left _ (List.mem_append_left _ (List.mem_append_right _ h)))) (by decide +kernel))) (goodIn_sub (fun _ h => List.mem_cons_of_mem _ (List.mem_append_left _ (List.mem_append_right _ h))) (by decide +kernel))) (goodIn_sub (fun _ h => List.mem_cons_of_mem _ (List.mem_append_right _ h)) (by decide +kernel))
set_option maxRecDepth 20000 in
theorem gL_chainsBySteps_X12_chainsBySteps : GoodIn wsL_chainsBySteps (wsV RL 51 RX12 yX12_chainsBySteps wsX12_chainsBySteps) := goodIn_app (goodIn_of _ (by decide +kernel)) ggL_chainsBySteps_X12_chainsBySteps
theorem dL_chainsBySteps_0 : decode cL_chainsBySteps 0 = .ok (.aload_n 0, 1) := by decide +kernel
theorem dL_chainsBySteps_1 : decode cL_chainsBySteps 1 = .ok (.iload_n 1, 1) := by decide +kernel
theorem dL_chainsBySteps_2 : decode cL_chainsBySteps 2 = .ok (.iload_n 2, 1) := by decide +kernel
theorem dL_chainsBySteps_3 : decode cL_chainsBySteps 3 = .ok (.iload_n 3, 1) := by decide +kernel
theorem dL_chainsBySteps_4 : decode cL_chainsBySteps 4 = .ok (.invokevirtual 51, 3) := by decide +kernel
theorem dL_chainsBySteps_7 : decode cL_chainsBySteps 7 = .ok (.ireturn, 1) := by decide +kernel
theorem dL_chainsBySteps_8 : decode cL_chainsBySteps 8 = .ok (.astore 4, 2) := by decide +kernel
theorem dL_chainsBySteps_10 : decode cL_chainsBySteps 10 = .ok (.iconst (-1), 1) := by decide +kernel
theorem dL_chainsBySteps_11 : decode cL_chainsBySteps 11 = .ok (.ireturn, 1) := by decide +kernel
theorem dL_chainsBySteps_12 : decode cL_chainsBySteps 12 = .ok (.astore 4, 2) := by decide +kernel
theorem dL_chainsBySteps_14 : decode cL_chainsBySteps 14 = .ok (.bipush (-2), 2) := by decide +kernel
theorem dL_chainsBySteps_16 : decode cL_chainsBySteps 16 = .ok (.ireturn, 1) := by decide +kernel
set_option maxRecDepth 20000 in
theorem ggL_setRack_X12_setRack : GoodIn wsL_setRack wsX12_setRack := goodIn_ca (goodIn_ca (goodIn_ca (goodIn_ca (goodIn_ca (goodIn_ca (goodIn_r _ [6, 7, 8, 9, 10, 11, 12, 13, 14, 15, 16, 17, 18, 19, 20, 21, 22, 23, 24, 25, 26, 27, 28, 29, 30, 31, 32, 33, 34, 35, 36, 37, 38, 39, 40, 41, 42, 43, 44, 45, 46, 47, 48, 49, 50, 51, 52, 53, 54, 55, 56, 5, 57, 58, 59, 60, 61, 62, 63, 64, 65, 66, 67, 68, 69, 70, 71, 72, 73, 74, 75, 76, 77, 78, 79, 80, 81, 82, 83, 84, 85, 86, 87, 88, 89, 90, 91, 92, 93, 94, 95, 96, 97, 98, 99, 100, 101, 102, 103, 104, 105, 106, 107, 108, 109, 110, 111, 112, 113, 114, 115, 116, 117, 118, 119, 120, 121, 122, 123] rfl (by decide +kernel)) (goodIn_sub (fun _ h => List.mem_cons_of_mem _ (List.mem_append_left _ (List.mem_append_left _ (List.mem_append_left _ (List.mem_append_left _ (List.mem_append_left _ (List.mem_append_right _ h))))))) (by decide +kernel))) (goodIn_sub (fun _ h => List.mem_cons_of_mem _ (List.mem_append_left _ (List.mem_append_left _ (List.mem_append_left _ (List.mem_append_left _ (List.mem_append_right _ h)))))) (by decide +kernel))) (goodIn_sub (fun _ h => List.mem_cons_of_mem _ (List.mem_append_left _ (List.mem_append_left _ (List.mem_append_left _ (List.mem_append_right _ h))))) (by decide +kernel))) (goodIn_sub (fun _ h => List.mem_cons_of_mem _ (List.mem_append_left _ (List.mem_append_left _ (List.mem_append_right _ h)))) (by decide +kernel))) (goodIn_sub (fun _ h => List.mem_cons_of_mem _ (List.mem_append_left _ (List.mem_append_right _ h))) (by decide +kernel))) (goodIn_sub (fun _ h => List.mem_cons_of_mem _ (List.mem_append_right _ h)) (by decide +kernel))
set_option maxRecDepth 20000 in
theorem gL_setRack_X12_setRack : GoodIn wsL_setRack (wsV RL 54 RX12 yX12_setRack wsX12_setRack) := goodIn_app (goodIn_of _ (by decide +kernel)) ggL_setRack_X12_setRack
theorem dL_setRack_0 : decode cL_setRack 0 = .ok (.aload_n 0, 1) := by decide +kernel
theorem dL_setRack_1 : decode cL_setRack 1 = .ok (.iload_n 1, 1) := by decide +kernel
theorem dL_setRack_2 : decode cL_setRack 2 = .ok (.iload_n 2, 1) := by decide +kernel
theorem dL_setRack_3 : decode cL_setRack 3 = .ok (.invokevirtual 54, 3) := by decide +kernel
theorem dL_setRack_6 : decode cL_setRack 6 = .ok (.ireturn, 1) := by decide +kernel
theorem dL_setRack_7 : decode cL_setRack 7 = .ok (.astore_n 3, 1) := by decide +kernel
theorem dL_setRack_8 : decode cL_setRack 8 = .ok (.iconst (-1), 1) := by decide +kernel
theorem dL_setRack_9 : decode cL_setRack 9 = .ok (.ireturn, 1) := by decide +kernel
theorem dL_setRack_10 : decode cL_setRack 10 = .ok (.astore_n 3, 1) := by decide +kernel
theorem dL_setRack_11 : decode cL_setRack 11 = .ok (.bipush (-2), 2) := by decide +kernel
theorem dL_setRack_13 : decode cL_setRack 13 = .ok (.ireturn, 1) := by decide +kernel
theorem dL_setRack_14 : decode cL_setRack 14 = .ok (.astore_n 3, 1) := by decide +kernel
theorem dL_setRack_15 : decode cL_setRack 15 = .ok (.bipush (-3), 2) := by decide +kernel
theorem dL_setRack_17 : decode cL_setRack 17 = .ok (.ireturn, 1) := by decide +kernel
set_option maxRecDepth 20000 in
theorem ggL_insert_X12_insert : GoodIn wsL_insert wsX12_insert := goodIn_ca (goodIn_ca (goodIn_ca (goodIn_ca (goodIn_ca (goodIn_ca (goodIn_r _ [6, 7, 8, 9, 10, 11, 12, 13, 14, 15, 16, 17, 18, 19, 20, 21, 22, 23, 24, 25, 26, 27, 28, 29, 30, 31, 32, 33, 34, 35, 36, 37, 38, 39, 40, 41, 42, 43, 44, 45, 46, 47, 48, 49, 50, 51, 52, 53, 54, 55, 56, 57, 58, 59, 5, 60, 61, 62, 63, 64, 65, 66, 67, 68, 69, 70, 71, 72, 73, 74, 75, 76, 77, 78, 79, 80, 81, 82, 83, 84, 85, 86, 87, 88, 89, 90, 91, 92, 93, 94, 95, 96, 97, 98, 99, 100, 101, 102, 103, 104, 105, 106, 107, 108, 109, 110, 111, 112, 113, 114, 115, 116, 117, 118, 119, 120, 121, 122, 123, 124, 125, 126, 127, 128, 129, 130, 131, 132, 133, 134, 135, 136, 137] rfl (by decide +kernel)) (goodIn_sub (fun _ h => List.mem_cons_of_mem _ (List.mem_append_left _ (List.mem_append_left _ (List.mem_append_left _ (List.mem_append_left _ (List.mem_append_left _ (List.mem_append_right _ h))))))) (by decide +kernel))) (goodIn_sub (fun _ h => List.mem_cons_of_mem _ (List.mem_append_left _ (List.mem_append_left _ (List.mem_append_left _ (List.mem_append_left _ (List.mem_append_right _ h)))))) (by decide +kernel))) (goodIn_sub (fun _ h => List.mem_cons_of_mem _ (List.mem_append_left _ (List.mem_append_left _ (List.mem_append_left _ (List.mem_append_right _ h))))) (by decide +kernel))) (goodIn_sub (fun _ h => List.mem_cons_of_mem _ (List.mem_append_left _ (List.mem_append_left _ (List.mem_append_right _ h)))) (by decide +kernel))) (goodIn_sub (fun _ h => List.mem_cons_of_mem _ (List.mem_append_left _ (List.mem_append_right _ h))) (by decide +kernel))) (goodIn_sub (fun _ h => List.mem_cons_of_mem _ (List.mem_append_right _ h)) (by decide +kernel))
set_option maxRecDepth 20000 in
theorem gL_insert_X12_insert : GoodIn wsL_insert (wsV RL 58 RX12 yX12_insert wsX12_insert) := goodIn_app (goodIn_of _ (by decide +kernel)) ggL_insert_X12_insert
theorem dL_insert_0 : decode cL_insert 0 = .ok (.aload_n 0, 1) := by decide +kernel
theorem dL_insert_1 : decode cL_insert 1 = .ok (.iload_n 1, 1) := by decide +kernel
theorem dL_insert_2 : decode cL_insert 2 = .ok (.iload_n 2, 1) := by decide +kernel
theorem dL_insert_3 : decode cL_insert 3 = .ok (.iload_n 3, 1) := by decide +kernel
theorem dL_insert_4 : decode cL_insert 4 = .ok (.invokevirtual 58, 3) := by decide +kernel
theorem dL_insert_7 : decode cL_insert 7 = .ok (.ireturn, 1) := by decide +kernel
theorem dL_insert_8 : decode cL_insert 8 = .ok (.astore 4, 2) := by decide +kernel
theorem dL_insert_10 : decode cL_insert 10 = .ok (.iconst (-1), 1) := by decide +kernel
theorem dL_insert_11 : decode cL_insert 11 = .ok (.ireturn, 1) := by decide +kernel
theorem dL_insert_12 : decode cL_insert 12 = .ok (.astore 4, 2) := by decide +kernel
theorem dL_insert_14 : decode cL_insert 14 = .ok (.bipush (-2), 2) := by decide +kernel
theorem dL_insert_16 : decode cL_insert 16 = .ok (.ireturn, 1) := by decide +kernel
theorem dL_insert_17 : decode cL_insert 17 = .ok (.astore 4, 2) := by decide +kernel
theorem dL_insert_19 : decode cL_insert 19 = .ok (.bipush (-3), 2) := by decide +kernel
theorem dL_insert_21 : decode cL_insert 21 = .ok (.ireturn, 1) := by decide +kernel
theorem dL_insert_22 : decode cL_insert 22 = .ok (.astore 4, 2) := by decide +kernel
theorem dL_insert_24 : decode cL_insert 24 = .ok (.bipush (-4), 2) := by decide +kernel
theorem dL_insert_26 : decode cL_insert 26 = .ok (.ireturn, 1) := by decide +kernel
set_option maxRecDepth 20000 in
theorem ggL_withdraw_X12_withdraw : GoodIn wsL_withdraw wsX12_withdraw := goodIn_ca (goodIn_ca (goodIn_ca (goodIn_ca (goodIn_ca (goodIn_ca (goodIn_r _ [6, 7, 8, 9, 10, 11, 12, 13, 14, 15, 16, 17, 18, 19, 20, 21, 22, 23, 24, 25, 26, 27, 28, 29, 30, 31, 32, 33, 34, 35, 36, 37, 38, 39, 40, 41, 42, 43, 44, 45, 46, 47, 48, 49, 50, 51, 52, 53, 54, 55, 56, 57, 58, 59, 5, 60, 61, 62, 63, 64, 65, 66, 67, 68, 69, 70, 71, 72, 73, 74, 75, 76, 77, 78, 79, 80, 81, 82, 83, 84, 85, 86, 87, 88, 89, 90, 91, 92, 93, 94, 95, 96, 97, 98, 99, 100, 101, 102, 103, 104, 105, 106, 107, 108, 109, 110, 111, 112, 113, 114, 115, 116, 117, 118, 119, 120, 121, 122, 123, 124, 125, 126] rfl (by decide +kernel)) (goodIn_sub (fun _ h => List.mem_cons_of_mem _ (List.mem_append_left _ (List.mem_append_left _ (List.mem_append_left _ (List.mem_append_left _ (List.mem_append_left _ (List.mem_append_right _ h))))))) (by decide +kernel))) (goodIn_sub (fun _ h => List.mem_cons_of_mem _ (List.mem_append_left _ (List.mem_append_left _ (List.mem_append_left _ (List.mem_append_left _ (List.mem_append_right _ h)))))) (by decide +kernel))) (goodIn_sub (fun _ h => List.mem_cons_of_mem _ (List.mem_append_left _ (List.mem_append_left _ (List.mem_append_left _ (List.mem_append_right _ h))))) (by decide +kernel))) (goodIn_sub (fun _ h => List.mem_cons_of_mem _ (List.mem_append_left _ (List.mem_append_left _ (List.mem_append_right _ h)))) (by decide +kernel))) (goodIn_sub (fun _ h => List.mem_cons_of_mem _ (List.mem_append_left _ (List.mem_append_right _ h))) (by decide +kernel))) (goodIn_sub (fun _ h => List.mem_cons_of_mem _ (List.mem_append_right _ h)) (by decide +kernel))
set_option maxRecDepth 20000 in
theorem gL_withdraw_X12_withdraw : GoodIn wsL_withdraw (wsV RL 64 RX12 yX12_withdraw wsX12_withdraw) := goodIn_app (goodIn_of _ (by decide +kernel)) ggL_withdraw_X12_withdraw
theorem dL_withdraw_0 : decode cL_withdraw 0 = .ok (.aload_n 0, 1) := by decide +kernel
theorem dL_withdraw_1 : decode cL_withdraw 1 = .ok (.iload_n 1, 1) := by decide +kernel
theorem dL_withdraw_2 : decode cL_withdraw 2 = .ok (.iload_n 2, 1) := by decide +kernel
theorem dL_withdraw_3 : decode cL_withdraw 3 = .ok (.invokevirtual 64, 3) := by decide +kernel
theorem dL_withdraw_6 : decode cL_withdraw 6 = .ok (.ireturn, 1) := by decide +kernel
theorem dL_withdraw_7 : decode cL_withdraw 7 = .ok (.astore_n 3, 1) := by decide +kernel
theorem dL_withdraw_8 : decode cL_withdraw 8 = .ok (.iconst (-1), 1) := by decide +kernel
theorem dL_withdraw_9 : decode cL_withdraw 9 = .ok (.ireturn, 1) := by decide +kernel
theorem dL_withdraw_10 : decode cL_withdraw 10 = .ok (.astore_n 3, 1) := by decide +kernel
theorem dL_withdraw_11 : decode cL_withdraw 11 = .ok (.bipush (-2), 2) := by decide +kernel
theorem dL_withdraw_13 : decode cL_withdraw 13 = .ok (.ireturn, 1) := by decide +kernel
set_option maxRecDepth 20000 in
theorem ggL_remarkAt_X12_remarkAt : GoodIn wsL_remarkAt wsX12_remarkAt := goodIn_ca (goodIn_ca (goodIn_r _ [6, 7, 8, 9, 10, 11, 12, 13, 5, 14, 15, 16, 17, 18, 19, 20, 21, 22, 23, 24, 25, 26, 27, 28, 29, 30, 31, 32, 33, 34, 35, 36, 37, 38, 39, 40, 41, 42] rfl (by decide +kernel)) (goodIn_sub (fun _ h => List.mem_cons_of_mem _ (List.mem_append_left _ (List.mem_append_right _ h))) (by decide +kernel))) (goodIn_sub (fun _ h => List.mem_cons_of_mem _ (List.mem_append_right _ h)) (by decide +kernel))
set_option maxRecDepth 20000 in
theorem gL_remarkAt_X12_remarkAt : GoodIn wsL_remarkAt (wsV RL 70 RX12 yX12_remarkAt wsX12_remarkAt) := goodIn_app (goodIn_of _ (by decide +kernel)) ggL_remarkAt_X12_remarkAt
theorem dL_remarkAt_0 : decode cL_remarkAt 0 = .ok (.aload_n 0, 1) := by decide +kernel
theorem dL_remarkAt_1 : decode cL_remarkAt 1 = .ok (.iload_n 1, 1) := by decide +kernel
theorem dL_remarkAt_2 : decode cL_remarkAt 2 = .ok (.iload_n 2, 1) := by decide +kernel
theorem dL_remarkAt_3 : decode cL_remarkAt 3 = .ok (.invokevirtual 70, 3) := by decide +kernel
theorem dL_remarkAt_6 : decode cL_remarkAt 6 = .ok (.ireturn, 1) := by decide +kernel
theorem dL_remarkAt_7 : decode cL_remarkAt 7 = .ok (.astore_n 3, 1) := by decide +kernel
theorem dL_remarkAt_8 : decode cL_remarkAt 8 = .ok (.iconst (-1), 1) := by decide +kernel
theorem dL_remarkAt_9 : decode cL_remarkAt 9 = .ok (.ireturn, 1) := by decide +kernel
set_option maxRecDepth 20000 in
theorem ggL_depthOf_X12_depthOf : GoodIn wsL_depthOf wsX12_depthOf := goodIn_ca (goodIn_ca (goodIn_r _ [6, 7, 8, 9, 10, 11, 12, 5, 13, 14, 15, 16, 17, 18, 19, 20, 21, 22, 23, 24, 25, 26, 27, 28, 29, 30, 31, 32, 33, 34, 35, 36, 37, 38, 39, 40, 41, 42, 43, 44, 45, 46, 47] rfl (by decide +kernel)) (goodIn_sub (fun _ h => List.mem_cons_of_mem _ (List.mem_append_left _ (List.mem_append_right _ h))) (by decide +kernel))) (goodIn_sub (fun _ h => List.mem_cons_of_mem _ (List.mem_append_right _ h)) (by decide +kernel))
set_option maxRecDepth 20000 in
theorem gL_depthOf_X12_depthOf : GoodIn wsL_depthOf (wsV RL 73 RX12 yX12_depthOf wsX12_depthOf) := goodIn_app (goodIn_of _ (by decide +kernel)) ggL_depthOf_X12_depthOf
theorem dL_depthOf_0 : decode cL_depthOf 0 = .ok (.aload_n 0, 1) := by decide +kernel
theorem dL_depthOf_1 : decode cL_depthOf 1 = .ok (.iload_n 1, 1) := by decide +kernel
theorem dL_depthOf_2 : decode cL_depthOf 2 = .ok (.invokevirtual 73, 3) := by decide +kernel
theorem dL_depthOf_5 : decode cL_depthOf 5 = .ok (.ireturn, 1) := by decide +kernel
theorem dL_depthOf_6 : decode cL_depthOf 6 = .ok (.astore_n 2, 1) := by decide +kernel
theorem dL_depthOf_7 : decode cL_depthOf 7 = .ok (.iconst (-1), 1) := by decide +kernel
theorem dL_depthOf_8 : decode cL_depthOf 8 = .ok (.ireturn, 1) := by decide +kernel
set_option maxRecDepth 20000 in
theorem ggL_excite_X12_excite : GoodIn wsL_excite wsX12_excite := goodIn_ca (goodIn_ca (goodIn_ca (goodIn_ca (goodIn_ca (goodIn_ca (goodIn_r _ [8, 9, 10, 11, 12, 13, 14, 15, 16, 17, 18, 19, 20, 21, 22, 23, 24, 25, 26, 27, 28, 29, 30, 31, 32, 33, 34, 35, 36, 37, 38, 39, 40, 41, 42, 43, 44, 45, 46, 47, 48, 49, 50, 51, 52, 53, 54, 55, 56, 57, 58, 59, 60, 61, 62, 63, 64, 7, 65, 66, 67, 68, 69, 70, 71, 72, 73, 74, 75, 76, 77, 78, 79, 80, 81, 82, 83, 84, 85, 86, 87, 88, 89, 90, 91, 92, 93, 94, 95, 96, 97, 98, 99, 100, 101, 102, 103, 104, 105, 106, 107, 108, 109, 110, 111, 112, 113, 114, 115, 116, 117, 118, 119, 120, 121, 122, 123, 124, 125, 126, 127, 128, 129, 130] rfl (by decide +kernel)) (goodIn_sub (fun _ h => List.mem_cons_of_mem _ (List.mem_append_left _ (List.mem_append_left _ (List.mem_append_left _ (List.mem_append_left _ (List.mem_append_left _ (List.mem_append_right _ h))))))) (by decide +kernel))) (goodIn_sub (fun _ h => List.mem_cons_of_mem _ (List.mem_append_left _ (List.mem_append_left _ (List.mem_append_left _ (List.mem_append_left _ (List.mem_append_right _ h)))))) (by decide +kernel))) (goodIn_sub (fun _ h => List.mem_cons_of_mem _ (List.mem_append_left _ (List.mem_append_left _ (List.mem_append_left _ (List.mem_append_right _ h))))) (by decide +kernel))) (goodIn_sub (fun _ h => List.mem_cons_of_mem _ (List.mem_append_left _ (List.mem_append_left _ (List.mem_append_right _ h)))) (by decide +kernel))) (goodIn_sub (fun _ h => List.mem_cons_of_mem _ (List.mem_append_left _ (List.mem_append_right _ h))) (by decide +kernel))) (goodIn_sub (fun _ h => List.mem_cons_of_mem _ (List.mem_append_right _ h)) (by decide +kernel))
set_option maxRecDepth 20000 in
theorem gL_excite_X12_excite : GoodIn wsL_excite (wsV RL 76 RX12 yX12_excite wsX12_excite) := goodIn_app (goodIn_of _ (by decide +kernel)) ggL_excite_X12_excite
theorem dL_excite_0 : decode cL_excite 0 = .ok (.aload_n 0, 1) := by decide +kernel
theorem dL_excite_1 : decode cL_excite 1 = .ok (.iload_n 1, 1) := by decide +kernel
theorem dL_excite_2 : decode cL_excite 2 = .ok (.iload_n 2, 1) := by decide +kernel
theorem dL_excite_3 : decode cL_excite 3 = .ok (.invokevirtual 76, 3) := by decide +kernel
theorem dL_excite_6 : decode cL_excite 6 = .ok (.freturn, 1) := by decide +kernel
theorem dL_excite_7 : decode cL_excite 7 = .ok (.astore_n 3, 1) := by decide +kernel
theorem dL_excite_8 : decode cL_excite 8 = .ok (.ldc 80, 2) := by decide +kernel
theorem dL_excite_10 : decode cL_excite 10 = .ok (.freturn, 1) := by decide +kernel
theorem dL_excite_11 : decode cL_excite 11 = .ok (.astore_n 3, 1) := by decide +kernel
theorem dL_excite_12 : decode cL_excite 12 = .ok (.ldc 81, 2) := by decide +kernel
theorem dL_excite_14 : decode cL_excite 14 = .ok (.freturn, 1) := by decide +kernel
set_option maxRecDepth 20000 in
theorem ggL_pass_X12_pass : GoodIn wsL_pass wsX12_pass := goodIn_ca (goodIn_ca (goodIn_ca (goodIn_ca (goodIn_ca (goodIn_ca (goodIn_r _ [6, 7, 8, 9, 10, 11, 12, 13, 14, 15, 16, 17, 18, 19, 20, 21, 22, 23, 24, 25, 26, 27, 28, 29, 30, 31, 32, 33, 34, 35, 36, 37, 38, 39, 40, 41, 42, 43, 44, 45, 46, 47, 48, 49, 50, 51, 52, 53, 54, 55, 56, 57, 58, 59, 60, 61, 62, 63, 64, 65, 66, 67, 68, 69, 70, 71, 72, 5, 73, 74, 75, 76, 77, 78, 79, 80, 81, 82, 83, 84, 85, 86, 87, 88, 89, 90, 91, 92, 93, 94, 95, 96, 97, 98, 99, 100, 101, 102, 103, 104, 105, 106, 107, 108, 109, 110, 111, 112, 113, 114, 115, 116, 117, 118, 119, 120, 121, 122, 123, 124, 125, 126, 127, 128, 129, 130, 131, 132, 133, 134, 135, 136, 137, 138, 139, 140, 141, 142, 143, 144, 145, 146, 147, 148, 149, 150, 151, 152, 153, 154, 155, 156, 157, 158, 159] rfl (by decide +kernel)) (goodIn_sub (fun _ h => List.mem_cons_of_mem _ (List.mem_append_left _ (List.mem_append_left _ (List.mem_append_left _ (List.mem_append_left _ (List.mem_append_left _ (List.mem_append_right _ h))))))) (by decide +kernel))) (goodIn_sub (fun _ h => List.mem_cons_of_mem _ (List.mem_append_left _ (List.mem_append_left _ (List.mem_append_left _ (List.mem_append_left _ (List.mem_append_right _ h)))))) (by decide +kernel))) (goodIn_sub (fun _ h => List.mem_cons_of_mem _ (List.mem_append_left _ (List.mem_append_left _ (List.mem_append_left _ (List.mem_append_right _ h))))) (by decide +kernel))) (goodIn_sub (fun _ h => List.mem_cons_of_mem _ (List.mem_append_left _ (List.mem_append_left _ (List.mem_append_right _ h)))) (by decide +kernel))) (goodIn_sub (fun _ h => List.mem_cons_of_mem _ (List.mem_append_left _ (List.mem_append_right _ h))) (by decide +kernel))) (goodIn_sub (fun _ h => List.mem_cons_of_mem _ (List.mem_append_right _ h)) (by decide +kernel))
set_option maxRecDepth 20000 in
theorem gL_pass_X12_pass : GoodIn wsL_pass (wsV RL 82 RX12 yX12_pass wsX12_pass) := goodIn_app (goodIn_of _ (by decide +kernel)) ggL_pass_X12_pass
theorem dL_pass_0 : decode cL_pass 0 = .ok (.aload_n 0, 1) := by decide +kernel
theorem dL_pass_1 : decode cL_pass 1 = .ok (.iload_n 1, 1) := by decide +kernel
theorem dL_pass_2 : decode cL_pass 2 = .ok (.invokevirtual 82, 3) := by decide +kernel
theorem dL_pass_5 : decode cL_pass 5 = .ok (.ireturn, 1) := by decide +kernel
theorem dL_pass_6 : decode cL_pass 6 = .ok (.astore_n 2, 1) := by decide +kernel
theorem dL_pass_7 : decode cL_pass 7 = .ok (.iconst (-1), 1) := by decide +kernel
theorem dL_pass_8 : decode cL_pass 8 = .ok (.ireturn, 1) := by decide +kernel
set_option maxRecDepth 20000 in
theorem ggL_setLimit_X12_setLimit : GoodIn wsL_setLimit wsX12_setLimit := goodIn_ca (goodIn_ca (goodIn_ca (goodIn_ca (goodIn_ca (goodIn_ca (goodIn_r _ [6, 7, 8, 9, 10, 11, 12, 13, 14, 15, 16, 17, 18, 19, 20, 21, 22, 23, 24, 25, 26, 27, 28, 29, 30, 31, 32, 33, 34, 35, 36, 37, 38, 39, 40, 41, 42, 43, 44, 45, 46, 47, 48, 49, 50, 51, 52, 53, 54, 55, 56, 57, 5, 58, 59, 60, 61, 62, 63, 64, 65, 66, 67, 68, 69, 70, 71, 72, 73, 74, 75, 76, 77, 78, 79, 80, 81, 82, 83, 84, 85, 86, 87, 88, 89, 90, 91, 92, 93, 94, 95, 96, 97, 98, 99, 100, 101, 102, 103, 104, 105, 106, 107, 108, 109, 110, 111, 112, 113] rfl (by decide +kernel)) (goodIn_sub (fun _ h => List.mem_cons_of_mem _ (List.mem_append_left _ (List.mem_append_left _ (List.mem_append_left _ (List.mem_append_left _ (List.mem_append_left _ (List.mem_append_right _ h))))))) (by decide +kernel))) (goodIn_sub (fun _ h => List.mem_cons_of_mem _ (List.mem_append_left _ (List.mem_append_left _ (List.mem_append_left _ (List.mem_append_left _ (List.mem_append_right _ h)))))) (by decide +kernel))) (goodIn_sub (fun _ h => List.mem_cons_of_mem _ (List.mem_append_left _ (List.mem_append_left _ (List.mem_append_left _ (List.mem_append_right _ h))))) (by decide +kernel))) (goodIn_sub (fun _ h => List.mem_cons_of_mem _ (List.mem_append_left _ (List.mem_append_left _ (List.mem_append_right _ h)))) (by decide +kernel))) (goodIn_sub (fun _ h => List.mem_cons_of_mem _ (List.mem_append_left _ (List.mem_append_right _ h))) (by decide +kernel))) (goodIn_sub (fun _ h => List.mem_cons_of_mem _ (List.mem_append_right _ h)) (by decide +kernel))
set_option maxRecDepth 20000 in
theorem gL_setLimit_X12_setLimit : GoodIn wsL_setLimit (wsV RL 85 RX12 yX12_setLimit wsX12_setLimit) := goodIn_app (goodIn_of _ (by decide +kernel)) ggL_setLimit_X12_setLimit
theorem dL_setLimit_0 : decode cL_setLimit 0 = .ok (.aload_n 0, 1) := by decide +kernel
theorem dL_setLimit_1 : decode cL_setLimit 1 = .ok (.iload_n 1, 1) := by decide +kernel
theorem dL_setLimit_2 : decode cL_setLimit 2 = .ok (.invokevirtual 85, 3) := by decide +kernel
theorem dL_setLimit_5 : decode cL_setLimit 5 = .ok (.ireturn, 1) := by decide +kernel
theorem dL_setLimit_6 : decode cL_setLimit 6 = .ok (.astore_n 2, 1) := by decide +kernel
theorem dL_setLimit_7 : decode cL_setLimit 7 = .ok (.iconst (-1), 1) := by decide +kernel
theorem dL_setLimit_8 : decode cL_setLimit 8 = .ok (.ireturn, 1) := by decide +kernel
set_option maxRecDepth 20000 in
theorem ggL_fluxOf_X12_fluxOf : GoodIn wsL_fluxOf wsX12_fluxOf := goodIn_ca (goodIn_ca (goodIn_r _ [7, 8, 9, 10, 11, 12, 13, 6, 14, 15, 16, 17, 18, 19, 20, 21, 22, 23, 24, 25, 26, 27, 28, 29, 30, 31, 32, 33, 34, 35, 36, 37, 38, 39, 40, 41, 42, 43, 44, 45, 46, 47, 48, 49, 50, 51] rfl (by decide +kernel)) (goodIn_sub (fun _ h => List.mem_cons_of_mem _ (List.mem_append_left _ (List.mem_append_right _ h))) (by decide +kernel))) (goodIn_sub (fun _ h => List.mem_cons_of_mem _ (List.mem_append_right _ h)) (by decide +kernel))
set_option maxRecDepth 20000 in
theorem gL_fluxOf_X12_fluxOf : GoodIn wsL_fluxOf (wsV RL 88 RX12 yX12_fluxOf wsX12_fluxOf) := goodIn_app (goodIn_of _ (by decide +kernel)) ggL_fluxOf_X12_fluxOf
theorem dL_fluxOf_0 : decode cL_fluxOf 0 = .ok (.aload_n 0, 1) := by decide +kernel
theorem dL_fluxOf_1 : decode cL_fluxOf 1 = .ok (.iload_n 1, 1) := by decide +kernel
theorem dL_fluxOf_2 : decode cL_fluxOf 2 = .ok (.invokevirtual 88, 3) := by decide +kernel
theorem dL_fluxOf_5 : decode cL_fluxOf 5 = .ok (.freturn, 1) := by decide +kernel
theorem dL_fluxOf_6 : decode cL_fluxOf 6 = .ok (.astore_n 2, 1) := by decide +kernel
theorem dL_fluxOf_7 : decode cL_fluxOf 7 = .ok (.ldc 80, 2) := by decide +kernel
theorem dL_fluxOf_9 : decode cL_fluxOf 9 = .ok (.freturn, 1) := by decide +kernel
set_option maxRecDepth 20000 in
theorem ggL_shiftsUntilBelow_X12_shiftsUntilBelow : GoodIn wsL_shiftsUntilBelow wsX12_shiftsUntilBelow := goodIn_ca (goodIn_ca (goodIn_ca (goodIn_r _ [6, 7, 8, 9, 10, 11, 12, 13, 14, 15, 16, 17, 18, 19, 20, 21, 22, 23, 24, 25, 26, 27, 28, 29, 30, 31, 32, 33, 34, 35, 36, 37, 38, 39, 40, 41, 42, 43, 44, 45, 46, 47, 48, 49, 50, 51, 52, 53, 54, 55, 56, 57, 58, 59, 60, 61, 62, 63, 64, 65, 66, 67, 68, 69, 70, 71, 72, 73, 74, 75, 76, 77, 5, 78, 79, 80, 81, 82, 83, 84, 85, 86, 87, 88, 89, 90, 91, 92, 93, 94, 95, 96, 97, 98, 99, 100, 101, 102, 103, 104, 105, 106, 107, 108, 109, 110, 111, 112, 113, 114, 115, 116, 117, 118, 119, 120, 121, 122, 123, 124, 125, 126, 127, 128, 129, 130, 131, 132, 133, 134, 135, 136, 137, 138, 139, 140] rfl (by decide +kernel)) (goodIn_sub (fun _ h => List.mem_cons_of_mem _ (List.mem_append_left _ (List.mem_append_left _ (List.mem_append_right _ h)))) (by decide +kernel))) (goodIn_sub (fun _ h => List.mem_cons_of_mem _ (List.mem_append_left _ (List.mem_append_right _ h))) (by decide +kernel))) (goodIn_sub (fun _ h => List.mem_cons_of_mem _ (List.mem_append_right _ h)) (by decide +kernel))
set_option maxRecDepth 20000 in
theorem gL_shiftsUntilBelow_X12_shiftsUntilBelow : GoodIn wsL_shiftsUntilBelow (wsV RL 95 RX12 yX12_shiftsUntilBelow wsX12_shiftsUntilBelow) := goodIn_app (goodIn_of _ (by decide +kernel)) ggL_shiftsUntilBelow_X12_shiftsUntilBelow
theorem dL_shiftsUntilBelow_0 : decode cL_shiftsUntilBelow 0 = .ok (.aload_n 0, 1) := by decide +kernel
theorem dL_shiftsUntilBelow_1 : decode cL_shiftsUntilBelow 1 = .ok (.iload_n 1, 1) := by decide +kernel
theorem dL_shiftsUntilBelow_2 : decode cL_shiftsUntilBelow 2 = .ok (.invokevirtual 95, 3) := by decide +kernel
theorem dL_shiftsUntilBelow_5 : decode cL_shiftsUntilBelow 5 = .ok (.ireturn, 1) := by decide +kernel
theorem dL_shiftsUntilBelow_6 : decode cL_shiftsUntilBelow 6 = .ok (.astore_n 2, 1) := by decide +kernel
theorem dL_shiftsUntilBelow_7 : decode cL_shiftsUntilBelow 7 = .ok (.iconst (-1), 1) := by decide +kernel
theorem dL_shiftsUntilBelow_8 : decode cL_shiftsUntilBelow 8 = .ok (.ireturn, 1) := by decide +kernel
theorem dL_shiftsUntilBelow_9 : decode cL_shiftsUntilBelow 9 = .ok (.astore_n 2, 1) := by decide +kernel
theorem dL_shiftsUntilBelow_10 : decode cL_shiftsUntilBelow 10 = .ok (.bipush (-2), 2) := by decide +kernel
theorem dL_shiftsUntilBelow_12 : decode cL_shiftsUntilBelow 12 = .ok (.ireturn, 1) := by decide +kernel
set_option maxRecDepth 20000 in
theorem ggL_claimAtRank_X12_claimAtRank : GoodIn wsL_claimAtRank wsX12_claimAtRank := goodIn_ca (goodIn_ca (goodIn_r _ [6, 7, 8, 9, 10, 11, 12, 13, 14, 15, 16, 17, 18, 19, 20, 21, 22, 23, 24, 25, 26, 27, 28, 29, 30, 31, 32, 33, 34, 35, 36, 37, 38, 39, 40, 41, 42, 43, 44, 45, 46, 47, 48, 49, 50, 51, 52] rfl (by decide +kernel)) (goodIn_sub (fun _ h => List.mem_cons_of_mem _ (List.mem_append_left _ (List.mem_append_right _ h))) (by decide +kernel))) (goodIn_sub (fun _ h => List.mem_cons_of_mem _ (List.mem_append_right _ h)) (by decide +kernel))
set_option maxRecDepth 20000 in
theorem gL_claimAtRank_X12_claimAtRank : GoodIn wsL_claimAtRank (wsV RL 98 RX12 yX12_claimAtRank wsX12_claimAtRank) := goodIn_app (goodIn_of _ (by decide +kernel)) ggL_claimAtRank_X12_claimAtRank
theorem dL_claimAtRank_0 : decode cL_claimAtRank 0 = .ok (.aload_n 0, 1) := by decide +kernel
theorem dL_claimAtRank_1 : decode cL_claimAtRank 1 = .ok (.iload_n 1, 1) := by decide +kernel
theorem dL_claimAtRank_2 : decode cL_claimAtRank 2 = .ok (.invokevirtual 98, 3) := by decide +kernel
theorem dL_claimAtRank_5 : decode cL_claimAtRank 5 = .ok (.ireturn, 1) := by decide +kernel
theorem dL_claimAtRank_6 : decode cL_claimAtRank 6 = .ok (.astore_n 2, 1) := by decide +kernel
theorem dL_claimAtRank_7 : decode cL_claimAtRank 7 = .ok (.iconst (-1), 1) := by decide +kernel
theorem dL_claimAtRank_8 : decode cL_claimAtRank 8 = .ok (.ireturn, 1) := by decide +kernel
set_option maxRecDepth 20000 in
theorem ggL_logShift_X12_logShift : GoodIn wsL_logShift wsX12_logShift := goodIn_ca (goodIn_ca (goodIn_r _ [6, 7, 8, 9, 10, 11, 12, 5, 13, 14, 15, 16, 17, 18, 19, 20, 21, 22, 23, 24, 25, 26, 27, 28, 29, 30, 31, 32, 33, 34, 35, 36, 37, 38, 39, 40, 41, 42, 43, 44, 45, 46, 47, 48, 49, 50, 51, 52, 53] rfl (by decide +kernel)) (goodIn_sub (fun _ h => List.mem_cons_of_mem _ (List.mem_append_left _ (List.mem_append_right _ h))) (by decide +kernel))) (goodIn_sub (fun _ h => List.mem_cons_of_mem _ (List.mem_append_right _ h)) (by decide +kernel))
set_option maxRecDepth 20000 in
theorem gL_logShift_X12_logShift : GoodIn wsL_logShift (wsV RL 101 RX12 yX12_logShift wsX12_logShift) := goodIn_app (goodIn_of _ (by decide +kernel)) ggL_logShift_X12_logShift
theorem dL_logShift_0 : decode cL_logShift 0 = .ok (.aload_n 0, 1) := by decide +kernel
theorem dL_logShift_1 : decode cL_logShift 1 = .ok (.iload_n 1, 1) := by decide +kernel
theorem dL_logShift_2 : decode cL_logShift 2 = .ok (.invokevirtual 101, 3) := by decide +kernel
theorem dL_logShift_5 : decode cL_logShift 5 = .ok (.ireturn, 1) := by decide +kernel
theorem dL_logShift_6 : decode cL_logShift 6 = .ok (.astore_n 2, 1) := by decide +kernel
theorem dL_logShift_7 : decode cL_logShift 7 = .ok (.iconst (-1), 1) := by decide +kernel
theorem dL_logShift_8 : decode cL_logShift 8 = .ok (.ireturn, 1) := by decide +kernel
set_option maxRecDepth 20000 in
theorem ggL_logKind_X12_logKind : GoodIn wsL_logKind wsX12_logKind := goodIn_ca (goodIn_ca (goodIn_r _ [6, 7, 8, 9, 10, 11, 12, 5, 13, 14, 15, 16, 17, 18, 19, 20, 21, 22, 23, 24, 25, 26, 27, 28, 29, 30, 31, 32, 33, 34, 35, 36, 37, 38, 39, 40, 41, 42, 43, 44, 45, 46, 47, 48, 49, 50, 51, 52, 53] rfl (by decide +kernel)) (goodIn_sub (fun _ h => List.mem_cons_of_mem _ (List.mem_append_left _ (List.mem_append_right _ h))) (by decide +kernel))) (goodIn_sub (fun _ h => List.mem_cons_of_mem _ (List.mem_append_right _ h)) (by decide +kernel))
set_option maxRecDepth 20000 in
theorem gL_logKind_X12_logKind : GoodIn wsL_logKind (wsV RL 104 RX12 yX12_logKind wsX12_logKind) := goodIn_app (goodIn_of _ (by decide +kernel)) ggL_logKind_X12_logKind
theorem dL_logKind_0 : decode cL_logKind 0 = .ok (.aload_n 0, 1) := by decide +kernel
theorem dL_logKind_1 : decode cL_logKind 1 = .ok (.iload_n 1, 1) := by decide +kernel
theorem dL_logKind_2 : decode cL_logKind 2 = .ok (.invokevirtual 104, 3) := by decide +kernel
theorem dL_logKind_5 : decode cL_logKind 5 = .ok (.ireturn, 1) := by decide +kernel
theorem dL_logKind_6 : decode cL_logKind 6 = .ok (.astore_n 2, 1) := by decide +kernel
theorem dL_logKind_7 : decode cL_logKind 7 = .ok (.iconst (-1), 1) := by decide +kernel
theorem dL_logKind_8 : decode cL_logKind 8 = .ok (.ireturn, 1) := by decide +kernel
set_option maxRecDepth 20000 in
theorem ggL_append_X12_append : GoodIn wsL_append wsX12_append := goodIn_ca (goodIn_ca (goodIn_ca (goodIn_r _ [6, 7, 8, 9, 10, 11, 12, 13, 14, 15, 16, 17, 18, 19, 20, 21, 22, 23, 24, 25, 26, 27, 28, 29, 30, 31, 32, 33, 34, 35, 36] rfl (by decide +kernel)) (goodIn_sub (fun _ h => List.mem_cons_of_mem _ (List.mem_append_left _ (List.mem_append_left _ (List.mem_append_right _ h)))) (by decide +kernel))) (goodIn_sub (fun _ h => List.mem_cons_of_mem _ (List.mem_append_left _ (List.mem_append_right _ h))) (by decide +kernel))) (goodIn_sub (fun _ h => List.mem_cons_of_mem _ (List.mem_append_right _ h)) (by decide +kernel))
set_option maxRecDepth 20000 in
theorem gL_append_X12_append : GoodIn wsL_append (wsV RL 108 RX12 yX12_append wsX12_append) := goodIn_app (goodIn_of _ (by decide +kernel)) ggL_append_X12_append
theorem dL_append_0 : decode cL_append 0 = .ok (.aload_n 0, 1) := by decide +kernel
theorem dL_append_1 : decode cL_append 1 = .ok (.iload_n 1, 1) := by decide +kernel
theorem dL_append_2 : decode cL_append 2 = .ok (.invokevirtual 108, 3) := by decide +kernel
theorem dL_append_5 : decode cL_append 5 = .ok (.ireturn, 1) := by decide +kernel
theorem dL_append_6 : decode cL_append 6 = .ok (.astore_n 2, 1) := by decide +kernel
theorem dL_append_7 : decode cL_append 7 = .ok (.iconst (-1), 1) := by decide +kernel
theorem dL_append_8 : decode cL_append 8 = .ok (.ireturn, 1) := by decide +kernel
theorem dL_append_9 : decode cL_append 9 = .ok (.astore_n 2, 1) := by decide +kernel
theorem dL_append_10 : decode cL_append 10 = .ok (.bipush (-2), 2) := by decide +kernel
theorem dL_append_12 : decode cL_append 12 = .ok (.ireturn, 1) := by decide +kernel
set_option maxRecDepth 20000 in
theorem ggL_run_X12_run : GoodIn wsL_run wsX12_run := goodIn_ca (goodIn_ca (goodIn_ca (goodIn_ca (goodIn_ca (goodIn_ca (goodIn_r _ [6, 7, 8, 9, 10, 11, 12, 13, 14, 15, 16, 17, 18, 19, 20, 21, 22, 23, 24, 25, 26, 27, 28, 29, 30, 31, 32, 33, 34, 35, 36, 37, 38, 39, 40, 41, 42, 43, 44, 45, 46, 47, 48, 49, 50, 51, 52, 53, 54, 55, 56, 57, 58, 59, 60, 61, 62, 63, 64, 65, 66, 67, 68, 69, 70, 71, 72, 73, 74, 75, 76, 77, 78, 79, 80, 81, 82, 83, 84, 85, 86, 87, 88, 89, 90, 91, 92, 93, 94, 95, 96, 97, 98, 99, 100, 101, 102, 103, 104, 105, 106, 107, 108, 109, 110, 111, 112, 113, 114, 115, 116, 117, 118, 119, 120, 121, 122, 123, 124, 125, 126, 127, 128, 129, 130, 131, 132, 133, 134, 135, 136, 137, 138, 139, 140, 141, 142, 143, 144, 145, 146, 147, 148, 149, 150, 151, 152, 153, 154, 155, 156, 157, 158, 159, 160, 161, 162, 163, 164, 165, 166, 167, 168, 169, 170, 171, 172, 173, 174, 175, 176, 177, 178, 179, 180, 181, 182, 183, 184, 185, 186, 187, 188, 189, 190, 191, 192, 193, 194, 195, 196, 197, 198, 199, 200, 201, 202, 203, 204, 205, 206, 207, 208, 209, 210, 211, 212, 213, 214, 215, 216, 217, 218, 219, 220, 221, 222, 223, 224, 5, 225, 226, 227, 228, 229, 230, 231, 232, 233, 234, 235, 236, 237, 238, 239, 240, 241, 242, 243, 244, 245, 246, 247, 248, 249, 250, 251, 252, 253, 254, 255, 256, 257, 258, 259, 260, 261, 262, 263, 264, 265, 266, 267, 268, 269, 270, 271, 272, 273, 274, 275, 276, 277, 278, 279, 280, 281, 282, 283, 284, 285, 286, 287, 288, 289, 290, 291, 292, 293, 294, 295, 296, 297, 298, 299, 300, 301, 302, 303, 304, 305, 306, 307, 308, 309, 310, 311, 312, 313, 314, 315, 316, 317, 318, 319, 320, 321, 322, 323, 324, 325, 326, 327, 328, 329, 330, 331, 332, 333, 334, 335, 336, 337, 338, 339, 340, 341, 342, 343, 344, 345, 346, 347, 348, 349, 350, 351, 352, 353, 354, 355, 356, 357, 358, 359, 360, 361, 362, 363, 364, 365, 366, 367, 368, 369, 370, 371, 372, 373, 374, 375, 376, 377, 378, 379, 380, 381, 382, 383, 384, 385, 386, 387, 388, 389, 390, 391, 392, 393, 394, 395, 396, 397, 398, 399, 400] rfl (by decide +kernel)) (goodIn_sub (fun _ h => List.mem_cons_of_mem _ (List.mem_append_left _ (List.mem_append_left _ (List.mem_append_left _ (List.mem_append_left _ (List.mem_append_left _ (List.mem_append_right _ h))))))) (by decide +kernel))) (goodIn_sub (fun _ h => List.mem_cons_of_mem _ (List.mem_append_left _ (List.mem_append_left _ (List.mem_append_left _ (List.mem_append_left _ (List.mem_append_right _ h)))))) (by decide +kernel))) (goodIn_sub (fun _ h => List.mem_cons_of_mem _ (List.mem_append_left _ (List.mem_append_left _ (List.mem_append_left _ (List.mem_append_right _ h))))) (by decide +kernel))) (goodIn_sub (fun _ h => List.mem_cons_of_mem _ (List.mem_append_left _ (List.mem_append_left _ (List.mem_append_right _ h)))) (by decide +kernel))) (goodIn_sub (fun _ h => List.mem_cons_of_mem _ (List.mem_append_left _ (List.mem_append_right _ h))) (by decide +kernel))) (goodIn_sub (fun _ h => List.mem_cons_of_mem _ (List.mem_append_right _ h)) (by decide +kernel))
set_option maxRecDepth 20000 in
theorem gL_run_X12_run : GoodIn wsL_run (wsV RL 112 RX12 yX12_run wsX12_run) := goodIn_app (goodIn_of _ (by decide +kernel)) ggL_run_X12_run
theorem dL_run_0 : decode cL_run 0 = .ok (.aload_n 0, 1) := by decide +kernel
theorem dL_run_1 : decode cL_run 1 = .ok (.invokevirtual 112, 3) := by decide +kernel
theorem dL_run_4 : decode cL_run 4 = .ok (.ireturn, 1) := by decide +kernel
theorem dL_run_5 : decode cL_run 5 = .ok (.astore_n 1, 1) := by decide +kernel
theorem dL_run_6 : decode cL_run 6 = .ok (.iconst (-1), 1) := by decide +kernel
theorem dL_run_7 : decode cL_run 7 = .ok (.ireturn, 1) := by decide +kernel
theorem dL_run_8 : decode cL_run 8 = .ok (.astore_n 1, 1) := by decide +kernel
theorem dL_run_9 : decode cL_run 9 = .ok (.bipush (-2), 2) := by decide +kernel
theorem dL_run_11 : decode cL_run 11 = .ok (.ireturn, 1) := by decide +kernel
set_option maxRecDepth 20000 in
theorem ggL_errorPosition_X12_errorPosition : GoodIn wsL_errorPosition wsX12_errorPosition := goodIn_ca (goodIn_r _ [6, 7, 8, 9, 10, 11, 12, 13, 14, 15, 16, 17, 18, 19, 20, 21, 22, 23, 24, 25] rfl (by decide +kernel)) (goodIn_sub (fun _ h => List.mem_cons_of_mem _ (List.mem_append_right _ h)) (by decide +kernel))
set_option maxRecDepth 20000 in
theorem gL_errorPosition_X12_errorPosition : GoodIn wsL_errorPosition (wsV RL 116 RX12 yX12_errorPosition wsX12_errorPosition) := goodIn_app (goodIn_of _ (by decide +kernel)) ggL_errorPosition_X12_errorPosition
theorem dL_errorPosition_0 : decode cL_errorPosition 0 = .ok (.aload_n 0, 1) := by decide +kernel
theorem dL_errorPosition_1 : decode cL_errorPosition 1 = .ok (.invokevirtual 116, 3) := by decide +kernel
theorem dL_errorPosition_4 : decode cL_errorPosition 4 = .ok (.ireturn, 1) := by decide +kernel
theorem dL_errorPosition_5 : decode cL_errorPosition 5 = .ok (.astore_n 1, 1) := by decide +kernel
theorem dL_errorPosition_6 : decode cL_errorPosition 6 = .ok (.iconst (-1), 1) := by decide +kernel
theorem dL_errorPosition_7 : decode cL_errorPosition 7 = .ok (.ireturn, 1) := by decide +kernel
set_option maxRecDepth 20000 in
theorem ggL_failedCommand_X12_failedCommand : GoodIn wsL_failedCommand wsX12_failedCommand := goodIn_ca (goodIn_r _ [6, 7, 8, 9, 10, 11, 12, 13, 14, 15, 16, 17, 18, 19, 20, 21, 22, 23, 24, 25] rfl (by decide +kernel)) (goodIn_sub (fun _ h => List.mem_cons_of_mem _ (List.mem_append_right _ h)) (by decide +kernel))
set_option maxRecDepth 20000 in
theorem gL_failedCommand_X12_failedCommand : GoodIn wsL_failedCommand (wsV RL 119 RX12 yX12_failedCommand wsX12_failedCommand) := goodIn_app (goodIn_of _ (by decide +kernel)) ggL_failedCommand_X12_failedCommand
theorem dL_failedCommand_0 : decode cL_failedCommand 0 = .ok (.aload_n 0, 1) := by decide +kernel
theorem dL_failedCommand_1 : decode cL_failedCommand 1 = .ok (.invokevirtual 119, 3) := by decide +kernel
theorem dL_failedCommand_4 : decode cL_failedCommand 4 = .ok (.ireturn, 1) := by decide +kernel
theorem dL_failedCommand_5 : decode cL_failedCommand 5 = .ok (.astore_n 1, 1) := by decide +kernel
theorem dL_failedCommand_6 : decode cL_failedCommand 6 = .ok (.iconst (-1), 1) := by decide +kernel
theorem dL_failedCommand_7 : decode cL_failedCommand 7 = .ok (.ireturn, 1) := by decide +kernel
set_option maxRecDepth 20000 in
theorem ggL_describeClaim_X12_describeClaim : GoodIn wsL_describeClaim wsX12_describeClaim := goodIn_ca (goodIn_ca (goodIn_r _ [6, 7, 8, 9, 10, 11, 12, 13, 14, 5, 15, 16, 17, 18, 19, 20, 21, 22, 23, 24, 25, 26, 27, 28, 29, 30, 31, 32, 33, 34, 35, 36, 37, 38, 39, 40, 41, 42, 43, 44, 45, 46, 47, 48, 49, 50, 51, 52, 53, 54, 55, 56, 57, 58, 59, 60, 61, 62, 63, 64, 65, 66, 67, 68, 69, 70, 71, 72, 73, 74, 75, 76, 77, 78, 79, 80, 81, 82, 83, 84, 85, 86, 87, 88, 89, 90, 91, 92] rfl (by decide +kernel)) (goodIn_sub (fun _ h => List.mem_cons_of_mem _ (List.mem_append_left _ (List.mem_append_right _ h))) (by decide +kernel))) (goodIn_sub (fun _ h => List.mem_cons_of_mem _ (List.mem_append_right _ h)) (by decide +kernel))
set_option maxRecDepth 20000 in
theorem gL_describeClaim_X12_describeClaim : GoodIn wsL_describeClaim (wsV RL 122 RX12 yX12_describeClaim wsX12_describeClaim) := goodIn_app (goodIn_of _ (by decide +kernel)) ggL_describeClaim_X12_describeClaim
theorem dL_describeClaim_0 : decode cL_describeClaim 0 = .ok (.aload_n 0, 1) := by decide +kernel
theorem dL_describeClaim_1 : decode cL_describeClaim 1 = .ok (.iload_n 1, 1) := by decide +kernel
theorem dL_describeClaim_2 : decode cL_describeClaim 2 = .ok (.invokevirtual 122, 3) := by decide +kernel
theorem dL_describeClaim_5 : decode cL_describeClaim 5 = .ok (.ireturn, 1) := by decide +kernel
theorem dL_describeClaim_6 : decode cL_describeClaim 6 = .ok (.astore_n 2, 1) := by decide +kernel
theorem dL_describeClaim_7 : decode cL_describeClaim 7 = .ok (.iconst (-1), 1) := by decide +kernel
theorem dL_describeClaim_8 : decode cL_describeClaim 8 = .ok (.ireturn, 1) := by decide +kernel
set_option maxRecDepth 20000 in
theorem ggL_lineAt_X12_lineAt : GoodIn wsL_lineAt wsX12_lineAt := goodIn_ca (goodIn_ca (goodIn_r _ [6, 7, 8, 9, 10, 11, 12, 13, 14, 15, 16, 17, 18, 19, 20, 21, 22, 23, 24, 25, 26] rfl (by decide +kernel)) (goodIn_sub (fun _ h => List.mem_cons_of_mem _ (List.mem_append_left _ (List.mem_append_right _ h))) (by decide +kernel))) (goodIn_sub (fun _ h => List.mem_cons_of_mem _ (List.mem_append_right _ h)) (by decide +kernel))
set_option maxRecDepth 20000 in
theorem gL_lineAt_X12_lineAt : GoodIn wsL_lineAt (wsV RL 125 RX12 yX12_lineAt wsX12_lineAt) := goodIn_app (goodIn_of _ (by decide +kernel)) ggL_lineAt_X12_lineAt
theorem dL_lineAt_0 : decode cL_lineAt 0 = .ok (.aload_n 0, 1) := by decide +kernel
theorem dL_lineAt_1 : decode cL_lineAt 1 = .ok (.iload_n 1, 1) := by decide +kernel
theorem dL_lineAt_2 : decode cL_lineAt 2 = .ok (.invokevirtual 125, 3) := by decide +kernel
theorem dL_lineAt_5 : decode cL_lineAt 5 = .ok (.ireturn, 1) := by decide +kernel
theorem dL_lineAt_6 : decode cL_lineAt 6 = .ok (.astore_n 2, 1) := by decide +kernel
theorem dL_lineAt_7 : decode cL_lineAt 7 = .ok (.iconst (-1), 1) := by decide +kernel
theorem dL_lineAt_8 : decode cL_lineAt 8 = .ok (.ireturn, 1) := by decide +kernel
set_option maxRecDepth 20000 in
theorem ggL_meanWeight_X12_meanWeight : GoodIn wsL_meanWeight wsX12_meanWeight := goodIn_ca (goodIn_ca (goodIn_r _ [7, 8, 9, 10, 11, 12, 13, 14, 15, 16, 17, 18, 19, 6, 20, 21, 22, 23, 24, 25, 26, 27, 28, 29, 30, 31, 32, 33, 34, 35, 36, 37, 38, 39, 40, 41, 42, 43, 44, 45, 46, 47, 48, 49, 50, 51, 52, 53, 54, 55, 56] rfl (by decide +kernel)) (goodIn_sub (fun _ h => List.mem_cons_of_mem _ (List.mem_append_left _ (List.mem_append_right _ h))) (by decide +kernel))) (goodIn_sub (fun _ h => List.mem_cons_of_mem _ (List.mem_append_right _ h)) (by decide +kernel))
set_option maxRecDepth 20000 in
theorem gL_meanWeight_X12_meanWeight : GoodIn wsL_meanWeight (wsV RL 128 RX12 yX12_meanWeight wsX12_meanWeight) := goodIn_app (goodIn_of _ (by decide +kernel)) ggL_meanWeight_X12_meanWeight
theorem dL_meanWeight_0 : decode cL_meanWeight 0 = .ok (.aload_n 0, 1) := by decide +kernel
theorem dL_meanWeight_1 : decode cL_meanWeight 1 = .ok (.invokevirtual 128, 3) := by decide +kernel
theorem dL_meanWeight_4 : decode cL_meanWeight 4 = .ok (.dreturn, 1) := by decide +kernel
theorem dL_meanWeight_5 : decode cL_meanWeight 5 = .ok (.astore_n 1, 1) := by decide +kernel
theorem dL_meanWeight_6 : decode cL_meanWeight 6 = .ok (.ldc2_w 134, 3) := by decide +kernel
theorem dL_meanWeight_9 : decode cL_meanWeight 9 = .ok (.dreturn, 1) := by decide +kernel
set_option maxRecDepth 20000 in
theorem ggL_undo_X12_undo : GoodIn wsL_undo wsX12_undo := goodIn_ca (goodIn_r _ [6, 7, 8, 9, 10, 11, 12, 13, 14, 15, 16, 17, 18, 19, 20, 21, 22, 23, 24, 25, 26, 27, 28] rfl (by decide +kernel)) (goodIn_sub (fun _ h => List.mem_cons_of_mem _ (List.mem_append_right _ h)) (by decide +kernel))
set_option maxRecDepth 20000 in
theorem gL_undo_X12_undo : GoodIn wsL_undo (wsV RL 142 RX12 yX12_undo wsX12_undo) := goodIn_app (goodIn_of _ (by decide +kernel)) ggL_undo_X12_undo
theorem dL_undo_0 : decode cL_undo 0 = .ok (.aload_n 0, 1) := by decide +kernel
theorem dL_undo_1 : decode cL_undo 1 = .ok (.invokevirtual 142, 3) := by decide +kernel
theorem dL_undo_4 : decode cL_undo 4 = .ok (.ireturn, 1) := by decide +kernel
theorem dL_undo_5 : decode cL_undo 5 = .ok (.astore_n 1, 1) := by decide +kernel
theorem dL_undo_6 : decode cL_undo 6 = .ok (.iconst (-1), 1) := by decide +kernel
theorem dL_undo_7 : decode cL_undo 7 = .ok (.ireturn, 1) := by decide +kernel
set_option maxRecDepth 20000 in
theorem ggL_restore_X12_restore : GoodIn wsL_restore wsX12_restore := goodIn_ca (goodIn_ca (goodIn_r _ [6, 7, 8, 9, 10, 11, 12, 13, 14, 15, 16, 17, 18, 19, 20, 21, 22, 23, 24, 25, 26, 27, 28, 29, 30, 31, 32, 33, 34, 35, 36, 37, 38, 39, 40, 41, 42, 43, 44, 45, 46, 47, 48, 49, 50, 51, 52, 53, 54, 55, 56, 57, 58, 59, 60, 61, 62, 63, 64, 65, 66, 67, 68, 69, 70, 71, 72, 73, 74, 75, 76, 77, 78, 79, 80, 81, 82, 83, 84, 85, 86, 87, 88, 89, 90, 91] rfl (by decide +kernel)) (goodIn_sub (fun _ h => List.mem_cons_of_mem _ (List.mem_append_left _ (List.mem_append_right _ h))) (by decide +kernel))) (goodIn_sub (fun _ h => List.mem_cons_of_mem _ (List.mem_append_right _ h)) (by decide +kernel))
set_option maxRecDepth 20000 in
theorem gL_restore_X12_restore : GoodIn wsL_restore (wsV RL 145 RX12 yX12_restore wsX12_restore) := goodIn_app (goodIn_of _ (by decide +kernel)) ggL_restore_X12_restore
theorem dL_restore_0 : decode cL_restore 0 = .ok (.aload_n 0, 1) := by decide +kernel
theorem dL_restore_1 : decode cL_restore 1 = .ok (.invokevirtual 145, 3) := by decide +kernel
theorem dL_restore_4 : decode cL_restore 4 = .ok (.ireturn, 1) := by decide +kernel
theorem dL_restore_5 : decode cL_restore 5 = .ok (.astore_n 1, 1) := by decide +kernel
theorem dL_restore_6 : decode cL_restore 6 = .ok (.iconst (-1), 1) := by decide +kernel
theorem dL_restore_7 : decode cL_restore 7 = .ok (.ireturn, 1) := by decide +kernel
set_option maxRecDepth 20000 in
theorem ggL_said_J4_init_da8c8 : GoodIn wsL_said wsJ4_init_da8c8 := goodIn_r _ [6, 7, 8, 9, 10, 11, 12, 13, 14, 15, 16, 17, 18, 19, 20, 21, 22, 23, 24, 25, 198, 199, 200, 201] rfl (by decide +kernel)
set_option maxRecDepth 20000 in
theorem gL_said_J4_init_da8c8 : GoodIn wsL_said (wsJ4_init_da8c8) := ggL_said_J4_init_da8c8
set_option maxRecDepth 20000 in
theorem ggL_said_L_lineAt : GoodIn wsL_said wsL_lineAt := goodIn_ca (goodIn_ca (goodIn_r _ [29, 30, 31, 32, 33, 34, 35, 36, 37, 38, 39, 202, 203, 204, 205, 206, 207, 208, 209, 210, 211, 212, 213, 214, 215, 216, 217] rfl (by decide +kernel)) (goodIn_sub (fun _ h => List.mem_cons_of_mem _ (List.mem_append_left _ (List.mem_append_right _ h))) (by decide +kernel))) (goodIn_sub (fun _ h => List.mem_cons_of_mem _ (List.mem_append_right _ h)) (by decide +kernel))
set_option maxRecDepth 20000 in
theorem gL_said_L_lineAt : GoodIn wsL_said (va_wsS RL 151 yL_lineAt wsL_lineAt) := goodIn_app (goodIn_of _ (by decide +kernel)) ggL_said_L_lineAt
set_option maxRecDepth 20000 in
theorem ggL_said_J4_append_cf468 : GoodIn wsL_said wsJ4_append_cf468 := goodIn_r _ [43, 44, 45, 46, 47, 9, 48, 49, 16, 50, 51, 52, 53, 54, 17, 55, 56, 57, 58, 59, 60, 61, 62, 63, 64, 65, 66, 67, 68, 69, 70, 71, 72, 73, 74, 75, 76, 77, 78, 79, 80, 81, 82, 15, 83, 84, 85, 86, 87, 88, 89, 90, 91, 92, 93, 94, 14, 95, 96, 97, 98, 99, 100, 101, 102, 103, 18, 19, 20, 21, 22, 23, 24, 25, 104, 105, 106, 107, 108, 109, 110, 111, 112, 113, 114, 115, 116, 117, 118, 119, 120, 121, 122, 123, 124, 125, 126, 127, 128, 129, 130, 131, 132, 133, 134, 135, 136, 137, 138, 139, 140, 141, 142, 198, 199, 200, 201] rfl (by decide +kernel)
set_option maxRecDepth 20000 in
theorem gL_said_J4_append_cf468 : GoodIn wsL_said (wsV RL 156 RJ4 yJ4_append_cf468 wsJ4_append_cf468) := goodIn_app (goodIn_of _ (by decide +kernel)) ggL_said_J4_append_cf468
set_option maxRecDepth 20000 in
theorem ggL_said_J4_toString_0e30d : GoodIn wsL_said wsJ4_toString_0e30d := goodIn_r _ [146, 147, 148, 118, 149, 150, 151, 152, 153, 154, 155, 12, 13, 156, 157, 158, 159, 160, 161, 162, 163, 9, 164, 16, 165, 166, 167, 168, 169, 3, 170, 171, 46, 172, 173, 49, 174, 91, 92, 93, 94, 14, 17, 175, 176, 75, 177, 77, 78, 79, 80, 81, 82, 178, 179, 180, 15, 83, 84, 67, 85, 86, 87, 88, 89, 181, 182, 183, 184, 2, 185, 186, 20, 187, 188, 189, 190, 110, 111, 112, 113, 114, 115, 116, 117, 119, 120, 121, 122, 123, 124, 191, 192, 193, 128, 129, 130, 22, 23, 24, 25, 194, 195, 196, 197, 218, 219, 220, 221, 198, 199, 200, 201] rfl (by decide +kernel)
set_option maxRecDepth 20000 in
theorem gL_said_J4_toString_0e30d : GoodIn wsL_said (wsV RL 159 RJ4 yJ4_toString_0e30d wsJ4_toString_0e30d) := goodIn_app (goodIn_of _ (by decide +kernel)) ggL_said_J4_toString_0e30d
theorem dL_said_0 : decode cL_said 0 = .ok (.new 148, 3) := by decide +kernel
theorem dL_said_3 : decode cL_said 3 = .ok (.dup, 1) := by decide +kernel
theorem dL_said_4 : decode cL_said 4 = .ok (.invokespecial 150, 3) := by decide +kernel
theorem dL_said_7 : decode cL_said 7 = .ok (.astore_n 2, 1) := by decide +kernel
theorem dL_said_8 : decode cL_said 8 = .ok (.iconst 0, 1) := by decide +kernel
theorem dL_said_9 : decode cL_said 9 = .ok (.istore_n 3, 1) := by decide +kernel
theorem dL_said_10 : decode cL_said 10 = .ok (.iload_n 3, 1) := by decide +kernel
theorem dL_said_11 : decode cL_said 11 = .ok (.iload_n 1, 1) := by decide +kernel
theorem dL_said_12 : decode cL_said 12 = .ok (.if_icmp .ge 20, 3) := by decide +kernel
theorem dL_said_15 : decode cL_said 15 = .ok (.aload_n 2, 1) := by decide +kernel
theorem dL_said_16 : decode cL_said 16 = .ok (.aload_n 0, 1) := by decide +kernel
theorem dL_said_17 : decode cL_said 17 = .ok (.iload_n 3, 1) := by decide +kernel
theorem dL_said_18 : decode cL_said 18 = .ok (.invokestatic 151, 3) := by decide +kernel
theorem dL_said_21 : decode cL_said 21 = .ok (.i2c, 1) := by decide +kernel
theorem dL_said_22 : decode cL_said 22 = .ok (.invokevirtual 156, 3) := by decide +kernel
theorem dL_said_25 : decode cL_said 25 = .ok (.pop, 1) := by decide +kernel
theorem dL_said_26 : decode cL_said 26 = .ok (.iinc 3 1, 3) := by decide +kernel
theorem dL_said_29 : decode cL_said 29 = .ok (.goto (-19), 3) := by decide +kernel
theorem dL_said_32 : decode cL_said 32 = .ok (.aload_n 2, 1) := by decide +kernel
theorem dL_said_33 : decode cL_said 33 = .ok (.invokevirtual 159, 3) := by decide +kernel
theorem dL_said_36 : decode cL_said 36 = .ok (.areturn, 1) := by decide +kernel
set_option maxRecDepth 20000 in
theorem ggL_some_X13_next : GoodIn wsL_some wsX13_next := goodIn_ca (goodIn_r _ [9, 10, 11, 12] rfl (by decide +kernel)) (goodIn_sub (fun _ h => List.mem_cons_of_mem _ (List.mem_append_right _ h)) (by decide +kernel))
set_option maxRecDepth 20000 in
theorem gL_some_X13_next : GoodIn wsL_some (wsV RL 174 RX13 yX13_next wsX13_next) := goodIn_app (goodIn_of _ (by decide +kernel)) ggL_some_X13_next
theorem dL_some_0 : decode cL_some 0 = .ok (.aload_n 0, 1) := by decide +kernel
theorem dL_some_1 : decode cL_some 1 = .ok (.bipush 25, 2) := by decide +kernel
theorem dL_some_3 : decode cL_some 3 = .ok (.invokevirtual 174, 3) := by decide +kernel
theorem dL_some_6 : decode cL_some 6 = .ok (.ifCond .ne 7, 3) := by decide +kernel
theorem dL_some_9 : decode cL_some 9 = .ok (.iload_n 1, 1) := by decide +kernel
theorem dL_some_10 : decode cL_some 10 = .ok (.goto 12, 3) := by decide +kernel
theorem dL_some_13 : decode cL_some 13 = .ok (.aload_n 0, 1) := by decide +kernel
theorem dL_some_14 : decode cL_some 14 = .ok (.iconst 1, 1) := by decide +kernel
theorem dL_some_15 : decode cL_some 15 = .ok (.iload_n 1, 1) := by decide +kernel
theorem dL_some_16 : decode cL_some 16 = .ok (.invokestatic 179, 3) := by decide +kernel
theorem dL_some_19 : decode cL_some 19 = .ok (.invokevirtual 174, 3) := by decide +kernel
theorem dL_some_22 : decode cL_some 22 = .ok (.ireturn, 1) := by decide +kernel
set_option maxRecDepth 20000 in
theorem ggL_kind_X13_next : GoodIn wsL_kind wsX13_next := goodIn_ca (goodIn_r _ [5, 6, 7, 8] rfl (by decide +kernel)) (goodIn_sub (fun _ h => List.mem_cons_of_mem _ (List.mem_append_right _ h)) (by decide +kernel))
set_option maxRecDepth 20000 in
theorem gL_kind_X13_next : GoodIn wsL_kind (wsV RL 174 RX13 yX13_next wsX13_next) := goodIn_app (goodIn_of _ (by decide +kernel)) ggL_kind_X13_next
theorem dL_kind_0 : decode cL_kind 0 = .ok (.aload_n 0, 1) := by decide +kernel
theorem dL_kind_1 : decode cL_kind 1 = .ok (.bipush 30, 2) := by decide +kernel
theorem dL_kind_3 : decode cL_kind 3 = .ok (.invokevirtual 174, 3) := by decide +kernel
theorem dL_kind_6 : decode cL_kind 6 = .ok (.ifCond .ne 8, 3) := by decide +kernel
theorem dL_kind_9 : decode cL_kind 9 = .ok (.bipush 120, 2) := by decide +kernel
theorem dL_kind_11 : decode cL_kind 11 = .ok (.goto 35, 3) := by decide +kernel
theorem dL_kind_14 : decode cL_kind 14 = .ok (.iload_n 1, 1) := by decide +kernel
theorem dL_kind_15 : decode cL_kind 15 = .ok (.ifCond .eq 16, 3) := by decide +kernel
theorem dL_kind_18 : decode cL_kind 18 = .ok (.aload_n 0, 1) := by decide +kernel
theorem dL_kind_19 : decode cL_kind 19 = .ok (.iconst 2, 1) := by decide +kernel
theorem dL_kind_20 : decode cL_kind 20 = .ok (.invokevirtual 174, 3) := by decide +kernel
theorem dL_kind_23 : decode cL_kind 23 = .ok (.ifCond .ne 8, 3) := by decide +kernel
theorem dL_kind_26 : decode cL_kind 26 = .ok (.bipush 97, 2) := by decide +kernel
theorem dL_kind_28 : decode cL_kind 28 = .ok (.goto 18, 3) := by decide +kernel
theorem dL_kind_31 : decode cL_kind 31 = .ok (.aload_n 0, 1) := by decide +kernel
theorem dL_kind_32 : decode cL_kind 32 = .ok (.iconst 2, 1) := by decide +kernel
theorem dL_kind_33 : decode cL_kind 33 = .ok (.invokevirtual 174, 3) := by decide +kernel
theorem dL_kind_36 : decode cL_kind 36 = .ok (.ifCond .ne 8, 3) := by decide +kernel
theorem dL_kind_39 : decode cL_kind 39 = .ok (.bipush 113, 2) := by decide +kernel
theorem dL_kind_41 : decode cL_kind 41 = .ok (.goto 5, 3) := by decide +kernel
theorem dL_kind_44 : decode cL_kind 44 = .ok (.bipush 111, 2) := by decide +kernel
theorem dL_kind_46 : decode cL_kind 46 = .ok (.ireturn, 1) := by decide +kernel
set_option maxRecDepth 20000 in
theorem ggL_acts_X12_claimCount : GoodIn wsL_acts wsX12_claimCount := goodIn_r _ [5, 6, 7, 8, 264, 265, 266, 267, 268, 269, 270, 271, 272, 273, 274, 275, 276, 277, 278, 279, 280, 281, 282, 283, 284, 285, 286, 287, 288, 289, 290, 291, 292] rfl (by decide +kernel)
set_option maxRecDepth 20000 in
theorem gL_acts_X12_claimCount : GoodIn wsL_acts (wsV RL 184 RX12 yX12_claimCount wsX12_claimCount) := goodIn_app (goodIn_of _ (by decide +kernel)) ggL_acts_X12_claimCount
set_option maxRecDepth 20000 in
theorem ggL_acts_L_some : GoodIn wsL_acts wsL_some := goodIn_ca (goodIn_r _ [12, 13, 14, 15, 16, 17, 18, 19, 20, 21, 22, 23, 293] rfl (by decide +kernel)) (goodIn_sub (fun _ h => List.mem_cons_of_mem _ (List.mem_append_left _ (List.mem_append_left _ (List.mem_append_left _ (List.mem_append_left _ (List.mem_append_left _ (List.mem_append_left _ (List.mem_append_right _ h)))))))) (by decide +kernel))
set_option maxRecDepth 20000 in
theorem gL_acts_L_some : GoodIn wsL_acts (va_wsS RL 187 yL_some wsL_some) := goodIn_app (goodIn_of _ (by decide +kernel)) ggL_acts_L_some
set_option maxRecDepth 20000 in
theorem ggL_acts_X13_next : GoodIn wsL_acts wsX13_next := goodIn_ca (goodIn_r _ [21, 22, 23, 293] rfl (by decide +kernel)) (goodIn_sub (fun _ h => List.mem_cons_of_mem _ (List.mem_append_left _ (List.mem_append_left _ (List.mem_append_left _ (List.mem_append_left _ (List.mem_append_left _ (List.mem_append_left _ (List.mem_append_right _ h)))))))) (by decide +kernel))
set_option maxRecDepth 20000 in
theorem gL_acts_X13_next : GoodIn wsL_acts (wsV RL 174 RX13 yX13_next wsX13_next) := goodIn_app (goodIn_of _ (by decide +kernel)) ggL_acts_X13_next
set_option maxRecDepth 20000 in
theorem ggL_acts_L_addClaim : GoodIn wsL_acts wsL_addClaim := goodIn_ca (goodIn_ca (goodIn_ca (goodIn_ca (goodIn_ca (goodIn_ca (goodIn_r _ [26, 27, 28, 29, 30, 4, 31, 32, 6, 7, 33, 34, 35, 36, 37, 38, 39, 40, 41, 42, 43, 44, 45, 46, 47, 48, 49, 50, 51, 52, 53, 54, 55, 56, 57, 58, 59, 60, 61, 62, 63, 64, 65, 66, 67, 68, 69, 70, 71, 72, 73, 74, 75, 76, 77, 78, 79, 80, 81, 82, 83, 84, 85, 86, 87, 15, 88, 89, 90, 91, 92, 93, 94, 95, 96, 97, 98, 99, 100, 101, 264, 265, 266, 267, 268, 269, 270, 271, 272, 273, 274, 275, 276, 277, 278, 279, 280, 281, 282, 283, 284, 285, 286, 287, 288, 289, 290, 291, 292, 294, 295, 296, 297, 298, 299] rfl (by decide +kernel)) (goodIn_sub (fun _ h => List.mem_cons_of_mem _ (List.mem_append_left _ (List.mem_append_left _ (List.mem_append_left _ (List.mem_append_left _ (List.mem_append_left _ (List.mem_append_right _ h))))))) (by decide +kernel))) (goodIn_sub (fun _ h => List.mem_cons_of_mem _ (List.mem_append_left _ (List.mem_append_left _ (List.mem_append_left _ (List.mem_append_left _ (List.mem_append_right _ h)))))) (by decide +kernel))) (goodIn_sub (fun _ h => List.mem_cons_of_mem _ (List.mem_append_left _ (List.mem_append_left _ (List.mem_append_left _ (List.mem_append_right _ h))))) (by decide +kernel))) (goodIn_sub (fun _ h => List.mem_cons_of_mem _ (List.mem_append_left _ (List.mem_append_left _ (List.mem_append_right _ h)))) (by decide +kernel))) (goodIn_sub (fun _ h => List.mem_cons_of_mem _ (List.mem_append_left _ (List.mem_append_right _ h))) (by decide +kernel))) (goodIn_sub (fun _ h => List.mem_cons_of_mem _ (List.mem_append_right _ h)) (by decide +kernel))
set_option maxRecDepth 20000 in
theorem gL_acts_L_addClaim : GoodIn wsL_acts (va_wsS RL 191 yL_addClaim wsL_addClaim) := goodIn_app (goodIn_of _ (by decide +kernel)) ggL_acts_L_addClaim
set_option maxRecDepth 20000 in
theorem ggL_acts_L_setAttack : GoodIn wsL_acts wsL_setAttack := goodIn_ca (goodIn_ca (goodIn_ca (goodIn_ca (goodIn_ca (goodIn_ca (goodIn_r _ [104, 105, 106, 107, 108, 4, 109, 32, 6, 7, 33, 34, 35, 36, 37, 38, 39, 40, 41, 42, 43, 44, 45, 46, 47, 48, 49, 50, 51, 52, 53, 54, 55, 56, 57, 58, 59, 60, 61, 62, 63, 64, 65, 66, 67, 68, 69, 70, 71, 72, 73, 74, 110, 111, 112, 113, 114, 115, 116, 117, 118, 119, 120, 121, 79, 80, 81, 82, 83, 84, 85, 86, 87, 15, 88, 89, 90, 91, 92, 93, 94, 95, 96, 97, 98, 99, 100, 101, 264, 265, 266, 267, 268, 269, 270, 271, 272, 273, 274, 275, 276, 277, 278, 279, 280, 281, 282, 283, 284, 285, 286, 287, 288, 289, 290, 291, 292, 294, 295, 296, 297, 298, 299] rfl (by decide +kernel)) (goodIn_sub (fun _ h => List.mem_cons_of_mem _ (List.mem_append_left _ (List.mem_append_left _ (List.mem_append_left _ (List.mem_append_left _ (List.mem_append_left _ (List.mem_append_right _ h))))))) (by decide +kernel))) (goodIn_sub (fun _ h => List.mem_cons_of_mem _ (List.mem_append_left _ (List.mem_append_left _ (List.mem_append_left _ (List.mem_append_left _ (List.mem_append_right _ h)))))) (by decide +kernel))) (goodIn_sub (fun _ h => List.mem_cons_of_mem _ (List.mem_append_left _ (List.mem_append_left _ (List.mem_append_left _ (List.mem_append_right _ h))))) (by decide +kernel))) (goodIn_sub (fun _ h => List.mem_cons_of_mem _ (List.mem_append_left _ (List.mem_append_left _ (List.mem_append_right _ h)))) (by decide +kernel))) (goodIn_sub (fun _ h => List.mem_cons_of_mem _ (List.mem_append_left _ (List.mem_append_right _ h))) (by decide +kernel))) (goodIn_sub (fun _ h => List.mem_cons_of_mem _ (List.mem_append_right _ h)) (by decide +kernel))
set_option maxRecDepth 20000 in
theorem gL_acts_L_setAttack : GoodIn wsL_acts (va_wsS RL 193 yL_setAttack wsL_setAttack) := goodIn_app (goodIn_of _ (by decide +kernel)) ggL_acts_L_setAttack
set_option maxRecDepth 20000 in
theorem ggL_acts_L_setLayer : GoodIn wsL_acts wsL_setLayer := goodIn_ca (goodIn_ca (goodIn_ca (goodIn_ca (goodIn_ca (goodIn_ca (goodIn_r _ [124, 105, 125, 126, 127, 4, 128, 32, 6, 7, 33, 34, 35, 36, 37, 38, 39, 40, 41, 42, 43, 44, 45, 46, 47, 48, 49, 50, 51, 52, 53, 54, 55, 56, 57, 58, 59, 60, 61, 62, 63, 64, 65, 66, 67, 68, 69, 70, 71, 72, 73, 74, 129, 130, 131, 132, 114, 115, 116, 117, 133, 134, 79, 80, 81, 82, 83, 84, 85, 86, 87, 15, 88, 89, 90, 91, 92, 93, 94, 95, 96, 97, 98, 99, 100, 101, 264, 265, 266, 267, 268, 269, 270, 271, 272, 273, 274, 275, 276, 277, 278, 279, 280, 281, 282, 283, 284, 285, 286, 287, 288, 289, 290, 291, 292, 294, 295, 296, 297, 298, 299] rfl (by decide +kernel)) (goodIn_sub (fun _ h => List.mem_cons_of_mem _ (List.mem_append_left _ (List.mem_append_left _ (List.mem_append_left _ (List.mem_append_left _ (List.mem_append_left _ (List.mem_append_right _ h))))))) (by decide +kernel))) (goodIn_sub (fun _ h => List.mem_cons_of_mem _ (List.mem_append_left _ (List.mem_append_left _ (List.mem_append_left _ (List.mem_append_left _ (List.mem_append_right _ h)))))) (by decide +kernel))) (goodIn_sub (fun _ h => List.mem_cons_of_mem _ (List.mem_append_left _ (List.mem_append_left _ (List.mem_append_left _ (List.mem_append_right _ h))))) (by decide +kernel))) (goodIn_sub (fun _ h => List.mem_cons_of_mem _ (List.mem_append_left _ (List.mem_append_left _ (List.mem_append_right _ h)))) (by decide +kernel))) (goodIn_sub (fun _ h => List.mem_cons_of_mem _ (List.mem_append_left _ (List.mem_append_right _ h))) (by decide +kernel))) (goodIn_sub (fun _ h => List.mem_cons_of_mem _ (List.mem_append_right _ h)) (by decide +kernel))
set_option maxRecDepth 20000 in
theorem gL_acts_L_setLayer : GoodIn wsL_acts (va_wsS RL 196 yL_setLayer wsL_setLayer) := goodIn_app (goodIn_of _ (by decide +kernel)) ggL_acts_L_setLayer
set_option maxRecDepth 20000 in
theorem ggL_acts_L_kind : GoodIn wsL_acts wsL_kind := goodIn_ca (goodIn_r _ [137, 17, 18, 19, 20, 21, 22, 23, 293] rfl (by decide +kernel)) (goodIn_sub (fun _ h => List.mem_cons_of_mem _ (List.mem_append_left _ (List.mem_append_left _ (List.mem_append_left _ (List.mem_append_left _ (List.mem_append_left _ (List.mem_append_left _ (List.mem_append_right _ h)))))))) (by decide +kernel))
set_option maxRecDepth 20000 in
theorem gL_acts_L_kind : GoodIn wsL_acts (va_wsS RL 199 yL_kind wsL_kind) := goodIn_app (goodIn_of _ (by decide +kernel)) ggL_acts_L_kind
set_option maxRecDepth 20000 in
theorem ggL_acts_L_setRack : GoodIn wsL_acts wsL_setRack := goodIn_ca (goodIn_ca (goodIn_ca (goodIn_ca (goodIn_ca (goodIn_ca (goodIn_r _ [140, 105, 141, 142, 143, 4, 144, 32, 6, 145, 33, 34, 35, 36, 37, 38, 39, 40, 41, 42, 43, 44, 45, 46, 47, 48, 49, 50, 51, 52, 53, 54, 55, 56, 57, 58, 59, 60, 61, 62, 63, 64, 65, 66, 67, 68, 69, 70, 71, 72, 73, 74, 146, 147, 148, 149, 133, 134, 150, 151, 152, 153, 154, 155, 156, 79, 80, 81, 82, 83, 84, 85, 86, 87, 15, 88, 89, 90, 91, 92, 93, 94, 95, 96, 97, 98, 99, 100, 101, 264, 265, 266, 267, 268, 269, 270, 271, 272, 273, 274, 275, 276, 277, 278, 279, 280, 281, 282, 283, 284, 285, 286, 287, 288, 289, 290, 291, 292, 294, 295, 296, 297, 298, 299] rfl (by decide +kernel)) (goodIn_sub (fun _ h => List.mem_cons_of_mem _ (List.mem_append_left _ (List.mem_append_left _ (List.mem_append_left _ (List.mem_append_left _ (List.mem_append_left _ (List.mem_append_right _ h))))))) (by decide +kernel))) (goodIn_sub (fun _ h => List.mem_cons_of_mem _ (List.mem_append_left _ (List.mem_append_left _ (List.mem_append_left _ (List.mem_append_left _ (List.mem_append_right _ h)))))) (by decide +kernel))) (goodIn_sub (fun _ h => List.mem_cons_of_mem _ (List.mem_append_left _ (List.mem_append_left _ (List.mem_append_left _ (List.mem_append_right _ h))))) (by decide +kernel))) (goodIn_sub (fun _ h => List.mem_cons_of_mem _ (List.mem_append_left _ (List.mem_append_left _ (List.mem_append_right _ h)))) (by decide +kernel))) (goodIn_sub (fun _ h => List.mem_cons_of_mem _ (List.mem_append_left _ (List.mem_append_right _ h))) (by decide +kernel))) (goodIn_sub (fun _ h => List.mem_cons_of_mem _ (List.mem_append_right _ h)) (by decide +kernel))
set_option maxRecDepth 20000 in
theorem gL_acts_L_setRack : GoodIn wsL_acts (va_wsS RL 203 yL_setRack wsL_setRack) := goodIn_app (goodIn_of _ (by decide +kernel)) ggL_acts_L_setRack
set_option maxRecDepth 20000 in
theorem ggL_acts_L_insert : GoodIn wsL_acts wsL_insert := goodIn_ca (goodIn_ca (goodIn_ca (goodIn_ca (goodIn_ca (goodIn_ca (goodIn_r _ [159, 105, 160, 161, 162, 4, 163, 32, 6, 33, 34, 35, 36, 37, 38, 39, 40, 41, 42, 43, 44, 45, 46, 47, 48, 49, 50, 51, 52, 53, 54, 55, 56, 57, 58, 59, 60, 61, 62, 63, 64, 65, 66, 67, 68, 69, 70, 71, 72, 73, 74, 164, 165, 166, 167, 168, 169, 170, 171, 133, 134, 172, 173, 174, 175, 176, 177, 150, 151, 152, 153, 154, 155, 156, 178, 179, 180, 181, 182, 87, 15, 88, 79, 80, 81, 82, 83, 84, 85, 86, 89, 90, 91, 92, 93, 94, 95, 96, 97, 98, 99, 100, 101, 264, 265, 266, 267, 268, 269, 270, 271, 272, 273, 274, 275, 276, 277, 278, 279, 280, 281, 282, 283, 284, 285, 286, 287, 288, 289, 290, 291, 292, 294, 295, 296, 297, 298, 299] rfl (by decide +kernel)) (goodIn_sub (fun _ h => List.mem_cons_of_mem _ (List.mem_append_left _ (List.mem_append_left _ (List.mem_append_left _ (List.mem_append_left _ (List.mem_append_left _ (List.mem_append_right _ h))))))) (by decide +kernel))) (goodIn_sub (fun _ h => List.mem_cons_of_mem _ (List.mem_append_left _ (List.mem_append_left _ (List.mem_append_left _ (List.mem_append_left _ (List.mem_append_right _ h)))))) (by decide +kernel))) (goodIn_sub (fun _ h => List.mem_cons_of_mem _ (List.mem_append_left _ (List.mem_append_left _ (List.mem_append_left _ (List.mem_append_right _ h))))) (by decide +kernel))) (goodIn_sub (fun _ h => List.mem_cons_of_mem _ (List.mem_append_left _ (List.mem_append_left _ (List.mem_append_right _ h)))) (by decide +kernel))) (goodIn_sub (fun _ h => List.mem_cons_of_mem _ (List.mem_append_left _ (List.mem_append_right _ h))) (by decide +kernel))) (goodIn_sub (fun _ h => List.mem_cons_of_mem _ (List.mem_append_right _ h)) (by decide +kernel))
set_option maxRecDepth 20000 in
theorem gL_acts_L_insert : GoodIn wsL_acts (va_wsS RL 206 yL_insert wsL_insert) := goodIn_app (goodIn_of _ (by decide +kernel)) ggL_acts_L_insert
set_option maxRecDepth 20000 in
theorem ggL_acts_L_withdraw : GoodIn wsL_acts wsL_withdraw := goodIn_ca (goodIn_ca (goodIn_ca (goodIn_ca (goodIn_ca (goodIn_ca (goodIn_r _ [185, 105, 186, 187, 188, 4, 189, 32, 6, 33, 34, 35, 36, 37, 38, 39, 40, 41, 42, 43, 44, 45, 46, 47, 48, 49, 50, 51, 52, 53, 54, 55, 56, 57, 58, 59, 60, 61, 62, 63, 64, 65, 66, 67, 68, 69, 70, 71, 72, 73, 74, 190, 191, 192, 193, 194, 195, 196, 197, 133, 134, 172, 173, 178, 179, 180, 181, 182, 87, 15, 88, 79, 80, 81, 82, 83, 84, 85, 86, 89, 90, 91, 92, 93, 94, 95, 96, 97, 98, 99, 100, 101, 264, 265, 266, 267, 268, 269, 270, 271, 272, 273, 274, 275, 276, 277, 278, 279, 280, 281, 282, 283, 284, 285, 286, 287, 288, 289, 290, 291, 292, 294, 295, 296, 297, 298, 299] rfl (by decide +kernel)) (goodIn_sub (fun _ h => List.mem_cons_of_mem _ (List.mem_append_left _ (List.mem_append_left _ (List.mem_append_left _ (List.mem_append_left _ (List.mem_append_left _ (List.mem_append_right _ h))))))) (by decide +kernel))) (goodIn_sub (fun _ h => List.mem_cons_of_mem _ (List.mem_append_left _ (List.mem_append_left _ (List.mem_append_left _ (List.mem_append_left _ (List.mem_append_right _ h)))))) (by decide +kernel))) (goodIn_sub (fun _ h => List.mem_cons_of_mem _ (List.mem_append_left _ (List.mem_append_left _ (List.mem_append_left _ (List.mem_append_right _ h))))) (by decide +kernel))) (goodIn_sub (fun _ h => List.mem_cons_of_mem _ (List.mem_append_left _ (List.mem_append_left _ (List.mem_append_right _ h)))) (by decide +kernel))) (goodIn_sub (fun _ h => List.mem_cons_of_mem _ (List.mem_append_left _ (List.mem_append_right _ h))) (by decide +kernel))) (goodIn_sub (fun _ h => List.mem_cons_of_mem _ (List.mem_append_right _ h)) (by decide +kernel))
set_option maxRecDepth 20000 in
theorem gL_acts_L_withdraw : GoodIn wsL_acts (va_wsS RL 209 yL_withdraw wsL_withdraw) := goodIn_app (goodIn_of _ (by decide +kernel)) ggL_acts_L_withdraw
set_option maxRecDepth 20000 in
theorem ggL_acts_L_excite : GoodIn wsL_acts wsL_excite := goodIn_ca (goodIn_ca (goodIn_ca (goodIn_ca (goodIn_ca (goodIn_ca (goodIn_r _ [200, 105, 201, 202, 203, 204, 205, 4, 206, 32, 6, 7, 207, 33, 34, 35, 36, 37, 38, 39, 40, 41, 42, 43, 44, 45, 46, 47, 48, 49, 50, 51, 52, 53, 54, 55, 56, 57, 58, 59, 60, 61, 62, 63, 64, 65, 66, 67, 68, 69, 70, 71, 72, 73, 74, 208, 209, 210, 211, 212, 213, 115, 116, 117, 214, 215, 216, 178, 179, 180, 181, 182, 87, 15, 88, 79, 80, 81, 82, 83, 84, 85, 86, 89, 90, 91, 92, 93, 94, 95, 96, 97, 98, 99, 100, 101, 264, 265, 266, 267, 268, 269, 270, 271, 272, 273, 274, 275, 276, 277, 278, 279, 280, 281, 282, 283, 284, 285, 286, 287, 288, 289, 290, 291, 292, 294, 295, 296, 297, 298, 299] rfl (by decide +kernel)) (goodIn_sub (fun _ h => List.mem_cons_of_mem _ (List.mem_append_left _ (List.mem_append_left _ (List.mem_append_left _ (List.mem_append_left _ (List.mem_append_left _ (List.mem_append_right _ h))))))) (by decide +kernel))) (goodIn_sub (fun _ h => List.mem_cons_of_mem _ (List.mem_append_left _ (List.mem_append_left _ (List.mem_append_left _ (List.mem_append_left _ (List.mem_append_right _ h)))))) (by decide +kernel))) (goodIn_sub (fun _ h => List.mem_cons_of_mem _ (List.mem_append_left _ (List.mem_append_left _ (List.mem_append_left _ (List.mem_append_right _ h))))) (by decide +kernel))) (goodIn_sub (fun _ h => List.mem_cons_of_mem _ (List.mem_append_left _ (List.mem_append_left _ (List.mem_append_right _ h)))) (by decide +kernel))) (goodIn_sub (fun _ h => List.mem_cons_of_mem _ (List.mem_append_left _ (List.mem_append_right _ h))) (by decide +kernel))) (goodIn_sub (fun _ h => List.mem_cons_of_mem _ (List.mem_append_right _ h)) (by decide +kernel))
set_option maxRecDepth 20000 in
theorem gL_acts_L_excite : GoodIn wsL_acts (va_wsS RL 211 yL_excite wsL_excite) := goodIn_app (goodIn_of _ (by decide +kernel)) ggL_acts_L_excite
set_option maxRecDepth 20000 in
theorem ggL_acts_L_setLimit : GoodIn wsL_acts wsL_setLimit := goodIn_ca (goodIn_ca (goodIn_ca (goodIn_ca (goodIn_ca (goodIn_ca (goodIn_r _ [219, 27, 220, 221, 222, 4, 223, 32, 6, 33, 34, 35, 36, 37, 38, 39, 40, 41, 42, 43, 44, 45, 46, 47, 48, 49, 50, 51, 52, 53, 54, 55, 56, 57, 58, 59, 60, 61, 62, 63, 64, 65, 66, 67, 68, 69, 70, 71, 72, 73, 74, 224, 225, 226, 227, 79, 80, 81, 82, 83, 84, 85, 86, 87, 15, 88, 89, 90, 91, 92, 93, 94, 95, 96, 97, 98, 99, 100, 101, 264, 265, 266, 267, 268, 269, 270, 271, 272, 273, 274, 275, 276, 277, 278, 279, 280, 281, 282, 283, 284, 285, 286, 287, 288, 289, 290, 291, 292, 294, 295, 296, 297, 298, 299] rfl (by decide +kernel)) (goodIn_sub (fun _ h => List.mem_cons_of_mem _ (List.mem_append_left _ (List.mem_append_left _ (List.mem_append_left _ (List.mem_append_left _ (List.mem_append_left _ (List.mem_append_right _ h))))))) (by decide +kernel))) (goodIn_sub (fun _ h => List.mem_cons_of_mem _ (List.mem_append_left _ (List.mem_append_left _ (List.mem_append_left _ (List.mem_append_left _ (List.mem_append_right _ h)))))) (by decide +kernel))) (goodIn_sub (fun _ h => List.mem_cons_of_mem _ (List.mem_append_left _ (List.mem_append_left _ (List.mem_append_left _ (List.mem_append_right _ h))))) (by decide +kernel))) (goodIn_sub (fun _ h => List.mem_cons_of_mem _ (List.mem_append_left _ (List.mem_append_left _ (List.mem_append_right _ h)))) (by decide +kernel))) (goodIn_sub (fun _ h => List.mem_cons_of_mem _ (List.mem_append_left _ (List.mem_append_right _ h))) (by decide +kernel))) (goodIn_sub (fun _ h => List.mem_cons_of_mem _ (List.mem_append_right _ h)) (by decide +kernel))
set_option maxRecDepth 20000 in
theorem gL_acts_L_setLimit : GoodIn wsL_acts (va_wsS RL 214 yL_setLimit wsL_setLimit) := goodIn_app (goodIn_of _ (by decide +kernel)) ggL_acts_L_setLimit
set_option maxRecDepth 20000 in
theorem ggL_acts_L_pass : GoodIn wsL_acts wsL_pass := goodIn_ca (goodIn_ca (goodIn_ca (goodIn_ca (goodIn_ca (goodIn_ca (goodIn_r _ [230, 27, 231, 232, 233, 4, 234, 32, 6, 33, 34, 35, 36, 37, 38, 39, 40, 41, 42, 43, 44, 45, 46, 47, 48, 49, 50, 51, 52, 53, 54, 55, 56, 57, 58, 59, 60, 61, 62, 63, 64, 65, 66, 67, 68, 69, 70, 71, 72, 73, 74, 235, 236, 237, 238, 239, 240, 241, 242, 243, 244, 212, 245, 246, 247, 248, 249, 250, 251, 252, 253, 254, 118, 119, 255, 151, 152, 153, 154, 155, 156, 214, 215, 216, 256, 257, 258, 259, 260, 261, 262, 263, 174, 175, 176, 177, 178, 179, 180, 181, 182, 87, 15, 88, 79, 80, 81, 82, 83, 84, 85, 86, 89, 90, 91, 92, 93, 94, 95, 96, 97, 98, 99, 100, 101, 264, 265, 266, 267, 268, 269, 270, 271, 272, 273, 274, 275, 276, 277, 278, 279, 280, 281, 282, 283, 284, 285, 286, 287, 288, 289, 290, 291, 292, 294, 295, 296, 297, 298, 299] rfl (by decide +kernel)) (goodIn_sub (fun _ h => List.mem_cons_of_mem _ (List.mem_append_left _ (List.mem_append_left _ (List.mem_append_left _ (List.mem_append_left _ (List.mem_append_left _ (List.mem_append_right _ h))))))) (by decide +kernel))) (goodIn_sub (fun _ h => List.mem_cons_of_mem _ (List.mem_append_left _ (List.mem_append_left _ (List.mem_append_left _ (List.mem_append_left _ (List.mem_append_right _ h)))))) (by decide +kernel))) (goodIn_sub (fun _ h => List.mem_cons_of_mem _ (List.mem_append_left _ (List.mem_append_left _ (List.mem_append_left _ (List.mem_append_right _ h))))) (by decide +kernel))) (goodIn_sub (fun _ h => List.mem_cons_of_mem _ (List.mem_append_left _ (List.mem_append_left _ (List.mem_append_right _ h)))) (by decide +kernel))) (goodIn_sub (fun _ h => List.mem_cons_of_mem _ (List.mem_append_left _ (List.mem_append_right _ h))) (by decide +kernel))) (goodIn_sub (fun _ h => List.mem_cons_of_mem _ (List.mem_append_right _ h)) (by decide +kernel))
set_option maxRecDepth 20000 in
theorem gL_acts_L_pass : GoodIn wsL_acts (va_wsS RL 216 yL_pass wsL_pass) := goodIn_app (goodIn_of _ (by decide +kernel)) ggL_acts_L_pass
theorem dL_acts_0 : decode cL_acts 0 = .ok (.aload_n 2, 1) := by decide +kernel
theorem dL_acts_1 : decode cL_acts 1 = .ok (.aload_n 0, 1) := by decide +kernel
theorem dL_acts_2 : decode cL_acts 2 = .ok (.invokevirtual 184, 3) := by decide +kernel
theorem dL_acts_5 : decode cL_acts 5 = .ok (.invokestatic 187, 3) := by decide +kernel
theorem dL_acts_8 : decode cL_acts 8 = .ok (.istore_n 3, 1) := by decide +kernel
theorem dL_acts_9 : decode cL_acts 9 = .ok (.aload_n 2, 1) := by decide +kernel
theorem dL_acts_10 : decode cL_acts 10 = .ok (.aload_n 0, 1) := by decide +kernel
theorem dL_acts_11 : decode cL_acts 11 = .ok (.invokevirtual 184, 3) := by decide +kernel
theorem dL_acts_14 : decode cL_acts 14 = .ok (.invokestatic 187, 3) := by decide +kernel
theorem dL_acts_17 : decode cL_acts 17 = .ok (.istore 4, 2) := by decide +kernel
theorem dL_acts_19 : decode cL_acts 19 = .ok (.iload_n 1, 1) := by decide +kernel
theorem dL_acts_20 : decode cL_acts 20 = .ok (.bipush 42, 2) := by decide +kernel
theorem dL_acts_22 : decode cL_acts 22 = .ok (.irem, 1) := by decide +kernel
theorem dL_acts_23 : decode cL_acts 23 = .ok (.tableswitch 415 0 31 #[141, 141, 181, 181, 181, 181, 181, 181, 181, 181, 181, 202, 202, 226, 226, 254, 254, 254, 254, 300, 300, 300, 328, 328, 328, 328, 328, 328, 328, 372, 372, 372], 141) := by decide +kernel
theorem dL_acts_164 : decode cL_acts 164 = .ok (.aload_n 0, 1) := by decide +kernel
theorem dL_acts_165 : decode cL_acts 165 = .ok (.aload_n 2, 1) := by decide +kernel
theorem dL_acts_166 : decode cL_acts 166 = .ok (.bipush 30, 2) := by decide +kernel
theorem dL_acts_168 : decode cL_acts 168 = .ok (.invokevirtual 174, 3) := by decide +kernel
theorem dL_acts_171 : decode cL_acts 171 = .ok (.ifCond .ne 8, 3) := by decide +kernel
theorem dL_acts_174 : decode cL_acts 174 = .ok (.bipush 100, 2) := by decide +kernel
theorem dL_acts_176 : decode cL_acts 176 = .ok (.goto 24, 3) := by decide +kernel
theorem dL_acts_179 : decode cL_acts 179 = .ok (.iconst 1, 1) := by decide +kernel
theorem dL_acts_180 : decode cL_acts 180 = .ok (.aload_n 2, 1) := by decide +kernel
theorem dL_acts_181 : decode cL_acts 181 = .ok (.aload_n 2, 1) := by decide +kernel
theorem dL_acts_182 : decode cL_acts 182 = .ok (.iconst 2, 1) := by decide +kernel
theorem dL_acts_183 : decode cL_acts 183 = .ok (.invokevirtual 174, 3) := by decide +kernel
theorem dL_acts_186 : decode cL_acts 186 = .ok (.ifCond .ne 8, 3) := by decide +kernel
theorem dL_acts_189 : decode cL_acts 189 = .ok (.bipush 99, 2) := by decide +kernel
theorem dL_acts_191 : decode cL_acts 191 = .ok (.goto 5, 3) := by decide +kernel
theorem dL_acts_194 : decode cL_acts 194 = .ok (.bipush 6, 2) := by decide +kernel
theorem dL_acts_196 : decode cL_acts 196 = .ok (.invokevirtual 174, 3) := by decide +kernel
theorem dL_acts_199 : decode cL_acts 199 = .ok (.iadd, 1) := by decide +kernel
theorem dL_acts_200 : decode cL_acts 200 = .ok (.invokestatic 191, 3) := by decide +kernel
theorem dL_acts_203 : decode cL_acts 203 = .ok (.ireturn, 1) := by decide +kernel
theorem dL_acts_204 : decode cL_acts 204 = .ok (.aload_n 0, 1) := by decide +kernel
theorem dL_acts_205 : decode cL_acts 205 = .ok (.iload_n 3, 1) := by decide +kernel
theorem dL_acts_206 : decode cL_acts 206 = .ok (.iload 4, 2) := by decide +kernel
theorem dL_acts_208 : decode cL_acts 208 = .ok (.aload_n 2, 1) := by decide +kernel
theorem dL_acts_209 : decode cL_acts 209 = .ok (.iconst 4, 1) := by decide +kernel
theorem dL_acts_210 : decode cL_acts 210 = .ok (.invokevirtual 174, 3) := by decide +kernel
theorem dL_acts_213 : decode cL_acts 213 = .ok (.ifCond .le 7, 3) := by decide +kernel
theorem dL_acts_216 : decode cL_acts 216 = .ok (.iconst 1, 1) := by decide +kernel
theorem dL_acts_217 : decode cL_acts 217 = .ok (.goto 4, 3) := by decide +kernel
theorem dL_acts_220 : decode cL_acts 220 = .ok (.iconst 0, 1) := by decide +kernel
theorem dL_acts_221 : decode cL_acts 221 = .ok (.invokestatic 193, 3) := by decide +kernel
theorem dL_acts_224 : decode cL_acts 224 = .ok (.ireturn, 1) := by decide +kernel
theorem dL_acts_225 : decode cL_acts 225 = .ok (.aload_n 0, 1) := by decide +kernel
theorem dL_acts_226 : decode cL_acts 226 = .ok (.iload_n 3, 1) := by decide +kernel
theorem dL_acts_227 : decode cL_acts 227 = .ok (.aload_n 2, 1) := by decide +kernel
theorem dL_acts_228 : decode cL_acts 228 = .ok (.bipush 30, 2) := by decide +kernel
theorem dL_acts_230 : decode cL_acts 230 = .ok (.invokevirtual 174, 3) := by decide +kernel
theorem dL_acts_233 : decode cL_acts 233 = .ok (.ifCond .ne 7, 3) := by decide +kernel
theorem dL_acts_236 : decode cL_acts 236 = .ok (.iconst 4, 1) := by decide +kernel
theorem dL_acts_237 : decode cL_acts 237 = .ok (.goto 8, 3) := by decide +kernel
theorem dL_acts_240 : decode cL_acts 240 = .ok (.aload_n 2, 1) := by decide +kernel
theorem dL_acts_241 : decode cL_acts 241 = .ok (.iconst 4, 1) := by decide +kernel
theorem dL_acts_242 : decode cL_acts 242 = .ok (.invokevirtual 174, 3) := by decide +kernel
theorem dL_acts_245 : decode cL_acts 245 = .ok (.invokestatic 196, 3) := by decide +kernel
theorem dL_acts_248 : decode cL_acts 248 = .ok (.ireturn, 1) := by decide +kernel
theorem dL_acts_249 : decode cL_acts 249 = .ok (.aload_n 0, 1) := by decide +kernel
theorem dL_acts_250 : decode cL_acts 250 = .ok (.aload_n 2, 1) := by decide +kernel
theorem dL_acts_251 : decode cL_acts 251 = .ok (.bipush 30, 2) := by decide +kernel
theorem dL_acts_253 : decode cL_acts 253 = .ok (.invokevirtual 174, 3) := by decide +kernel
theorem dL_acts_256 : decode cL_acts 256 = .ok (.ifCond .ne 7, 3) := by decide +kernel
theorem dL_acts_259 : decode cL_acts 259 = .ok (.iconst 4, 1) := by decide +kernel
theorem dL_acts_260 : decode cL_acts 260 = .ok (.goto 8, 3) := by decide +kernel
theorem dL_acts_263 : decode cL_acts 263 = .ok (.aload_n 2, 1) := by decide +kernel
theorem dL_acts_264 : decode cL_acts 264 = .ok (.iconst 4, 1) := by decide +kernel
theorem dL_acts_265 : decode cL_acts 265 = .ok (.invokevirtual 174, 3) := by decide +kernel
theorem dL_acts_268 : decode cL_acts 268 = .ok (.aload_n 2, 1) := by decide +kernel
theorem dL_acts_269 : decode cL_acts 269 = .ok (.iconst 1, 1) := by decide +kernel
theorem dL_acts_270 : decode cL_acts 270 = .ok (.invokestatic 199, 3) := by decide +kernel
theorem dL_acts_273 : decode cL_acts 273 = .ok (.invokestatic 203, 3) := by decide +kernel
theorem dL_acts_276 : decode cL_acts 276 = .ok (.ireturn, 1) := by decide +kernel
theorem dL_acts_277 : decode cL_acts 277 = .ok (.aload_n 0, 1) := by decide +kernel
theorem dL_acts_278 : decode cL_acts 278 = .ok (.aload_n 2, 1) := by decide +kernel
theorem dL_acts_279 : decode cL_acts 279 = .ok (.bipush 30, 2) := by decide +kernel
theorem dL_acts_281 : decode cL_acts 281 = .ok (.invokevirtual 174, 3) := by decide +kernel
theorem dL_acts_284 : decode cL_acts 284 = .ok (.ifCond .ne 7, 3) := by decide +kernel
theorem dL_acts_287 : decode cL_acts 287 = .ok (.iconst 4, 1) := by decide +kernel
theorem dL_acts_288 : decode cL_acts 288 = .ok (.goto 8, 3) := by decide +kernel
theorem dL_acts_291 : decode cL_acts 291 = .ok (.aload_n 2, 1) := by decide +kernel
theorem dL_acts_292 : decode cL_acts 292 = .ok (.iconst 4, 1) := by decide +kernel
theorem dL_acts_293 : decode cL_acts 293 = .ok (.invokevirtual 174, 3) := by decide +kernel
theorem dL_acts_296 : decode cL_acts 296 = .ok (.aload_n 2, 1) := by decide +kernel
theorem dL_acts_297 : decode cL_acts 297 = .ok (.bipush 30, 2) := by decide +kernel
theorem dL_acts_299 : decode cL_acts 299 = .ok (.invokevirtual 174, 3) := by decide +kernel
theorem dL_acts_302 : decode cL_acts 302 = .ok (.ifCond .ne 7, 3) := by decide +kernel
theorem dL_acts_305 : decode cL_acts 305 = .ok (.iconst 3, 1) := by decide +kernel
theorem dL_acts_306 : decode cL_acts 306 = .ok (.goto 8, 3) := by decide +kernel
theorem dL_acts_309 : decode cL_acts 309 = .ok (.aload_n 2, 1) := by decide +kernel
theorem dL_acts_310 : decode cL_acts 310 = .ok (.iconst 3, 1) := by decide +kernel
theorem dL_acts_311 : decode cL_acts 311 = .ok (.invokevirtual 174, 3) := by decide +kernel
theorem dL_acts_314 : decode cL_acts 314 = .ok (.aload_n 2, 1) := by decide +kernel
theorem dL_acts_315 : decode cL_acts 315 = .ok (.iconst 0, 1) := by decide +kernel
theorem dL_acts_316 : decode cL_acts 316 = .ok (.invokestatic 199, 3) := by decide +kernel
theorem dL_acts_319 : decode cL_acts 319 = .ok (.invokestatic 206, 3) := by decide +kernel
theorem dL_acts_322 : decode cL_acts 322 = .ok (.ireturn, 1) := by decide +kernel
theorem dL_acts_323 : decode cL_acts 323 = .ok (.aload_n 0, 1) := by decide +kernel
theorem dL_acts_324 : decode cL_acts 324 = .ok (.aload_n 2, 1) := by decide +kernel
theorem dL_acts_325 : decode cL_acts 325 = .ok (.iconst 4, 1) := by decide +kernel
theorem dL_acts_326 : decode cL_acts 326 = .ok (.invokevirtual 174, 3) := by decide +kernel
theorem dL_acts_329 : decode cL_acts 329 = .ok (.aload_n 2, 1) := by decide +kernel
theorem dL_acts_330 : decode cL_acts 330 = .ok (.bipush 30, 2) := by decide +kernel
theorem dL_acts_332 : decode cL_acts 332 = .ok (.invokevirtual 174, 3) := by decide +kernel
theorem dL_acts_335 : decode cL_acts 335 = .ok (.ifCond .ne 7, 3) := by decide +kernel
theorem dL_acts_338 : decode cL_acts 338 = .ok (.iconst 3, 1) := by decide +kernel
theorem dL_acts_339 : decode cL_acts 339 = .ok (.goto 8, 3) := by decide +kernel
theorem dL_acts_342 : decode cL_acts 342 = .ok (.aload_n 2, 1) := by decide +kernel
theorem dL_acts_343 : decode cL_acts 343 = .ok (.iconst 3, 1) := by decide +kernel
theorem dL_acts_344 : decode cL_acts 344 = .ok (.invokevirtual 174, 3) := by decide +kernel
theorem dL_acts_347 : decode cL_acts 347 = .ok (.invokestatic 209, 3) := by decide +kernel
theorem dL_acts_350 : decode cL_acts 350 = .ok (.ireturn, 1) := by decide +kernel
theorem dL_acts_351 : decode cL_acts 351 = .ok (.aload_n 0, 1) := by decide +kernel
theorem dL_acts_352 : decode cL_acts 352 = .ok (.iload_n 3, 1) := by decide +kernel
theorem dL_acts_353 : decode cL_acts 353 = .ok (.aload_n 2, 1) := by decide +kernel
theorem dL_acts_354 : decode cL_acts 354 = .ok (.bipush 30, 2) := by decide +kernel
theorem dL_acts_356 : decode cL_acts 356 = .ok (.invokevirtual 174, 3) := by decide +kernel
theorem dL_acts_359 : decode cL_acts 359 = .ok (.ifCond .ne 9, 3) := by decide +kernel
theorem dL_acts_362 : decode cL_acts 362 = .ok (.sipush 1001, 3) := by decide +kernel
theorem dL_acts_365 : decode cL_acts 365 = .ok (.goto 25, 3) := by decide +kernel
theorem dL_acts_368 : decode cL_acts 368 = .ok (.iconst 1, 1) := by decide +kernel
theorem dL_acts_369 : decode cL_acts 369 = .ok (.aload_n 2, 1) := by decide +kernel
theorem dL_acts_370 : decode cL_acts 370 = .ok (.aload_n 2, 1) := by decide +kernel
theorem dL_acts_371 : decode cL_acts 371 = .ok (.iconst 2, 1) := by decide +kernel
theorem dL_acts_372 : decode cL_acts 372 = .ok (.invokevirtual 174, 3) := by decide +kernel
theorem dL_acts_375 : decode cL_acts 375 = .ok (.ifCond .ne 9, 3) := by decide +kernel
theorem dL_acts_378 : decode cL_acts 378 = .ok (.sipush 1000, 3) := by decide +kernel
theorem dL_acts_381 : decode cL_acts 381 = .ok (.goto 5, 3) := by decide +kernel
theorem dL_acts_384 : decode cL_acts 384 = .ok (.bipush 90, 2) := by decide +kernel
theorem dL_acts_386 : decode cL_acts 386 = .ok (.invokevirtual 174, 3) := by decide +kernel
theorem dL_acts_389 : decode cL_acts 389 = .ok (.iadd, 1) := by decide +kernel
theorem dL_acts_390 : decode cL_acts 390 = .ok (.invokestatic 211, 3) := by decide +kernel
theorem dL_acts_393 : decode cL_acts 393 = .ok (.f2i, 1) := by decide +kernel
theorem dL_acts_394 : decode cL_acts 394 = .ok (.ireturn, 1) := by decide +kernel
theorem dL_acts_395 : decode cL_acts 395 = .ok (.aload_n 0, 1) := by decide +kernel
theorem dL_acts_396 : decode cL_acts 396 = .ok (.aload_n 2, 1) := by decide +kernel
theorem dL_acts_397 : decode cL_acts 397 = .ok (.bipush 30, 2) := by decide +kernel
theorem dL_acts_399 : decode cL_acts 399 = .ok (.invokevirtual 174, 3) := by decide +kernel
theorem dL_acts_402 : decode cL_acts 402 = .ok (.ifCond .ne 9, 3) := by decide +kernel
theorem dL_acts_405 : decode cL_acts 405 = .ok (.sipush 10000, 3) := by decide +kernel
theorem dL_acts_408 : decode cL_acts 408 = .ok (.goto 26, 3) := by decide +kernel
theorem dL_acts_411 : decode cL_acts 411 = .ok (.iconst 1, 1) := by decide +kernel
theorem dL_acts_412 : decode cL_acts 412 = .ok (.aload_n 2, 1) := by decide +kernel
theorem dL_acts_413 : decode cL_acts 413 = .ok (.aload_n 2, 1) := by decide +kernel
theorem dL_acts_414 : decode cL_acts 414 = .ok (.iconst 2, 1) := by decide +kernel
theorem dL_acts_415 : decode cL_acts 415 = .ok (.invokevirtual 174, 3) := by decide +kernel
theorem dL_acts_418 : decode cL_acts 418 = .ok (.ifCond .ne 9, 3) := by decide +kernel
theorem dL_acts_421 : decode cL_acts 421 = .ok (.sipush 9999, 3) := by decide +kernel
theorem dL_acts_424 : decode cL_acts 424 = .ok (.goto 6, 3) := by decide +kernel
theorem dL_acts_427 : decode cL_acts 427 = .ok (.sipush 400, 3) := by decide +kernel
theorem dL_acts_430 : decode cL_acts 430 = .ok (.invokevirtual 174, 3) := by decide +kernel
theorem dL_acts_433 : decode cL_acts 433 = .ok (.iadd, 1) := by decide +kernel
theorem dL_acts_434 : decode cL_acts 434 = .ok (.invokestatic 214, 3) := by decide +kernel
theorem dL_acts_437 : decode cL_acts 437 = .ok (.ireturn, 1) := by decide +kernel
theorem dL_acts_438 : decode cL_acts 438 = .ok (.aload_n 0, 1) := by decide +kernel
theorem dL_acts_439 : decode cL_acts 439 = .ok (.aload_n 2, 1) := by decide +kernel
theorem dL_acts_440 : decode cL_acts 440 = .ok (.bipush 30, 2) := by decide +kernel
theorem dL_acts_442 : decode cL_acts 442 = .ok (.invokevirtual 174, 3) := by decide +kernel
theorem dL_acts_445 : decode cL_acts 445 = .ok (.ifCond .ne 8, 3) := by decide +kernel
theorem dL_acts_448 : decode cL_acts 448 = .ok (.bipush 21, 2) := by decide +kernel
theorem dL_acts_450 : decode cL_acts 450 = .ok (.goto 23, 3) := by decide +kernel
theorem dL_acts_453 : decode cL_acts 453 = .ok (.iconst 1, 1) := by decide +kernel
theorem dL_acts_454 : decode cL_acts 454 = .ok (.aload_n 2, 1) := by decide +kernel
theorem dL_acts_455 : decode cL_acts 455 = .ok (.aload_n 2, 1) := by decide +kernel
theorem dL_acts_456 : decode cL_acts 456 = .ok (.iconst 4, 1) := by decide +kernel
theorem dL_acts_457 : decode cL_acts 457 = .ok (.invokevirtual 174, 3) := by decide +kernel
theorem dL_acts_460 : decode cL_acts 460 = .ok (.ifCond .ne 8, 3) := by decide +kernel
theorem dL_acts_463 : decode cL_acts 463 = .ok (.bipush 20, 2) := by decide +kernel
theorem dL_acts_465 : decode cL_acts 465 = .ok (.goto 4, 3) := by decide +kernel
theorem dL_acts_468 : decode cL_acts 468 = .ok (.iconst 3, 1) := by decide +kernel
theorem dL_acts_469 : decode cL_acts 469 = .ok (.invokevirtual 174, 3) := by decide +kernel
theorem dL_acts_472 : decode cL_acts 472 = .ok (.iadd, 1) := by decide +kernel
theorem dL_acts_473 : decode cL_acts 473 = .ok (.invokestatic 216, 3) := by decide +kernel
theorem dL_acts_476 : decode cL_acts 476 = .ok (.ireturn, 1) := by decide +kernel
set_option maxRecDepth 20000 in
theorem ggL_told_X12_describeRacks : GoodIn wsL_told wsX12_describeRacks := goodIn_ca (goodIn_r _ [8, 9, 10, 11, 12, 13, 14, 15, 16, 7, 17, 18, 777, 778, 779, 780, 781, 782, 783, 784, 785, 786, 787, 788, 789, 790, 791, 792, 793, 794, 795, 796, 797, 798, 799, 800, 801] rfl (by decide +kernel)) (goodIn_sub (fun _ h => List.mem_cons_of_mem _ (List.mem_append_left _ (List.mem_append_left _ (List.mem_append_left _ (List.mem_append_right _ h))))) (by decide +kernel))
set_option maxRecDepth 20000 in
theorem gL_told_X12_describeRacks : GoodIn wsL_told (wsV RL 218 RX12 yX12_describeRacks wsX12_describeRacks) := goodIn_app (goodIn_of _ (by decide +kernel)) ggL_told_X12_describeRacks
set_option maxRecDepth 20000 in
theorem ggL_told_L_said : GoodIn wsL_told wsL_said := goodIn_ca (goodIn_ca (goodIn_r _ [22, 1, 2, 3, 23, 24, 25, 26, 27, 28, 29, 30, 31, 32, 33, 34, 35, 36, 37, 38, 39, 40, 41, 42, 43, 44, 45, 46, 21, 47, 48, 49, 50, 51, 7, 52, 53, 54, 9, 18, 55, 56, 57, 58, 59, 60, 61, 62, 63, 64, 65, 66, 67, 68, 69, 70, 71, 72, 73, 74, 75, 76, 77, 78, 79, 80, 81, 82, 83, 84, 85, 86, 87, 88, 89, 90, 91, 92, 93, 94, 95, 96, 97, 98, 99, 100, 101, 102, 103, 104, 105, 106, 107, 108, 109, 110, 111, 112, 113, 114, 115, 116, 117, 118, 119, 120, 121, 122, 123, 124, 125, 126, 127, 128, 129, 130, 131, 132, 133, 134, 135, 136, 137, 138, 139, 140, 141, 142, 143, 144, 145, 146, 147, 148, 149, 150, 151, 152, 153, 154, 155, 156, 157, 158, 159, 160, 161, 162, 163, 164, 165, 166, 167, 168, 169, 170, 171, 172, 173, 174, 175, 176, 177, 178, 179, 180, 181, 182, 183, 184, 185, 186, 187, 188, 189, 190, 191, 192, 193, 194, 195, 196, 197, 198, 199, 200, 201, 202, 203, 204, 205, 206, 207, 208, 209, 210, 211, 212, 773, 774, 775, 776, 777, 778, 779, 780, 781, 782, 783, 784, 785, 786, 787, 788, 789, 790, 791, 792, 802, 803, 804, 805] rfl (by decide +kernel)) (goodIn_sub (fun _ h => List.mem_cons_of_mem _ (List.mem_append_left _ (List.mem_append_left _ (List.mem_append_right _ h)))) (by decide +kernel))) (goodIn_sub (fun _ h => List.mem_cons_of_mem _ (List.mem_append_left _ (List.mem_append_left _ (List.mem_append_left _ (List.mem_append_right _ h))))) (by decide +kernel))
set_option maxRecDepth 20000 in
theorem gL_told_L_said : GoodIn wsL_told (va_wsS RL 221 yL_said wsL_said) := goodIn_app (goodIn_of _ (by decide +kernel)) ggL_told_L_said
set_option maxRecDepth 20000 in
theorem ggL_told_J4_init_a7421 : GoodIn wsL_told wsJ4_init_a7421 := goodIn_r _ [215, 216, 217, 28, 218, 30, 31, 32, 219, 75, 36, 34, 35, 220, 221, 222, 133, 223, 172, 224, 225, 226, 227, 173, 171, 228, 37, 38, 39, 40, 41, 42, 43, 44, 229, 230, 231, 232, 233, 3, 234, 235, 236, 237, 238, 239, 61, 240, 241, 64, 242, 243, 244, 245, 246, 65, 66, 67, 68, 69, 70, 71, 72, 73, 74, 76, 77, 78, 79, 80, 81, 82, 83, 84, 85, 86, 87, 88, 89, 90, 91, 92, 93, 94, 95, 96, 97, 98, 99, 100, 101, 102, 103, 104, 105, 106, 107, 108, 109, 33, 247, 248, 249, 143, 250, 251, 252, 128, 129, 130, 253, 254, 255, 135, 256, 257, 138, 258, 140, 141, 142, 144, 145, 259, 260, 261, 262, 263, 264, 265, 266, 267, 268, 114, 115, 116, 117, 118, 119, 120, 112, 121, 122, 123, 124, 125, 126, 127, 131, 132, 134, 136, 137, 139, 269, 270, 271, 272, 273, 274, 773, 774, 775, 776, 802, 803, 804, 805] rfl (by decide +kernel)
set_option maxRecDepth 20000 in
theorem gL_told_J4_init_a7421 : GoodIn wsL_told (wsJ4_init_a7421) := ggL_told_J4_init_a7421
set_option maxRecDepth 20000 in
theorem ggL_told_X12_claimCount : GoodIn wsL_told wsX12_claimCount := goodIn_r _ [278, 10, 279, 280, 777, 778, 779, 780, 781, 782, 783, 784, 785, 786, 787, 788, 789, 790, 791, 792, 793, 794, 795, 796, 797, 798, 799, 806, 807, 808, 809, 810, 811] rfl (by decide +kernel)
set_option maxRecDepth 20000 in
theorem gL_told_X12_claimCount : GoodIn wsL_told (wsV RL 184 RX12 yX12_claimCount wsX12_claimCount) := goodIn_app (goodIn_of _ (by decide +kernel)) ggL_told_X12_claimCount
set_option maxRecDepth 20000 in
theorem ggL_told_J4_append_cf468 : GoodIn wsL_told wsJ4_append_cf468 := goodIn_r _ [58, 59, 60, 61, 62, 28, 63, 64, 35, 65, 66, 67, 68, 69, 36, 70, 71, 72, 73, 74, 75, 76, 77, 78, 79, 80, 81, 82, 83, 84, 85, 86, 87, 88, 89, 90, 91, 92, 93, 94, 95, 96, 97, 34, 98, 99, 100, 101, 102, 103, 104, 105, 106, 107, 108, 109, 33, 110, 111, 112, 113, 114, 115, 116, 117, 118, 37, 38, 39, 40, 41, 42, 43, 44, 119, 120, 121, 122, 123, 124, 125, 126, 127, 128, 129, 130, 131, 132, 133, 134, 135, 136, 137, 138, 139, 140, 141, 142, 143, 144, 145, 146, 147, 148, 149, 150, 151, 152, 153, 154, 155, 156, 157, 773, 774, 775, 776] rfl (by decide +kernel)
set_option maxRecDepth 20000 in
theorem gL_told_J4_append_cf468 : GoodIn wsL_told (wsV RL 156 RJ4 yJ4_append_cf468 wsJ4_append_cf468) := goodIn_app (goodIn_of _ (by decide +kernel)) ggL_told_J4_append_cf468
set_option maxRecDepth 20000 in
theorem ggL_told_L_describeClaim : GoodIn wsL_told wsL_describeClaim := goodIn_ca (goodIn_ca (goodIn_r _ [283, 48, 284, 285, 286, 7, 287, 9, 10, 279, 280, 288, 289, 290, 291, 292, 53, 54, 293, 294, 295, 296, 297, 298, 299, 300, 301, 14, 15, 16, 17, 18, 302, 303, 304, 305, 306, 307, 308, 309, 310, 311, 312, 313, 314, 315, 316, 317, 318, 319, 320, 321, 322, 323, 324, 325, 326, 327, 328, 329, 330, 331, 332, 333, 777, 778, 779, 780, 781, 782, 783, 784, 785, 786, 787, 788, 789, 790, 791, 792, 793, 794, 795, 796, 797, 798, 799, 806, 807, 808, 809, 810, 811] rfl (by decide +kernel)) (goodIn_sub (fun _ h => List.mem_cons_of_mem _ (List.mem_append_left _ (List.mem_append_left _ (List.mem_append_left _ (List.mem_append_right _ h))))) (by decide +kernel))) (goodIn_sub (fun _ h => List.mem_cons_of_mem _ (List.mem_append_left _ (List.mem_append_left _ (List.mem_append_right _ h)))) (by decide +kernel))
set_option maxRecDepth 20000 in
theorem gL_told_L_describeClaim : GoodIn wsL_told (va_wsS RL 228 yL_describeClaim wsL_describeClaim) := goodIn_app (goodIn_of _ (by decide +kernel)) ggL_told_L_describeClaim
set_option maxRecDepth 20000 in
theorem ggL_told_J4_append_15ec4 : GoodIn wsL_told wsJ4_append_15ec4 := goodIn_r _ [238, 239, 230, 61, 240, 28, 241, 64, 242, 243, 244, 245, 246, 35, 65, 66, 67, 68, 69, 36, 70, 71, 72, 73, 74, 75, 76, 77, 78, 79, 80, 81, 82, 83, 84, 85, 86, 87, 88, 89, 90, 91, 92, 93, 94, 95, 96, 97, 34, 98, 99, 100, 101, 102, 103, 104, 105, 106, 107, 108, 109, 33, 247, 248, 39, 249, 143, 250, 251, 252, 128, 129, 130, 253, 254, 133, 255, 135, 256, 257, 138, 258, 140, 141, 142, 144, 145, 220, 221, 222, 223, 172, 224, 225, 226, 227, 173, 171, 259, 260, 261, 262, 263, 264, 265, 266, 267, 268, 228, 114, 115, 116, 117, 118, 37, 38, 40, 41, 42, 43, 44, 119, 120, 112, 121, 122, 123, 124, 125, 126, 127, 131, 132, 134, 136, 137, 139, 269, 270, 271, 272, 273, 274, 773, 774, 775, 776, 802, 803, 804, 805] rfl (by decide +kernel)
set_option maxRecDepth 20000 in
theorem gL_told_J4_append_15ec4 : GoodIn wsL_told (wsV RL 230 RJ4 yJ4_append_15ec4 wsJ4_append_15ec4) := goodIn_app (goodIn_of _ (by decide +kernel)) ggL_told_J4_append_15ec4
set_option maxRecDepth 20000 in
theorem ggL_told_L_weightOf : GoodIn wsL_told wsL_weightOf := goodIn_ca (goodIn_ca (goodIn_r _ [337, 48, 338, 339, 340, 7, 341, 10, 279, 342, 289, 290, 291, 292, 53, 54, 293, 294, 295, 296, 297, 298, 777, 778, 779, 780, 781, 782, 783, 784, 785, 786, 787, 788, 789, 790, 791, 792, 793, 794, 795, 796, 797, 798, 799, 806, 807, 808, 809, 810, 811] rfl (by decide +kernel)) (goodIn_sub (fun _ h => List.mem_cons_of_mem _ (List.mem_append_left _ (List.mem_append_left _ (List.mem_append_left _ (List.mem_append_right _ h))))) (by decide +kernel))) (goodIn_sub (fun _ h => List.mem_cons_of_mem _ (List.mem_append_left _ (List.mem_append_left _ (List.mem_append_right _ h)))) (by decide +kernel))
set_option maxRecDepth 20000 in
theorem gL_told_L_weightOf : GoodIn wsL_told (va_wsS RL 233 yL_weightOf wsL_weightOf) := goodIn_app (goodIn_of _ (by decide +kernel)) ggL_told_L_weightOf
set_option maxRecDepth 20000 in
theorem ggL_told_J4_append_bf812 : GoodIn wsL_told wsJ4_append_bf812 := goodIn_r _ [346, 347, 348, 61, 349, 28, 350, 64, 35, 351, 352, 353, 354, 65, 66, 67, 68, 69, 36, 70, 71, 72, 73, 74, 75, 76, 77, 78, 79, 80, 81, 82, 83, 84, 85, 86, 87, 88, 89, 90, 91, 92, 93, 94, 95, 96, 97, 34, 98, 99, 100, 101, 102, 103, 104, 105, 106, 107, 108, 109, 33, 355, 356, 357, 358, 359, 360, 361, 39, 362, 143, 250, 251, 252, 128, 129, 130, 253, 254, 133, 255, 135, 256, 257, 138, 258, 363, 364, 365, 366, 367, 140, 141, 142, 144, 145, 773, 774, 775, 776] rfl (by decide +kernel)
set_option maxRecDepth 20000 in
theorem gL_told_J4_append_bf812 : GoodIn wsL_told (wsV RL 235 RJ4 yJ4_append_bf812 wsJ4_append_bf812) := goodIn_app (goodIn_of _ (by decide +kernel)) ggL_told_J4_append_bf812
set_option maxRecDepth 20000 in
theorem ggL_told_L_layerOf : GoodIn wsL_told wsL_layerOf := goodIn_ca (goodIn_ca (goodIn_r _ [370, 48, 371, 372, 373, 7, 374, 10, 279, 375, 289, 290, 291, 292, 53, 54, 293, 294, 295, 296, 297, 298, 777, 778, 779, 780, 781, 782, 783, 784, 785, 786, 787, 788, 789, 790, 791, 792, 793, 794, 795, 796, 797, 798, 799, 806, 807, 808, 809, 810, 811] rfl (by decide +kernel)) (goodIn_sub (fun _ h => List.mem_cons_of_mem _ (List.mem_append_left _ (List.mem_append_left _ (List.mem_append_left _ (List.mem_append_right _ h))))) (by decide +kernel))) (goodIn_sub (fun _ h => List.mem_cons_of_mem _ (List.mem_append_left _ (List.mem_append_left _ (List.mem_append_right _ h)))) (by decide +kernel))
set_option maxRecDepth 20000 in
theorem gL_told_L_layerOf : GoodIn wsL_told (va_wsS RL 238 yL_layerOf wsL_layerOf) := goodIn_app (goodIn_of _ (by decide +kernel)) ggL_told_L_layerOf
set_option maxRecDepth 20000 in
theorem ggL_told_L_fluxOf : GoodIn wsL_told wsL_fluxOf := goodIn_ca (goodIn_ca (goodIn_r _ [378, 48, 379, 380, 381, 382, 7, 383, 10, 279, 384, 289, 290, 291, 292, 53, 54, 293, 294, 295, 296, 297, 298, 777, 778, 779, 780, 781, 782, 783, 784, 785, 786, 787, 788, 789, 790, 791, 792, 793, 794, 795, 796, 797, 798, 799, 806, 807, 808, 809, 810, 811] rfl (by decide +kernel)) (goodIn_sub (fun _ h => List.mem_cons_of_mem _ (List.mem_append_left _ (List.mem_append_left _ (List.mem_append_left _ (List.mem_append_right _ h))))) (by decide +kernel))) (goodIn_sub (fun _ h => List.mem_cons_of_mem _ (List.mem_append_left _ (List.mem_append_left _ (List.mem_append_right _ h)))) (by decide +kernel))
set_option maxRecDepth 20000 in
theorem gL_told_L_fluxOf : GoodIn wsL_told (va_wsS RL 240 yL_fluxOf wsL_fluxOf) := goodIn_app (goodIn_of _ (by decide +kernel)) ggL_told_L_fluxOf
set_option maxRecDepth 20000 in
theorem ggL_told_J4_append_9d4c8 : GoodIn wsL_told wsJ4_append_9d4c8 := goodIn_r _ [388, 389, 390, 61, 391, 28, 392, 393, 394, 395, 396, 397, 398, 399, 400, 401, 402, 31, 32, 34, 403, 404, 405, 406, 407, 408, 409, 410, 411, 412, 413, 414, 415, 416, 417, 418, 419, 420, 421, 422, 423, 424, 425, 426, 427, 428, 429, 430, 431, 432, 433, 353, 434, 435, 436, 437, 438, 439, 440, 441, 442, 443, 444, 445, 446, 447, 448, 449, 450, 451, 452, 453, 454, 455, 456, 457, 458, 459, 460, 461, 462, 463, 464, 465, 466, 467, 468, 469, 470, 471, 472, 473, 474, 475, 476, 477, 478, 479, 480, 481, 482, 483, 484, 485, 486, 487, 488, 489, 490, 491, 492, 493, 494, 495, 496, 497, 498, 499, 500, 501, 502, 503, 504, 505, 506, 507, 508, 3, 509, 510, 511, 512, 513, 64, 65, 66, 67, 68, 69, 35, 36, 70, 71, 72, 73, 74, 75, 76, 77, 78, 79, 80, 81, 82, 83, 84, 85, 86, 87, 88, 89, 90, 91, 92, 93, 94, 95, 96, 97, 98, 99, 100, 101, 102, 103, 104, 514, 515, 516, 517, 518, 105, 106, 107, 108, 109, 33, 110, 111, 112, 113, 114, 115, 116, 117, 118, 37, 38, 39, 40, 41, 42, 43, 44, 119, 120, 121, 122, 123, 124, 125, 126, 127, 128, 129, 130, 131, 132, 133, 134, 135, 136, 137, 138, 139, 140, 141, 142, 143, 144, 145, 519, 520, 521, 250, 251, 252, 253, 254, 255, 256, 257, 258, 522, 523, 524, 525, 526, 527, 528, 529, 56, 57, 58, 59, 60, 62, 63, 146, 147, 148, 149, 150, 151, 152, 153, 154, 155, 156, 157, 530, 531, 532, 533, 534, 535, 536, 537, 538, 539, 540, 541, 542, 543, 242, 243, 244, 245, 246, 247, 248, 249, 229, 230, 231, 232, 233, 234, 235, 236, 237, 238, 239, 240, 241, 220, 221, 222, 223, 172, 224, 225, 226, 227, 173, 171, 259, 260, 261, 262, 263, 264, 265, 266, 267, 268, 228, 269, 270, 271, 272, 273, 274, 544, 545, 546, 547, 548, 549, 550, 181, 182, 183, 184, 185, 186, 187, 188, 551, 552, 553, 554, 555, 556, 557, 558, 559, 560, 561, 562, 563, 564, 565, 566, 567, 568, 569, 570, 571, 572, 573, 574, 575, 576, 577, 578, 579, 580, 581, 582, 583, 584, 585, 586, 587, 588, 589, 590, 591, 592, 593, 594, 595, 596, 597, 598, 599, 600, 601, 602, 603, 604, 605, 606, 607, 608, 609, 206, 207, 208, 610, 611, 612, 613, 614, 615, 616, 617, 618, 619, 620, 621, 622, 623, 624, 625, 626, 627, 628, 629, 630, 812, 813, 773, 774, 775, 776, 802, 803, 804, 805] rfl (by decide +kernel)
set_option maxRecDepth 20000 in
theorem gL_told_J4_append_9d4c8 : GoodIn wsL_told (wsV RL 243 RJ4 yJ4_append_9d4c8 wsJ4_append_9d4c8) := goodIn_app (goodIn_of _ (by decide +kernel)) ggL_told_J4_append_9d4c8
set_option maxRecDepth 20000 in
theorem ggL_told_X12_logCount : GoodIn wsL_told wsX12_logCount := goodIn_r _ [634, 10, 635, 636, 777, 778, 779, 780, 781, 782, 783, 784, 785, 786, 787, 788, 789, 790, 791, 792, 793, 794, 795, 796, 797, 798, 799, 814, 815, 816, 817] rfl (by decide +kernel)
set_option maxRecDepth 20000 in
theorem gL_told_X12_logCount : GoodIn wsL_told (wsV RL 246 RX12 yX12_logCount wsX12_logCount) := goodIn_app (goodIn_of _ (by decide +kernel)) ggL_told_X12_logCount
set_option maxRecDepth 20000 in
theorem ggL_told_L_logKind : GoodIn wsL_told wsL_logKind := goodIn_ca (goodIn_ca (goodIn_r _ [639, 640, 641, 642, 643, 7, 644, 10, 635, 645, 646, 647, 648, 649, 650, 651, 636, 652, 653, 654, 655, 656, 657, 658, 659, 461, 660, 777, 778, 779, 780, 781, 782, 783, 784, 785, 786, 787, 788, 789, 790, 791, 792, 793, 794, 795, 796, 797, 798, 799, 814, 815, 816, 817] rfl (by decide +kernel)) (goodIn_sub (fun _ h => List.mem_cons_of_mem _ (List.mem_append_left _ (List.mem_append_left _ (List.mem_append_left _ (List.mem_append_right _ h))))) (by decide +kernel))) (goodIn_sub (fun _ h => List.mem_cons_of_mem _ (List.mem_append_left _ (List.mem_append_right _ h))) (by decide +kernel))
set_option maxRecDepth 20000 in
theorem gL_told_L_logKind : GoodIn wsL_told (va_wsS RL 249 yL_logKind wsL_logKind) := goodIn_app (goodIn_of _ (by decide +kernel)) ggL_told_L_logKind
set_option maxRecDepth 20000 in
theorem ggL_told_L_logShift : GoodIn wsL_told wsL_logShift := goodIn_ca (goodIn_ca (goodIn_r _ [663, 640, 664, 665, 666, 7, 667, 10, 635, 668, 646, 647, 648, 649, 650, 651, 636, 652, 653, 654, 655, 656, 657, 658, 659, 461, 660, 777, 778, 779, 780, 781, 782, 783, 784, 785, 786, 787, 788, 789, 790, 791, 792, 793, 794, 795, 796, 797, 798, 799, 814, 815, 816, 817] rfl (by decide +kernel)) (goodIn_sub (fun _ h => List.mem_cons_of_mem _ (List.mem_append_left _ (List.mem_append_left _ (List.mem_append_left _ (List.mem_append_right _ h))))) (by decide +kernel))) (goodIn_sub (fun _ h => List.mem_cons_of_mem _ (List.mem_append_left _ (List.mem_append_right _ h))) (by decide +kernel))
set_option maxRecDepth 20000 in
theorem gL_told_L_logShift : GoodIn wsL_told (va_wsS RL 251 yL_logShift wsL_logShift) := goodIn_app (goodIn_of _ (by decide +kernel)) ggL_told_L_logShift
set_option maxRecDepth 20000 in
theorem ggL_told_X12_power : GoodIn wsL_told wsX12_power := goodIn_ca (goodIn_r _ [672, 10, 279, 673, 674, 675, 296, 676, 298, 677, 777, 778, 779, 780, 781, 782, 783, 784, 785, 786, 787, 788, 789, 790, 791, 792, 793, 794, 795, 796, 797, 798, 799, 806, 807, 808, 809, 810, 811] rfl (by decide +kernel)) (goodIn_sub (fun _ h => List.mem_cons_of_mem _ (List.mem_append_left _ (List.mem_append_left _ (List.mem_append_left _ (List.mem_append_right _ h))))) (by decide +kernel))
set_option maxRecDepth 20000 in
theorem gL_told_X12_power : GoodIn wsL_told (wsV RL 253 RX12 yX12_power wsX12_power) := goodIn_app (goodIn_of _ (by decide +kernel)) ggL_told_X12_power
set_option maxRecDepth 20000 in
theorem ggL_told_X12_shiftCount : GoodIn wsL_told wsX12_shiftCount := goodIn_r _ [681, 10, 682, 777, 778, 779, 780, 781, 782, 783, 784, 785, 786, 787, 788, 789, 790, 791, 792, 793, 794, 795, 796, 797, 798, 799] rfl (by decide +kernel)
set_option maxRecDepth 20000 in
theorem gL_told_X12_shiftCount : GoodIn wsL_told (wsV RL 257 RX12 yX12_shiftCount wsX12_shiftCount) := goodIn_app (goodIn_of _ (by decide +kernel)) ggL_told_X12_shiftCount
set_option maxRecDepth 20000 in
theorem ggL_told_X12_scrams : GoodIn wsL_told wsX12_scrams := goodIn_r _ [686, 10, 687, 777, 778, 779, 780, 781, 782, 783, 784, 785, 786, 787, 788, 789, 790, 791, 792, 793, 794, 795, 796, 797, 798, 799] rfl (by decide +kernel)
set_option maxRecDepth 20000 in
theorem gL_told_X12_scrams : GoodIn wsL_told (wsV RL 260 RX12 yX12_scrams wsX12_scrams) := goodIn_app (goodIn_of _ (by decide +kernel)) ggL_told_X12_scrams
set_option maxRecDepth 20000 in
theorem ggL_told_L_shiftsUntilBelow : GoodIn wsL_told wsL_shiftsUntilBelow := goodIn_ca (goodIn_ca (goodIn_ca (goodIn_r _ [690, 691, 692, 693, 694, 7, 695, 696, 697, 650, 651, 698, 10, 279, 699, 700, 701, 702, 703, 704, 705, 706, 707, 708, 709, 710, 711, 712, 296, 713, 298, 714, 715, 102, 103, 104, 716, 323, 717, 677, 718, 719, 720, 721, 722, 723, 724, 725, 726, 727, 655, 728, 729, 730, 731, 657, 673, 674, 675, 676, 732, 733, 734, 735, 736, 737, 738, 739, 740, 741, 742, 743, 744, 745, 746, 747, 748, 324, 325, 749, 750, 751, 752, 753, 754, 755, 756, 757, 758, 759, 760, 761, 762, 763, 764, 765, 766, 767, 768, 769, 770, 771, 772, 99, 82, 100, 777, 778, 779, 780, 781, 782, 783, 784, 785, 786, 787, 788, 789, 790, 791, 792, 793, 794, 795, 796, 797, 798, 799, 806, 807, 808, 809, 810, 811, 800, 801, 814, 815, 816, 817] rfl (by decide +kernel)) (goodIn_sub (fun _ h => List.mem_cons_of_mem _ (List.mem_append_right _ h)) (by decide +kernel))) (goodIn_sub (fun _ h => List.mem_cons_of_mem _ (List.mem_append_left _ (List.mem_append_right _ h))) (by decide +kernel))) (goodIn_sub (fun _ h => List.mem_cons_of_mem _ (List.mem_append_left _ (List.mem_append_left _ (List.mem_append_left _ (List.mem_append_right _ h))))) (by decide +kernel))
set_option maxRecDepth 20000 in
theorem gL_told_L_shiftsUntilBelow : GoodIn wsL_told (va_wsS RL 263 yL_shiftsUntilBelow wsL_shiftsUntilBelow) := goodIn_app (goodIn_of _ (by decide +kernel)) ggL_told_L_shiftsUntilBelow
set_option maxRecDepth 20000 in
theorem ggL_told_J4_toString_0e30d : GoodIn wsL_told wsJ4_toString_0e30d := goodIn_r _ [161, 162, 163, 133, 164, 165, 166, 167, 168, 169, 170, 31, 32, 171, 172, 173, 174, 175, 176, 177, 178, 28, 179, 35, 180, 181, 182, 183, 184, 3, 185, 186, 61, 187, 188, 64, 189, 106, 107, 108, 109, 33, 36, 190, 191, 90, 192, 92, 93, 94, 95, 96, 97, 193, 194, 195, 34, 98, 99, 82, 100, 101, 102, 103, 104, 196, 197, 198, 199, 2, 200, 201, 39, 202, 203, 204, 205, 125, 126, 127, 128, 129, 130, 131, 132, 134, 135, 136, 137, 138, 139, 206, 207, 208, 143, 144, 145, 41, 42, 43, 44, 209, 210, 211, 212, 802, 803, 804, 805, 773, 774, 775, 776] rfl (by decide +kernel)
set_option maxRecDepth 20000 in
theorem gL_told_J4_toString_0e30d : GoodIn wsL_told (wsV RL 159 RJ4 yJ4_toString_0e30d wsJ4_toString_0e30d) := goodIn_app (goodIn_of _ (by decide +kernel)) ggL_told_J4_toString_0e30d
theorem dL_told_0 : decode cL_told 0 = .ok (.new 148, 3) := by decide +kernel
theorem dL_told_3 : decode cL_told 3 = .ok (.dup, 1) := by decide +kernel
theorem dL_told_4 : decode cL_told 4 = .ok (.aload_n 0, 1) := by decide +kernel
theorem dL_told_5 : decode cL_told 5 = .ok (.aload_n 0, 1) := by decide +kernel
theorem dL_told_6 : decode cL_told 6 = .ok (.invokevirtual 218, 3) := by decide +kernel
theorem dL_told_9 : decode cL_told 9 = .ok (.invokestatic 221, 3) := by decide +kernel
theorem dL_told_12 : decode cL_told 12 = .ok (.invokespecial 225, 3) := by decide +kernel
theorem dL_told_15 : decode cL_told 15 = .ok (.astore_n 1, 1) := by decide +kernel
theorem dL_told_16 : decode cL_told 16 = .ok (.iconst 0, 1) := by decide +kernel
theorem dL_told_17 : decode cL_told 17 = .ok (.istore_n 2, 1) := by decide +kernel
theorem dL_told_18 : decode cL_told 18 = .ok (.iload_n 2, 1) := by decide +kernel
theorem dL_told_19 : decode cL_told 19 = .ok (.aload_n 0, 1) := by decide +kernel
theorem dL_told_20 : decode cL_told 20 = .ok (.invokevirtual 184, 3) := by decide +kernel
theorem dL_told_23 : decode cL_told 23 = .ok (.if_icmp .ge 67, 3) := by decide +kernel
theorem dL_told_26 : decode cL_told 26 = .ok (.aload_n 1, 1) := by decide +kernel
theorem dL_told_27 : decode cL_told 27 = .ok (.bipush 47, 2) := by decide +kernel
theorem dL_told_29 : decode cL_told 29 = .ok (.invokevirtual 156, 3) := by decide +kernel
theorem dL_told_32 : decode cL_told 32 = .ok (.aload_n 0, 1) := by decide +kernel
theorem dL_told_33 : decode cL_told 33 = .ok (.aload_n 0, 1) := by decide +kernel
theorem dL_told_34 : decode cL_told 34 = .ok (.iload_n 2, 1) := by decide +kernel
theorem dL_told_35 : decode cL_told 35 = .ok (.invokestatic 228, 3) := by decide +kernel
theorem dL_told_38 : decode cL_told 38 = .ok (.invokestatic 221, 3) := by decide +kernel
theorem dL_told_41 : decode cL_told 41 = .ok (.invokevirtual 230, 3) := by decide +kernel
theorem dL_told_44 : decode cL_told 44 = .ok (.bipush 44, 2) := by decide +kernel
theorem dL_told_46 : decode cL_told 46 = .ok (.invokevirtual 156, 3) := by decide +kernel
theorem dL_told_49 : decode cL_told 49 = .ok (.aload_n 0, 1) := by decide +kernel
theorem dL_told_50 : decode cL_told 50 = .ok (.iload_n 2, 1) := by decide +kernel
theorem dL_told_51 : decode cL_told 51 = .ok (.invokestatic 233, 3) := by decide +kernel
theorem dL_told_54 : decode cL_told 54 = .ok (.invokevirtual 235, 3) := by decide +kernel
theorem dL_told_57 : decode cL_told 57 = .ok (.bipush 44, 2) := by decide +kernel
theorem dL_told_59 : decode cL_told 59 = .ok (.invokevirtual 156, 3) := by decide +kernel
theorem dL_told_62 : decode cL_told 62 = .ok (.aload_n 0, 1) := by decide +kernel
theorem dL_told_63 : decode cL_told 63 = .ok (.iload_n 2, 1) := by decide +kernel
theorem dL_told_64 : decode cL_told 64 = .ok (.invokestatic 238, 3) := by decide +kernel
theorem dL_told_67 : decode cL_told 67 = .ok (.invokevirtual 235, 3) := by decide +kernel
theorem dL_told_70 : decode cL_told 70 = .ok (.bipush 44, 2) := by decide +kernel
theorem dL_told_72 : decode cL_told 72 = .ok (.invokevirtual 156, 3) := by decide +kernel
theorem dL_told_75 : decode cL_told 75 = .ok (.aload_n 0, 1) := by decide +kernel
theorem dL_told_76 : decode cL_told 76 = .ok (.iload_n 2, 1) := by decide +kernel
theorem dL_told_77 : decode cL_told 77 = .ok (.invokestatic 240, 3) := by decide +kernel
theorem dL_told_80 : decode cL_told 80 = .ok (.invokevirtual 243, 3) := by decide +kernel
theorem dL_told_83 : decode cL_told 83 = .ok (.pop, 1) := by decide +kernel
theorem dL_told_84 : decode cL_told 84 = .ok (.iinc 2 1, 3) := by decide +kernel
theorem dL_told_87 : decode cL_told 87 = .ok (.goto (-69), 3) := by decide +kernel
theorem dL_told_90 : decode cL_told 90 = .ok (.aload_n 1, 1) := by decide +kernel
theorem dL_told_91 : decode cL_told 91 = .ok (.bipush 124, 2) := by decide +kernel
theorem dL_told_93 : decode cL_told 93 = .ok (.invokevirtual 156, 3) := by decide +kernel
theorem dL_told_96 : decode cL_told 96 = .ok (.pop, 1) := by decide +kernel
theorem dL_told_97 : decode cL_told 97 = .ok (.iconst 0, 1) := by decide +kernel
theorem dL_told_98 : decode cL_told 98 = .ok (.istore_n 2, 1) := by decide +kernel
theorem dL_told_99 : decode cL_told 99 = .ok (.iload_n 2, 1) := by decide +kernel
theorem dL_told_100 : decode cL_told 100 = .ok (.aload_n 0, 1) := by decide +kernel
theorem dL_told_101 : decode cL_told 101 = .ok (.invokevirtual 246, 3) := by decide +kernel
theorem dL_told_104 : decode cL_told 104 = .ok (.if_icmp .ge 28, 3) := by decide +kernel
theorem dL_told_107 : decode cL_told 107 = .ok (.aload_n 1, 1) := by decide +kernel
theorem dL_told_108 : decode cL_told 108 = .ok (.aload_n 0, 1) := by decide +kernel
theorem dL_told_109 : decode cL_told 109 = .ok (.iload_n 2, 1) := by decide +kernel
theorem dL_told_110 : decode cL_told 110 = .ok (.invokestatic 249, 3) := by decide +kernel
theorem dL_told_113 : decode cL_told 113 = .ok (.i2c, 1) := by decide +kernel
theorem dL_told_114 : decode cL_told 114 = .ok (.invokevirtual 156, 3) := by decide +kernel
theorem dL_told_117 : decode cL_told 117 = .ok (.aload_n 0, 1) := by decide +kernel
theorem dL_told_118 : decode cL_told 118 = .ok (.iload_n 2, 1) := by decide +kernel
theorem dL_told_119 : decode cL_told 119 = .ok (.invokestatic 251, 3) := by decide +kernel
theorem dL_told_122 : decode cL_told 122 = .ok (.invokevirtual 235, 3) := by decide +kernel
theorem dL_told_125 : decode cL_told 125 = .ok (.pop, 1) := by decide +kernel
theorem dL_told_126 : decode cL_told 126 = .ok (.iinc 2 1, 3) := by decide +kernel
theorem dL_told_129 : decode cL_told 129 = .ok (.goto (-30), 3) := by decide +kernel
theorem dL_told_132 : decode cL_told 132 = .ok (.aload_n 1, 1) := by decide +kernel
theorem dL_told_133 : decode cL_told 133 = .ok (.bipush 124, 2) := by decide +kernel
theorem dL_told_135 : decode cL_told 135 = .ok (.invokevirtual 156, 3) := by decide +kernel
theorem dL_told_138 : decode cL_told 138 = .ok (.aload_n 0, 1) := by decide +kernel
theorem dL_told_139 : decode cL_told 139 = .ok (.invokevirtual 253, 3) := by decide +kernel
theorem dL_told_142 : decode cL_told 142 = .ok (.invokevirtual 243, 3) := by decide +kernel
theorem dL_told_145 : decode cL_told 145 = .ok (.bipush 44, 2) := by decide +kernel
theorem dL_told_147 : decode cL_told 147 = .ok (.invokevirtual 156, 3) := by decide +kernel
theorem dL_told_150 : decode cL_told 150 = .ok (.aload_n 0, 1) := by decide +kernel
theorem dL_told_151 : decode cL_told 151 = .ok (.invokevirtual 257, 3) := by decide +kernel
theorem dL_told_154 : decode cL_told 154 = .ok (.invokevirtual 235, 3) := by decide +kernel
theorem dL_told_157 : decode cL_told 157 = .ok (.bipush 44, 2) := by decide +kernel
theorem dL_told_159 : decode cL_told 159 = .ok (.invokevirtual 156, 3) := by decide +kernel
theorem dL_told_162 : decode cL_told 162 = .ok (.aload_n 0, 1) := by decide +kernel
theorem dL_told_163 : decode cL_told 163 = .ok (.invokevirtual 260, 3) := by decide +kernel
theorem dL_told_166 : decode cL_told 166 = .ok (.invokevirtual 235, 3) := by decide +kernel
theorem dL_told_169 : decode cL_told 169 = .ok (.bipush 44, 2) := by decide +kernel
theorem dL_told_171 : decode cL_told 171 = .ok (.invokevirtual 156, 3) := by decide +kernel
theorem dL_told_174 : decode cL_told 174 = .ok (.aload_n 0, 1) := by decide +kernel
theorem dL_told_175 : decode cL_told 175 = .ok (.bipush 50, 2) := by decide +kernel
theorem dL_told_177 : decode cL_told 177 = .ok (.invokestatic 263, 3) := by decide +kernel
theorem dL_told_180 : decode cL_told 180 = .ok (.invokevirtual 235, 3) := by decide +kernel
theorem dL_told_183 : decode cL_told 183 = .ok (.invokevirtual 159, 3) := by decide +kernel
theorem dL_told_186 : decode cL_told 186 = .ok (.areturn, 1) := by decide +kernel
set_option maxRecDepth 20000 in
theorem ggL_stock_L_addClaim : GoodIn wsL_stock wsL_addClaim := goodIn_ca (goodIn_ca (goodIn_ca (goodIn_ca (goodIn_ca (goodIn_ca (goodIn_r _ [4, 5, 6, 7, 8, 9, 10, 11, 12, 13, 14, 15, 16, 17, 18, 19, 20, 21, 22, 23, 24, 25, 26, 27, 28, 29, 30, 31, 32, 33, 34, 35, 36, 37, 38, 39, 40, 41, 42, 43, 44, 45, 46, 47, 48, 49, 50, 51, 52, 53, 54, 55, 56, 57, 58, 59, 60, 61, 62, 63, 64, 65, 66, 67, 68, 69, 70, 71, 72, 73, 74, 75, 76, 77, 78, 79, 80, 81, 82, 83, 243, 244, 245, 246, 247, 248, 249, 250, 251, 252, 253, 254, 255, 256, 257, 258, 259, 260, 261, 262, 263, 264, 265, 266, 267, 268, 269, 270, 271, 272, 273, 274, 275, 276, 277] rfl (by decide +kernel)) (goodIn_sub (fun _ h => List.mem_cons_of_mem _ (List.mem_append_left _ (List.mem_append_left _ (List.mem_append_left _ (List.mem_append_left _ (List.mem_append_left _ (List.mem_append_right _ h))))))) (by decide +kernel))) (goodIn_sub (fun _ h => List.mem_cons_of_mem _ (List.mem_append_left _ (List.mem_append_left _ (List.mem_append_left _ (List.mem_append_left _ (List.mem_append_right _ h)))))) (by decide +kernel))) (goodIn_sub (fun _ h => List.mem_cons_of_mem _ (List.mem_append_left _ (List.mem_append_left _ (List.mem_append_left _ (List.mem_append_right _ h))))) (by decide +kernel))) (goodIn_sub (fun _ h => List.mem_cons_of_mem _ (List.mem_append_left _ (List.mem_append_left _ (List.mem_append_right _ h)))) (by decide +kernel))) (goodIn_sub (fun _ h => List.mem_cons_of_mem _ (List.mem_append_left _ (List.mem_append_right _ h))) (by decide +kernel))) (goodIn_sub (fun _ h => List.mem_cons_of_mem _ (List.mem_append_right _ h)) (by decide +kernel))
set_option maxRecDepth 20000 in
theorem gL_stock_L_addClaim : GoodIn wsL_stock (va_wsS RL 191 yL_addClaim wsL_addClaim) := goodIn_app (goodIn_of _ (by decide +kernel)) ggL_stock_L_addClaim
set_option maxRecDepth 20000 in
theorem ggL_stock_L_setAttack : GoodIn wsL_stock wsL_setAttack := goodIn_ca (goodIn_ca (goodIn_ca (goodIn_ca (goodIn_ca (goodIn_ca (goodIn_r _ [86, 87, 88, 89, 90, 9, 91, 11, 12, 13, 14, 15, 16, 17, 18, 19, 20, 21, 22, 23, 24, 25, 26, 27, 28, 29, 30, 31, 32, 33, 34, 35, 36, 37, 38, 39, 40, 41, 42, 43, 44, 45, 46, 47, 48, 49, 50, 51, 52, 53, 54, 55, 92, 93, 94, 95, 96, 97, 98, 99, 100, 101, 102, 103, 60, 61, 62, 63, 64, 65, 66, 67, 68, 69, 70, 71, 72, 73, 74, 75, 76, 77, 78, 79, 80, 81, 82, 83, 243, 244, 245, 246, 247, 248, 249, 250, 251, 252, 253, 254, 255, 256, 257, 258, 259, 260, 261, 262, 263, 264, 265, 266, 267, 268, 269, 270, 271, 272, 273, 274, 275, 276, 277] rfl (by decide +kernel)) (goodIn_sub (fun _ h => List.mem_cons_of_mem _ (List.mem_append_left _ (List.mem_append_left _ (List.mem_append_left _ (List.mem_append_left _ (List.mem_append_left _ (List.mem_append_right _ h))))))) (by decide +kernel))) (goodIn_sub (fun _ h => List.mem_cons_of_mem _ (List.mem_append_left _ (List.mem_append_left _ (List.mem_append_left _ (List.mem_append_left _ (List.mem_append_right _ h)))))) (by decide +kernel))) (goodIn_sub (fun _ h => List.mem_cons_of_mem _ (List.mem_append_left _ (List.mem_append_left _ (List.mem_append_left _ (List.mem_append_right _ h))))) (by decide +kernel))) (goodIn_sub (fun _ h => List.mem_cons_of_mem _ (List.mem_append_left _ (List.mem_append_left _ (List.mem_append_right _ h)))) (by decide +kernel))) (goodIn_sub (fun _ h => List.mem_cons_of_mem _ (List.mem_append_left _ (List.mem_append_right _ h))) (by decide +kernel))) (goodIn_sub (fun _ h => List.mem_cons_of_mem _ (List.mem_append_right _ h)) (by decide +kernel))
set_option maxRecDepth 20000 in
theorem gL_stock_L_setAttack : GoodIn wsL_stock (va_wsS RL 193 yL_setAttack wsL_setAttack) := goodIn_app (goodIn_of _ (by decide +kernel)) ggL_stock_L_setAttack
set_option maxRecDepth 20000 in
theorem ggL_stock_L_setLayer : GoodIn wsL_stock wsL_setLayer := goodIn_ca (goodIn_ca (goodIn_ca (goodIn_ca (goodIn_ca (goodIn_ca (goodIn_r _ [106, 87, 107, 108, 109, 9, 110, 11, 12, 13, 14, 15, 16, 17, 18, 19, 20, 21, 22, 23, 24, 25, 26, 27, 28, 29, 30, 31, 32, 33, 34, 35, 36, 37, 38, 39, 40, 41, 42, 43, 44, 45, 46, 47, 48, 49, 50, 51, 52, 53, 54, 55, 111, 112, 113, 114, 96, 97, 98, 99, 115, 116, 60, 61, 62, 63, 64, 65, 66, 67, 68, 69, 70, 71, 72, 73, 74, 75, 76, 77, 78, 79, 80, 81, 82, 83, 243, 244, 245, 246, 247, 248, 249, 250, 251, 252, 253, 254, 255, 256, 257, 258, 259, 260, 261, 262, 263, 264, 265, 266, 267, 268, 269, 270, 271, 272, 273, 274, 275, 276, 277] rfl (by decide +kernel)) (goodIn_sub (fun _ h => List.mem_cons_of_mem _ (List.mem_append_left _ (List.mem_append_left _ (List.mem_append_left _ (List.mem_append_left _ (List.mem_append_left _ (List.mem_append_right _ h))))))) (by decide +kernel))) (goodIn_sub (fun _ h => List.mem_cons_of_mem _ (List.mem_append_left _ (List.mem_append_left _ (List.mem_append_left _ (List.mem_append_left _ (List.mem_append_right _ h)))))) (by decide +kernel))) (goodIn_sub (fun _ h => List.mem_cons_of_mem _ (List.mem_append_left _ (List.mem_append_left _ (List.mem_append_left _ (List.mem_append_right _ h))))) (by decide +kernel))) (goodIn_sub (fun _ h => List.mem_cons_of_mem _ (List.mem_append_left _ (List.mem_append_left _ (List.mem_append_right _ h)))) (by decide +kernel))) (goodIn_sub (fun _ h => List.mem_cons_of_mem _ (List.mem_append_left _ (List.mem_append_right _ h))) (by decide +kernel))) (goodIn_sub (fun _ h => List.mem_cons_of_mem _ (List.mem_append_right _ h)) (by decide +kernel))
set_option maxRecDepth 20000 in
theorem gL_stock_L_setLayer : GoodIn wsL_stock (va_wsS RL 196 yL_setLayer wsL_setLayer) := goodIn_app (goodIn_of _ (by decide +kernel)) ggL_stock_L_setLayer
set_option maxRecDepth 20000 in
theorem ggL_stock_L_insert : GoodIn wsL_stock wsL_insert := goodIn_ca (goodIn_ca (goodIn_ca (goodIn_ca (goodIn_ca (goodIn_ca (goodIn_r _ [119, 87, 120, 121, 122, 9, 123, 11, 12, 14, 15, 16, 17, 18, 19, 20, 21, 22, 23, 24, 25, 26, 27, 28, 29, 30, 31, 32, 33, 34, 35, 36, 37, 38, 39, 40, 41, 42, 43, 44, 45, 46, 47, 48, 49, 50, 51, 52, 53, 54, 55, 124, 125, 126, 127, 128, 129, 130, 131, 115, 116, 132, 133, 134, 135, 136, 137, 138, 139, 140, 141, 142, 143, 144, 145, 146, 147, 148, 149, 68, 69, 70, 60, 61, 62, 63, 64, 65, 66, 67, 71, 72, 73, 74, 75, 76, 77, 78, 79, 80, 81, 82, 83, 243, 244, 245, 246, 247, 248, 249, 250, 251, 252, 253, 254, 255, 256, 257, 258, 259, 260, 261, 262, 263, 264, 265, 266, 267, 268, 269, 270, 271, 272, 273, 274, 275, 276, 277] rfl (by decide +kernel)) (goodIn_sub (fun _ h => List.mem_cons_of_mem _ (List.mem_append_left _ (List.mem_append_left _ (List.mem_append_left _ (List.mem_append_left _ (List.mem_append_left _ (List.mem_append_right _ h))))))) (by decide +kernel))) (goodIn_sub (fun _ h => List.mem_cons_of_mem _ (List.mem_append_left _ (List.mem_append_left _ (List.mem_append_left _ (List.mem_append_left _ (List.mem_append_right _ h)))))) (by decide +kernel))) (goodIn_sub (fun _ h => List.mem_cons_of_mem _ (List.mem_append_left _ (List.mem_append_left _ (List.mem_append_left _ (List.mem_append_right _ h))))) (by decide +kernel))) (goodIn_sub (fun _ h => List.mem_cons_of_mem _ (List.mem_append_left _ (List.mem_append_left _ (List.mem_append_right _ h)))) (by decide +kernel))) (goodIn_sub (fun _ h => List.mem_cons_of_mem _ (List.mem_append_left _ (List.mem_append_right _ h))) (by decide +kernel))) (goodIn_sub (fun _ h => List.mem_cons_of_mem _ (List.mem_append_right _ h)) (by decide +kernel))
set_option maxRecDepth 20000 in
theorem gL_stock_L_insert : GoodIn wsL_stock (va_wsS RL 206 yL_insert wsL_insert) := goodIn_app (goodIn_of _ (by decide +kernel)) ggL_stock_L_insert
set_option maxRecDepth 20000 in
theorem ggL_stock_L_setRack : GoodIn wsL_stock wsL_setRack := goodIn_ca (goodIn_ca (goodIn_ca (goodIn_ca (goodIn_ca (goodIn_ca (goodIn_r _ [152, 87, 153, 154, 155, 9, 156, 11, 12, 157, 14, 15, 16, 17, 18, 19, 20, 21, 22, 23, 24, 25, 26, 27, 28, 29, 30, 31, 32, 33, 34, 35, 36, 37, 38, 39, 40, 41, 42, 43, 44, 45, 46, 47, 48, 49, 50, 51, 52, 53, 54, 55, 158, 159, 160, 161, 115, 116, 138, 139, 140, 141, 142, 143, 144, 60, 61, 62, 63, 64, 65, 66, 67, 68, 69, 70, 71, 72, 73, 74, 75, 76, 77, 78, 79, 80, 81, 82, 83, 243, 244, 245, 246, 247, 248, 249, 250, 251, 252, 253, 254, 255, 256, 257, 258, 259, 260, 261, 262, 263, 264, 265, 266, 267, 268, 269, 270, 271, 272, 273, 274, 275, 276, 277] rfl (by decide +kernel)) (goodIn_sub (fun _ h => List.mem_cons_of_mem _ (List.mem_append_left _ (List.mem_append_left _ (List.mem_append_left _ (List.mem_append_left _ (List.mem_append_left _ (List.mem_append_right _ h))))))) (by decide +kernel))) (goodIn_sub (fun _ h => List.mem_cons_of_mem _ (List.mem_append_left _ (List.mem_append_left _ (List.mem_append_left _ (List.mem_append_left _ (List.mem_append_right _ h)))))) (by decide +kernel))) (goodIn_sub (fun _ h => List.mem_cons_of_mem _ (List.mem_append_left _ (List.mem_append_left _ (List.mem_append_left _ (List.mem_append_right _ h))))) (by decide +kernel))) (goodIn_sub (fun _ h => List.mem_cons_of_mem _ (List.mem_append_left _ (List.mem_append_left _ (List.mem_append_right _ h)))) (by decide +kernel))) (goodIn_sub (fun _ h => List.mem_cons_of_mem _ (List.mem_append_left _ (List.mem_append_right _ h))) (by decide +kernel))) (goodIn_sub (fun _ h => List.mem_cons_of_mem _ (List.mem_append_right _ h)) (by decide +kernel))
set_option maxRecDepth 20000 in
theorem gL_stock_L_setRack : GoodIn wsL_stock (va_wsS RL 203 yL_setRack wsL_setRack) := goodIn_app (goodIn_of _ (by decide +kernel)) ggL_stock_L_setRack
set_option maxRecDepth 20000 in
theorem ggL_stock_L_excite : GoodIn wsL_stock wsL_excite := goodIn_ca (goodIn_ca (goodIn_ca (goodIn_ca (goodIn_ca (goodIn_ca (goodIn_r _ [164, 87, 165, 166, 167, 168, 169, 9, 170, 11, 12, 13, 171, 14, 15, 16, 17, 18, 19, 20, 21, 22, 23, 24, 25, 26, 27, 28, 29, 30, 31, 32, 33, 34, 35, 36, 37, 38, 39, 40, 41, 42, 43, 44, 45, 46, 47, 48, 49, 50, 51, 52, 53, 54, 55, 172, 173, 174, 175, 176, 177, 97, 98, 99, 178, 179, 180, 145, 146, 147, 148, 149, 68, 69, 70, 60, 61, 62, 63, 64, 65, 66, 67, 71, 72, 73, 74, 75, 76, 77, 78, 79, 80, 81, 82, 83, 243, 244, 245, 246, 247, 248, 249, 250, 251, 252, 253, 254, 255, 256, 257, 258, 259, 260, 261, 262, 263, 264, 265, 266, 267, 268, 269, 270, 271, 272, 273, 274, 275, 276, 277] rfl (by decide +kernel)) (goodIn_sub (fun _ h => List.mem_cons_of_mem _ (List.mem_append_left _ (List.mem_append_left _ (List.mem_append_left _ (List.mem_append_left _ (List.mem_append_left _ (List.mem_append_right _ h))))))) (by decide +kernel))) (goodIn_sub (fun _ h => List.mem_cons_of_mem _ (List.mem_append_left _ (List.mem_append_left _ (List.mem_append_left _ (List.mem_append_left _ (List.mem_append_right _ h)))))) (by decide +kernel))) (goodIn_sub (fun _ h => List.mem_cons_of_mem _ (List.mem_append_left _ (List.mem_append_left _ (List.mem_append_left _ (List.mem_append_right _ h))))) (by decide +kernel))) (goodIn_sub (fun _ h => List.mem_cons_of_mem _ (List.mem_append_left _ (List.mem_append_left _ (List.mem_append_right _ h)))) (by decide +kernel))) (goodIn_sub (fun _ h => List.mem_cons_of_mem _ (List.mem_append_left _ (List.mem_append_right _ h))) (by decide +kernel))) (goodIn_sub (fun _ h => List.mem_cons_of_mem _ (List.mem_append_right _ h)) (by decide +kernel))
set_option maxRecDepth 20000 in
theorem gL_stock_L_excite : GoodIn wsL_stock (va_wsS RL 211 yL_excite wsL_excite) := goodIn_app (goodIn_of _ (by decide +kernel)) ggL_stock_L_excite
set_option maxRecDepth 20000 in
theorem ggL_stock_L_setLimit : GoodIn wsL_stock wsL_setLimit := goodIn_ca (goodIn_ca (goodIn_ca (goodIn_ca (goodIn_ca (goodIn_ca (goodIn_r _ [183, 5, 184, 185, 186, 9, 187, 11, 12, 14, 15, 16, 17, 18, 19, 20, 21, 22, 23, 24, 25, 26, 27, 28, 29, 30, 31, 32, 33, 34, 35, 36, 37, 38, 39, 40, 41, 42, 43, 44, 45, 46, 47, 48, 49, 50, 51, 52, 53, 54, 55, 188, 189, 190, 191, 60, 61, 62, 63, 64, 65, 66, 67, 68, 69, 70, 71, 72, 73, 74, 75, 76, 77, 78, 79, 80, 81, 82, 83, 243, 244, 245, 246, 247, 248, 249, 250, 251, 252, 253, 254, 255, 256, 257, 258, 259, 260, 261, 262, 263, 264, 265, 266, 267, 268, 269, 270, 271, 272, 273, 274, 275, 276, 277] rfl (by decide +kernel)) (goodIn_sub (fun _ h => List.mem_cons_of_mem _ (List.mem_append_left _ (List.mem_append_left _ (List.mem_append_left _ (List.mem_append_left _ (List.mem_append_left _ (List.mem_append_right _ h))))))) (by decide +kernel))) (goodIn_sub (fun _ h => List.mem_cons_of_mem _ (List.mem_append_left _ (List.mem_append_left _ (List.mem_append_left _ (List.mem_append_left _ (List.mem_append_right _ h)))))) (by decide +kernel))) (goodIn_sub (fun _ h => List.mem_cons_of_mem _ (List.mem_append_left _ (List.mem_append_left _ (List.mem_append_left _ (List.mem_append_right _ h))))) (by decide +kernel))) (goodIn_sub (fun _ h => List.mem_cons_of_mem _ (List.mem_append_left _ (List.mem_append_left _ (List.mem_append_right _ h)))) (by decide +kernel))) (goodIn_sub (fun _ h => List.mem_cons_of_mem _ (List.mem_append_left _ (List.mem_append_right _ h))) (by decide +kernel))) (goodIn_sub (fun _ h => List.mem_cons_of_mem _ (List.mem_append_right _ h)) (by decide +kernel))
set_option maxRecDepth 20000 in
theorem gL_stock_L_setLimit : GoodIn wsL_stock (va_wsS RL 214 yL_setLimit wsL_setLimit) := goodIn_app (goodIn_of _ (by decide +kernel)) ggL_stock_L_setLimit
set_option maxRecDepth 20000 in
theorem ggL_stock_L_pass : GoodIn wsL_stock wsL_pass := goodIn_ca (goodIn_ca (goodIn_ca (goodIn_ca (goodIn_ca (goodIn_ca (goodIn_r _ [194, 5, 195, 196, 197, 9, 198, 11, 12, 14, 15, 16, 17, 18, 19, 20, 21, 22, 23, 24, 25, 26, 27, 28, 29, 30, 31, 32, 33, 34, 35, 36, 37, 38, 39, 40, 41, 42, 43, 44, 45, 46, 47, 48, 49, 50, 51, 52, 53, 54, 55, 199, 200, 201, 202, 203, 204, 205, 206, 207, 208, 176, 209, 210, 211, 212, 213, 214, 215, 216, 217, 218, 100, 101, 219, 139, 140, 141, 142, 143, 144, 178, 179, 180, 220, 221, 222, 223, 224, 225, 226, 227, 134, 135, 136, 137, 145, 146, 147, 148, 149, 68, 69, 70, 60, 61, 62, 63, 64, 65, 66, 67, 71, 72, 73, 74, 75, 76, 77, 78, 79, 80, 81, 82, 83, 243, 244, 245, 246, 247, 248, 249, 250, 251, 252, 253, 254, 255, 256, 257, 258, 259, 260, 261, 262, 263, 264, 265, 266, 267, 268, 269, 270, 271, 272, 273, 274, 275, 276, 277] rfl (by decide +kernel)) (goodIn_sub (fun _ h => List.mem_cons_of_mem _ (List.mem_append_left _ (List.mem_append_left _ (List.mem_append_left _ (List.mem_append_left _ (List.mem_append_left _ (List.mem_append_right _ h))))))) (by decide +kernel))) (goodIn_sub (fun _ h => List.mem_cons_of_mem _ (List.mem_append_left _ (List.mem_append_left _ (List.mem_append_left _ (List.mem_append_left _ (List.mem_append_right _ h)))))) (by decide +kernel))) (goodIn_sub (fun _ h => List.mem_cons_of_mem _ (List.mem_append_left _ (List.mem_append_left _ (List.mem_append_left _ (List.mem_append_right _ h))))) (by decide +kernel))) (goodIn_sub (fun _ h => List.mem_cons_of_mem _ (List.mem_append_left _ (List.mem_append_left _ (List.mem_append_right _ h)))) (by decide +kernel))) (goodIn_sub (fun _ h => List.mem_cons_of_mem _ (List.mem_append_left _ (List.mem_append_right _ h))) (by decide +kernel))) (goodIn_sub (fun _ h => List.mem_cons_of_mem _ (List.mem_append_right _ h)) (by decide +kernel))
set_option maxRecDepth 20000 in
theorem gL_stock_L_pass : GoodIn wsL_stock (va_wsS RL 216 yL_pass wsL_pass) := goodIn_app (goodIn_of _ (by decide +kernel)) ggL_stock_L_pass
set_option maxRecDepth 20000 in
theorem ggL_stock_L_withdraw : GoodIn wsL_stock wsL_withdraw := goodIn_ca (goodIn_ca (goodIn_ca (goodIn_ca (goodIn_ca (goodIn_ca (goodIn_r _ [230, 87, 231, 232, 233, 9, 234, 11, 12, 14, 15, 16, 17, 18, 19, 20, 21, 22, 23, 24, 25, 26, 27, 28, 29, 30, 31, 32, 33, 34, 35, 36, 37, 38, 39, 40, 41, 42, 43, 44, 45, 46, 47, 48, 49, 50, 51, 52, 53, 54, 55, 235, 236, 237, 238, 239, 240, 241, 242, 115, 116, 132, 133, 145, 146, 147, 148, 149, 68, 69, 70, 60, 61, 62, 63, 64, 65, 66, 67, 71, 72, 73, 74, 75, 76, 77, 78, 79, 80, 81, 82, 83, 243, 244, 245, 246, 247, 248, 249, 250, 251, 252, 253, 254, 255, 256, 257, 258, 259, 260, 261, 262, 263, 264, 265, 266, 267, 268, 269, 270, 271, 272, 273, 274, 275, 276, 277] rfl (by decide +kernel)) (goodIn_sub (fun _ h => List.mem_cons_of_mem _ (List.mem_append_left _ (List.mem_append_left _ (List.mem_append_left _ (List.mem_append_left _ (List.mem_append_left _ (List.mem_append_right _ h))))))) (by decide +kernel))) (goodIn_sub (fun _ h => List.mem_cons_of_mem _ (List.mem_append_left _ (List.mem_append_left _ (List.mem_append_left _ (List.mem_append_left _ (List.mem_append_right _ h)))))) (by decide +kernel))) (goodIn_sub (fun _ h => List.mem_cons_of_mem _ (List.mem_append_left _ (List.mem_append_left _ (List.mem_append_left _ (List.mem_append_right _ h))))) (by decide +kernel))) (goodIn_sub (fun _ h => List.mem_cons_of_mem _ (List.mem_append_left _ (List.mem_append_left _ (List.mem_append_right _ h)))) (by decide +kernel))) (goodIn_sub (fun _ h => List.mem_cons_of_mem _ (List.mem_append_left _ (List.mem_append_right _ h))) (by decide +kernel))) (goodIn_sub (fun _ h => List.mem_cons_of_mem _ (List.mem_append_right _ h)) (by decide +kernel))
set_option maxRecDepth 20000 in
theorem gL_stock_L_withdraw : GoodIn wsL_stock (va_wsS RL 209 yL_withdraw wsL_withdraw) := goodIn_app (goodIn_of _ (by decide +kernel)) ggL_stock_L_withdraw
theorem dL_stock_0 : decode cL_stock 0 = .ok (.aload_n 0, 1) := by decide +kernel
theorem dL_stock_1 : decode cL_stock 1 = .ok (.bipush 9, 2) := by decide +kernel
theorem dL_stock_3 : decode cL_stock 3 = .ok (.invokestatic 191, 3) := by decide +kernel
theorem dL_stock_6 : decode cL_stock 6 = .ok (.aload_n 0, 1) := by decide +kernel
theorem dL_stock_7 : decode cL_stock 7 = .ok (.iconst 5, 1) := by decide +kernel
theorem dL_stock_8 : decode cL_stock 8 = .ok (.invokestatic 191, 3) := by decide +kernel
theorem dL_stock_11 : decode cL_stock 11 = .ok (.iadd, 1) := by decide +kernel
theorem dL_stock_12 : decode cL_stock 12 = .ok (.aload_n 0, 1) := by decide +kernel
theorem dL_stock_13 : decode cL_stock 13 = .ok (.bipush 30, 2) := by decide +kernel
theorem dL_stock_15 : decode cL_stock 15 = .ok (.invokestatic 191, 3) := by decide +kernel
theorem dL_stock_18 : decode cL_stock 18 = .ok (.iadd, 1) := by decide +kernel
theorem dL_stock_19 : decode cL_stock 19 = .ok (.aload_n 0, 1) := by decide +kernel
theorem dL_stock_20 : decode cL_stock 20 = .ok (.bipush 30, 2) := by decide +kernel
theorem dL_stock_22 : decode cL_stock 22 = .ok (.invokestatic 191, 3) := by decide +kernel
theorem dL_stock_25 : decode cL_stock 25 = .ok (.iadd, 1) := by decide +kernel
theorem dL_stock_26 : decode cL_stock 26 = .ok (.aload_n 0, 1) := by decide +kernel
theorem dL_stock_27 : decode cL_stock 27 = .ok (.iconst 0, 1) := by decide +kernel
theorem dL_stock_28 : decode cL_stock 28 = .ok (.iconst 1, 1) := by decide +kernel
theorem dL_stock_29 : decode cL_stock 29 = .ok (.iconst 1, 1) := by decide +kernel
theorem dL_stock_30 : decode cL_stock 30 = .ok (.invokestatic 193, 3) := by decide +kernel
theorem dL_stock_33 : decode cL_stock 33 = .ok (.iadd, 1) := by decide +kernel
theorem dL_stock_34 : decode cL_stock 34 = .ok (.aload_n 0, 1) := by decide +kernel
theorem dL_stock_35 : decode cL_stock 35 = .ok (.iconst 1, 1) := by decide +kernel
theorem dL_stock_36 : decode cL_stock 36 = .ok (.iconst 2, 1) := by decide +kernel
theorem dL_stock_37 : decode cL_stock 37 = .ok (.iconst 1, 1) := by decide +kernel
theorem dL_stock_38 : decode cL_stock 38 = .ok (.invokestatic 193, 3) := by decide +kernel
theorem dL_stock_41 : decode cL_stock 41 = .ok (.iadd, 1) := by decide +kernel
theorem dL_stock_42 : decode cL_stock 42 = .ok (.aload_n 0, 1) := by decide +kernel
theorem dL_stock_43 : decode cL_stock 43 = .ok (.iconst 2, 1) := by decide +kernel
theorem dL_stock_44 : decode cL_stock 44 = .ok (.iconst 3, 1) := by decide +kernel
theorem dL_stock_45 : decode cL_stock 45 = .ok (.iconst 1, 1) := by decide +kernel
theorem dL_stock_46 : decode cL_stock 46 = .ok (.invokestatic 193, 3) := by decide +kernel
theorem dL_stock_49 : decode cL_stock 49 = .ok (.iadd, 1) := by decide +kernel
theorem dL_stock_50 : decode cL_stock 50 = .ok (.aload_n 0, 1) := by decide +kernel
theorem dL_stock_51 : decode cL_stock 51 = .ok (.iconst 3, 1) := by decide +kernel
theorem dL_stock_52 : decode cL_stock 52 = .ok (.iconst 2, 1) := by decide +kernel
theorem dL_stock_53 : decode cL_stock 53 = .ok (.iconst 1, 1) := by decide +kernel
theorem dL_stock_54 : decode cL_stock 54 = .ok (.invokestatic 193, 3) := by decide +kernel
theorem dL_stock_57 : decode cL_stock 57 = .ok (.iadd, 1) := by decide +kernel
theorem dL_stock_58 : decode cL_stock 58 = .ok (.istore_n 1, 1) := by decide +kernel
theorem dL_stock_59 : decode cL_stock 59 = .ok (.iload_n 1, 1) := by decide +kernel
theorem dL_stock_60 : decode cL_stock 60 = .ok (.aload_n 0, 1) := by decide +kernel
theorem dL_stock_61 : decode cL_stock 61 = .ok (.iconst 2, 1) := by decide +kernel
theorem dL_stock_62 : decode cL_stock 62 = .ok (.iconst 1, 1) := by decide +kernel
theorem dL_stock_63 : decode cL_stock 63 = .ok (.invokestatic 196, 3) := by decide +kernel
theorem dL_stock_66 : decode cL_stock 66 = .ok (.aload_n 0, 1) := by decide +kernel
theorem dL_stock_67 : decode cL_stock 67 = .ok (.iconst 1, 1) := by decide +kernel
theorem dL_stock_68 : decode cL_stock 68 = .ok (.iconst 2, 1) := by decide +kernel
theorem dL_stock_69 : decode cL_stock 69 = .ok (.bipush 111, 2) := by decide +kernel
theorem dL_stock_71 : decode cL_stock 71 = .ok (.invokestatic 206, 3) := by decide +kernel
theorem dL_stock_74 : decode cL_stock 74 = .ok (.iadd, 1) := by decide +kernel
theorem dL_stock_75 : decode cL_stock 75 = .ok (.aload_n 0, 1) := by decide +kernel
theorem dL_stock_76 : decode cL_stock 76 = .ok (.iconst 2, 1) := by decide +kernel
theorem dL_stock_77 : decode cL_stock 77 = .ok (.bipush 113, 2) := by decide +kernel
theorem dL_stock_79 : decode cL_stock 79 = .ok (.invokestatic 203, 3) := by decide +kernel
theorem dL_stock_82 : decode cL_stock 82 = .ok (.iadd, 1) := by decide +kernel
theorem dL_stock_83 : decode cL_stock 83 = .ok (.aload_n 0, 1) := by decide +kernel
theorem dL_stock_84 : decode cL_stock 84 = .ok (.iconst 2, 1) := by decide +kernel
theorem dL_stock_85 : decode cL_stock 85 = .ok (.iconst 0, 1) := by decide +kernel
theorem dL_stock_86 : decode cL_stock 86 = .ok (.bipush 113, 2) := by decide +kernel
theorem dL_stock_88 : decode cL_stock 88 = .ok (.invokestatic 206, 3) := by decide +kernel
theorem dL_stock_91 : decode cL_stock 91 = .ok (.iadd, 1) := by decide +kernel
theorem dL_stock_92 : decode cL_stock 92 = .ok (.aload_n 0, 1) := by decide +kernel
theorem dL_stock_93 : decode cL_stock 93 = .ok (.iconst 2, 1) := by decide +kernel
theorem dL_stock_94 : decode cL_stock 94 = .ok (.sipush 700, 3) := by decide +kernel
theorem dL_stock_97 : decode cL_stock 97 = .ok (.invokestatic 211, 3) := by decide +kernel
theorem dL_stock_100 : decode cL_stock 100 = .ok (.f2i, 1) := by decide +kernel
theorem dL_stock_101 : decode cL_stock 101 = .ok (.iadd, 1) := by decide +kernel
theorem dL_stock_102 : decode cL_stock 102 = .ok (.aload_n 0, 1) := by decide +kernel
theorem dL_stock_103 : decode cL_stock 103 = .ok (.iconst 0, 1) := by decide +kernel
theorem dL_stock_104 : decode cL_stock 104 = .ok (.bipush 90, 2) := by decide +kernel
theorem dL_stock_106 : decode cL_stock 106 = .ok (.invokestatic 211, 3) := by decide +kernel
theorem dL_stock_109 : decode cL_stock 109 = .ok (.f2i, 1) := by decide +kernel
theorem dL_stock_110 : decode cL_stock 110 = .ok (.iadd, 1) := by decide +kernel
theorem dL_stock_111 : decode cL_stock 111 = .ok (.iadd, 1) := by decide +kernel
theorem dL_stock_112 : decode cL_stock 112 = .ok (.istore_n 1, 1) := by decide +kernel
theorem dL_stock_113 : decode cL_stock 113 = .ok (.iload_n 1, 1) := by decide +kernel
theorem dL_stock_114 : decode cL_stock 114 = .ok (.aload_n 0, 1) := by decide +kernel
theorem dL_stock_115 : decode cL_stock 115 = .ok (.sipush 300, 3) := by decide +kernel
theorem dL_stock_118 : decode cL_stock 118 = .ok (.invokestatic 214, 3) := by decide +kernel
theorem dL_stock_121 : decode cL_stock 121 = .ok (.iadd, 1) := by decide +kernel
theorem dL_stock_122 : decode cL_stock 122 = .ok (.aload_n 0, 1) := by decide +kernel
theorem dL_stock_123 : decode cL_stock 123 = .ok (.iconst 2, 1) := by decide +kernel
theorem dL_stock_124 : decode cL_stock 124 = .ok (.invokestatic 216, 3) := by decide +kernel
theorem dL_stock_127 : decode cL_stock 127 = .ok (.iadd, 1) := by decide +kernel
theorem dL_stock_128 : decode cL_stock 128 = .ok (.aload_n 0, 1) := by decide +kernel
theorem dL_stock_129 : decode cL_stock 129 = .ok (.iconst 1, 1) := by decide +kernel
theorem dL_stock_130 : decode cL_stock 130 = .ok (.iconst 2, 1) := by decide +kernel
theorem dL_stock_131 : decode cL_stock 131 = .ok (.invokestatic 209, 3) := by decide +kernel
theorem dL_stock_134 : decode cL_stock 134 = .ok (.iadd, 1) := by decide +kernel
theorem dL_stock_135 : decode cL_stock 135 = .ok (.ireturn, 1) := by decide +kernel
theorem dL_isIn_0 : decode cL_isIn 0 = .ok (.iload_n 0, 1) := by decide +kernel
theorem dL_isIn_1 : decode cL_isIn 1 = .ok (.iload_n 1, 1) := by decide +kernel
theorem dL_isIn_2 : decode cL_isIn 2 = .ok (.ishr, 1) := by decide +kernel
theorem dL_isIn_3 : decode cL_isIn 3 = .ok (.iconst 1, 1) := by decide +kernel
theorem dL_isIn_4 : decode cL_isIn 4 = .ok (.iand, 1) := by decide +kernel
theorem dL_isIn_5 : decode cL_isIn 5 = .ok (.iconst 1, 1) := by decide +kernel
theorem dL_isIn_6 : decode cL_isIn 6 = .ok (.if_icmp .ne 7, 3) := by decide +kernel
theorem dL_isIn_9 : decode cL_isIn 9 = .ok (.iconst 1, 1) := by decide +kernel
theorem dL_isIn_10 : decode cL_isIn 10 = .ok (.goto 4, 3) := by decide +kernel
theorem dL_isIn_13 : decode cL_isIn 13 = .ok (.iconst 0, 1) := by decide +kernel
theorem dL_isIn_14 : decode cL_isIn 14 = .ok (.ireturn, 1) := by decide +kernel
set_option maxRecDepth 20000 in
theorem ggL_hit_X12_claimCount : GoodIn wsL_hit wsX12_claimCount := goodIn_r _ [5, 6, 7, 8, 37, 38, 39, 40, 41, 42, 43, 44, 45, 46, 47, 48, 49, 50, 51, 52, 53, 54, 55, 56, 57, 58, 59, 60, 61, 62, 63, 64, 65] rfl (by decide +kernel)
set_option maxRecDepth 20000 in
theorem gL_hit_X12_claimCount : GoodIn wsL_hit (wsV RL 184 RX12 yX12_claimCount wsX12_claimCount) := goodIn_app (goodIn_of _ (by decide +kernel)) ggL_hit_X12_claimCount
set_option maxRecDepth 20000 in
theorem ggL_hit_L_isIn : GoodIn wsL_hit wsL_isIn := goodIn_r _ [12] rfl (by decide +kernel)
set_option maxRecDepth 20000 in
theorem gL_hit_L_isIn : GoodIn wsL_hit (va_wsS RL 265 yL_isIn wsL_isIn) := goodIn_app (goodIn_of _ (by decide +kernel)) ggL_hit_L_isIn
set_option maxRecDepth 20000 in
theorem ggL_hit_L_attacks : GoodIn wsL_hit wsL_attacks := goodIn_ca (goodIn_ca (goodIn_r _ [15, 16, 17, 18, 19, 4, 20, 6, 7, 21, 22, 23, 24, 25, 26, 27, 28, 29, 30, 31, 32, 33, 34, 35, 36, 37, 38, 39, 40, 41, 42, 43, 44, 45, 46, 47, 48, 49, 50, 51, 52, 53, 54, 55, 56, 57, 58, 59, 60, 61, 62, 63, 64, 65] rfl (by decide +kernel)) (goodIn_sub (fun _ h => List.mem_cons_of_mem _ (List.mem_append_left _ (List.mem_append_right _ h))) (by decide +kernel))) (goodIn_sub (fun _ h => List.mem_cons_of_mem _ (List.mem_append_right _ h)) (by decide +kernel))
set_option maxRecDepth 20000 in
theorem gL_hit_L_attacks : GoodIn wsL_hit (va_wsS RL 268 yL_attacks wsL_attacks) := goodIn_app (goodIn_of _ (by decide +kernel)) ggL_hit_L_attacks
theorem dL_hit_0 : decode cL_hit 0 = .ok (.iconst 0, 1) := by decide +kernel
theorem dL_hit_1 : decode cL_hit 1 = .ok (.istore_n 2, 1) := by decide +kernel
theorem dL_hit_2 : decode cL_hit 2 = .ok (.iconst 0, 1) := by decide +kernel
theorem dL_hit_3 : decode cL_hit 3 = .ok (.istore_n 3, 1) := by decide +kernel
theorem dL_hit_4 : decode cL_hit 4 = .ok (.iload_n 3, 1) := by decide +kernel
theorem dL_hit_5 : decode cL_hit 5 = .ok (.aload_n 0, 1) := by decide +kernel
theorem dL_hit_6 : decode cL_hit 6 = .ok (.invokevirtual 184, 3) := by decide +kernel
theorem dL_hit_9 : decode cL_hit 9 = .ok (.if_icmp .ge 57, 3) := by decide +kernel
theorem dL_hit_12 : decode cL_hit 12 = .ok (.iconst 0, 1) := by decide +kernel
theorem dL_hit_13 : decode cL_hit 13 = .ok (.istore 4, 2) := by decide +kernel
theorem dL_hit_15 : decode cL_hit 15 = .ok (.iload 4, 2) := by decide +kernel
theorem dL_hit_17 : decode cL_hit 17 = .ok (.aload_n 0, 1) := by decide +kernel
theorem dL_hit_18 : decode cL_hit 18 = .ok (.invokevirtual 184, 3) := by decide +kernel
theorem dL_hit_21 : decode cL_hit 21 = .ok (.if_icmp .ge 39, 3) := by decide +kernel
theorem dL_hit_24 : decode cL_hit 24 = .ok (.iload_n 2, 1) := by decide +kernel
theorem dL_hit_25 : decode cL_hit 25 = .ok (.iload_n 1, 1) := by decide +kernel
theorem dL_hit_26 : decode cL_hit 26 = .ok (.iload_n 3, 1) := by decide +kernel
theorem dL_hit_27 : decode cL_hit 27 = .ok (.invokestatic 265, 3) := by decide +kernel
theorem dL_hit_30 : decode cL_hit 30 = .ok (.ifCond .eq 21, 3) := by decide +kernel
theorem dL_hit_33 : decode cL_hit 33 = .ok (.aload_n 0, 1) := by decide +kernel
theorem dL_hit_34 : decode cL_hit 34 = .ok (.iload_n 3, 1) := by decide +kernel
theorem dL_hit_35 : decode cL_hit 35 = .ok (.iload 4, 2) := by decide +kernel
theorem dL_hit_37 : decode cL_hit 37 = .ok (.invokestatic 268, 3) := by decide +kernel
theorem dL_hit_40 : decode cL_hit 40 = .ok (.iconst 1, 1) := by decide +kernel
theorem dL_hit_41 : decode cL_hit 41 = .ok (.if_icmp .ne 10, 3) := by decide +kernel
theorem dL_hit_44 : decode cL_hit 44 = .ok (.iconst 1, 1) := by decide +kernel
theorem dL_hit_45 : decode cL_hit 45 = .ok (.iload 4, 2) := by decide +kernel
theorem dL_hit_47 : decode cL_hit 47 = .ok (.ishl, 1) := by decide +kernel
theorem dL_hit_48 : decode cL_hit 48 = .ok (.goto 4, 3) := by decide +kernel
theorem dL_hit_51 : decode cL_hit 51 = .ok (.iconst 0, 1) := by decide +kernel
theorem dL_hit_52 : decode cL_hit 52 = .ok (.ior, 1) := by decide +kernel
theorem dL_hit_53 : decode cL_hit 53 = .ok (.istore_n 2, 1) := by decide +kernel
theorem dL_hit_54 : decode cL_hit 54 = .ok (.iinc 4 1, 3) := by decide +kernel
theorem dL_hit_57 : decode cL_hit 57 = .ok (.goto (-42), 3) := by decide +kernel
theorem dL_hit_60 : decode cL_hit 60 = .ok (.iinc 3 1, 3) := by decide +kernel
theorem dL_hit_63 : decode cL_hit 63 = .ok (.goto (-59), 3) := by decide +kernel
theorem dL_hit_66 : decode cL_hit 66 = .ok (.iload_n 2, 1) := by decide +kernel
theorem dL_hit_67 : decode cL_hit 67 = .ok (.ireturn, 1) := by decide +kernel
set_option maxRecDepth 20000 in
theorem ggL_attackers_X12_claimCount : GoodIn wsL_attackers wsX12_claimCount := goodIn_r _ [5, 6, 7, 8, 34, 35, 36, 37, 38, 39, 40, 41, 42, 43, 44, 45, 46, 47, 48, 49, 50, 51, 52, 53, 54, 55, 56, 57, 58, 59, 60, 61, 62] rfl (by decide +kernel)
set_option maxRecDepth 20000 in
theorem gL_attackers_X12_claimCount : GoodIn wsL_attackers (wsV RL 184 RX12 yX12_claimCount wsX12_claimCount) := goodIn_app (goodIn_of _ (by decide +kernel)) ggL_attackers_X12_claimCount
set_option maxRecDepth 20000 in
theorem ggL_attackers_L_attacks : GoodIn wsL_attackers wsL_attacks := goodIn_ca (goodIn_ca (goodIn_r _ [12, 13, 14, 15, 16, 4, 17, 6, 7, 18, 19, 20, 21, 22, 23, 24, 25, 26, 27, 28, 29, 30, 31, 32, 33, 34, 35, 36, 37, 38, 39, 40, 41, 42, 43, 44, 45, 46, 47, 48, 49, 50, 51, 52, 53, 54, 55, 56, 57, 58, 59, 60, 61, 62] rfl (by decide +kernel)) (goodIn_sub (fun _ h => List.mem_cons_of_mem _ (List.mem_append_left _ (List.mem_append_right _ h))) (by decide +kernel))) (goodIn_sub (fun _ h => List.mem_cons_of_mem _ (List.mem_append_right _ h)) (by decide +kernel))
set_option maxRecDepth 20000 in
theorem gL_attackers_L_attacks : GoodIn wsL_attackers (va_wsS RL 268 yL_attacks wsL_attacks) := goodIn_app (goodIn_of _ (by decide +kernel)) ggL_attackers_L_attacks
theorem dL_attackers_0 : decode cL_attackers 0 = .ok (.iconst 0, 1) := by decide +kernel
theorem dL_attackers_1 : decode cL_attackers 1 = .ok (.istore_n 2, 1) := by decide +kernel
theorem dL_attackers_2 : decode cL_attackers 2 = .ok (.iconst 0, 1) := by decide +kernel
theorem dL_attackers_3 : decode cL_attackers 3 = .ok (.istore_n 3, 1) := by decide +kernel
theorem dL_attackers_4 : decode cL_attackers 4 = .ok (.iload_n 3, 1) := by decide +kernel
theorem dL_attackers_5 : decode cL_attackers 5 = .ok (.aload_n 0, 1) := by decide +kernel
theorem dL_attackers_6 : decode cL_attackers 6 = .ok (.invokevirtual 184, 3) := by decide +kernel
theorem dL_attackers_9 : decode cL_attackers 9 = .ok (.if_icmp .ge 29, 3) := by decide +kernel
theorem dL_attackers_12 : decode cL_attackers 12 = .ok (.iload_n 2, 1) := by decide +kernel
theorem dL_attackers_13 : decode cL_attackers 13 = .ok (.aload_n 0, 1) := by decide +kernel
theorem dL_attackers_14 : decode cL_attackers 14 = .ok (.iload_n 3, 1) := by decide +kernel
theorem dL_attackers_15 : decode cL_attackers 15 = .ok (.iload_n 1, 1) := by decide +kernel
theorem dL_attackers_16 : decode cL_attackers 16 = .ok (.invokestatic 268, 3) := by decide +kernel
theorem dL_attackers_19 : decode cL_attackers 19 = .ok (.iconst 1, 1) := by decide +kernel
theorem dL_attackers_20 : decode cL_attackers 20 = .ok (.if_icmp .ne 9, 3) := by decide +kernel
theorem dL_attackers_23 : decode cL_attackers 23 = .ok (.iconst 1, 1) := by decide +kernel
theorem dL_attackers_24 : decode cL_attackers 24 = .ok (.iload_n 3, 1) := by decide +kernel
theorem dL_attackers_25 : decode cL_attackers 25 = .ok (.ishl, 1) := by decide +kernel
theorem dL_attackers_26 : decode cL_attackers 26 = .ok (.goto 4, 3) := by decide +kernel
theorem dL_attackers_29 : decode cL_attackers 29 = .ok (.iconst 0, 1) := by decide +kernel
theorem dL_attackers_30 : decode cL_attackers 30 = .ok (.ior, 1) := by decide +kernel
theorem dL_attackers_31 : decode cL_attackers 31 = .ok (.istore_n 2, 1) := by decide +kernel
theorem dL_attackers_32 : decode cL_attackers 32 = .ok (.iinc 3 1, 3) := by decide +kernel
theorem dL_attackers_35 : decode cL_attackers 35 = .ok (.goto (-31), 3) := by decide +kernel
theorem dL_attackers_38 : decode cL_attackers 38 = .ok (.iload_n 2, 1) := by decide +kernel
theorem dL_attackers_39 : decode cL_attackers 39 = .ok (.ireturn, 1) := by decide +kernel
set_option maxRecDepth 20000 in
theorem ggL_isWhole_L_hit : GoodIn wsL_isWhole wsL_hit := goodIn_ca (goodIn_ca (goodIn_r _ [4, 5, 6, 7, 8, 9, 10, 11, 12, 13, 14, 3, 15, 16, 17, 18, 19, 20, 21, 22, 23, 24, 25, 26, 27, 28, 29, 30, 31, 32, 33, 34, 35, 36, 37, 38, 39, 43, 44, 45, 46, 47, 48, 49, 50, 51, 52, 53, 54, 55, 56, 57, 58, 59, 60, 61, 62, 63, 64, 65, 66, 67, 68, 69, 70, 71] rfl (by decide +kernel)) (goodIn_sub (fun _ h => List.mem_cons_of_mem _ (List.mem_append_left _ (List.mem_append_right _ h))) (by decide +kernel))) (goodIn_sub (fun _ h => List.mem_cons_of_mem _ (List.mem_append_right _ h)) (by decide +kernel))
set_option maxRecDepth 20000 in
theorem gL_isWhole_L_hit : GoodIn wsL_isWhole (va_wsS RL 270 yL_hit wsL_hit) := goodIn_app (goodIn_of _ (by decide +kernel)) ggL_isWhole_L_hit
set_option maxRecDepth 20000 in
theorem ggL_isWhole_X12_claimCount : GoodIn wsL_isWhole wsX12_claimCount := goodIn_r _ [9, 10, 11, 12, 43, 44, 45, 46, 47, 48, 49, 50, 51, 52, 53, 54, 55, 56, 57, 58, 59, 60, 61, 62, 63, 64, 65, 66, 67, 68, 69, 70, 71] rfl (by decide +kernel)
set_option maxRecDepth 20000 in
theorem gL_isWhole_X12_claimCount : GoodIn wsL_isWhole (wsV RL 184 RX12 yX12_claimCount wsX12_claimCount) := goodIn_app (goodIn_of _ (by decide +kernel)) ggL_isWhole_X12_claimCount
set_option maxRecDepth 20000 in
theorem ggL_isWhole_L_isIn : GoodIn wsL_isWhole wsL_isIn := goodIn_r _ [15] rfl (by decide +kernel)
set_option maxRecDepth 20000 in
theorem gL_isWhole_L_isIn : GoodIn wsL_isWhole (va_wsS RL 265 yL_isIn wsL_isIn) := goodIn_app (goodIn_of _ (by decide +kernel)) ggL_isWhole_L_isIn
set_option maxRecDepth 20000 in
theorem ggL_isWhole_L_attackers : GoodIn wsL_isWhole wsL_attackers := goodIn_ca (goodIn_ca (goodIn_r _ [42, 5, 6, 7, 8, 9, 10, 11, 12, 16, 17, 3, 18, 19, 20, 21, 22, 23, 24, 25, 26, 27, 28, 29, 30, 31, 32, 33, 34, 35, 36, 37, 38, 39, 43, 44, 45, 46, 47, 48, 49, 50, 51, 52, 53, 54, 55, 56, 57, 58, 59, 60, 61, 62, 63, 64, 65, 66, 67, 68, 69, 70, 71] rfl (by decide +kernel)) (goodIn_sub (fun _ h => List.mem_cons_of_mem _ (List.mem_append_left _ (List.mem_append_right _ h))) (by decide +kernel))) (goodIn_sub (fun _ h => List.mem_cons_of_mem _ (List.mem_append_right _ h)) (by decide +kernel))
set_option maxRecDepth 20000 in
theorem gL_isWhole_L_attackers : GoodIn wsL_isWhole (va_wsS RL 273 yL_attackers wsL_attackers) := goodIn_app (goodIn_of _ (by decide +kernel)) ggL_isWhole_L_attackers
theorem dL_isWhole_0 : decode cL_isWhole 0 = .ok (.aload_n 0, 1) := by decide +kernel
theorem dL_isWhole_1 : decode cL_isWhole 1 = .ok (.iload_n 1, 1) := by decide +kernel
theorem dL_isWhole_2 : decode cL_isWhole 2 = .ok (.invokestatic 270, 3) := by decide +kernel
theorem dL_isWhole_5 : decode cL_isWhole 5 = .ok (.istore_n 2, 1) := by decide +kernel
theorem dL_isWhole_6 : decode cL_isWhole 6 = .ok (.iload_n 2, 1) := by decide +kernel
theorem dL_isWhole_7 : decode cL_isWhole 7 = .ok (.iload_n 1, 1) := by decide +kernel
theorem dL_isWhole_8 : decode cL_isWhole 8 = .ok (.iand, 1) := by decide +kernel
theorem dL_isWhole_9 : decode cL_isWhole 9 = .ok (.ifCond .ne 7, 3) := by decide +kernel
theorem dL_isWhole_12 : decode cL_isWhole 12 = .ok (.iconst 1, 1) := by decide +kernel
theorem dL_isWhole_13 : decode cL_isWhole 13 = .ok (.goto 4, 3) := by decide +kernel
theorem dL_isWhole_16 : decode cL_isWhole 16 = .ok (.iconst 0, 1) := by decide +kernel
theorem dL_isWhole_17 : decode cL_isWhole 17 = .ok (.istore_n 3, 1) := by decide +kernel
theorem dL_isWhole_18 : decode cL_isWhole 18 = .ok (.iconst 0, 1) := by decide +kernel
theorem dL_isWhole_19 : decode cL_isWhole 19 = .ok (.istore 4, 2) := by decide +kernel
theorem dL_isWhole_21 : decode cL_isWhole 21 = .ok (.iload 4, 2) := by decide +kernel
theorem dL_isWhole_23 : decode cL_isWhole 23 = .ok (.aload_n 0, 1) := by decide +kernel
theorem dL_isWhole_24 : decode cL_isWhole 24 = .ok (.invokevirtual 184, 3) := by decide +kernel
theorem dL_isWhole_27 : decode cL_isWhole 27 = .ok (.if_icmp .ge 39, 3) := by decide +kernel
theorem dL_isWhole_30 : decode cL_isWhole 30 = .ok (.iload_n 3, 1) := by decide +kernel
theorem dL_isWhole_31 : decode cL_isWhole 31 = .ok (.iload_n 1, 1) := by decide +kernel
theorem dL_isWhole_32 : decode cL_isWhole 32 = .ok (.iload 4, 2) := by decide +kernel
theorem dL_isWhole_34 : decode cL_isWhole 34 = .ok (.invokestatic 265, 3) := by decide +kernel
theorem dL_isWhole_37 : decode cL_isWhole 37 = .ok (.ifCond .eq 16, 3) := by decide +kernel
theorem dL_isWhole_40 : decode cL_isWhole 40 = .ok (.aload_n 0, 1) := by decide +kernel
theorem dL_isWhole_41 : decode cL_isWhole 41 = .ok (.iload 4, 2) := by decide +kernel
theorem dL_isWhole_43 : decode cL_isWhole 43 = .ok (.invokestatic 273, 3) := by decide +kernel
theorem dL_isWhole_46 : decode cL_isWhole 46 = .ok (.iload_n 2, 1) := by decide +kernel
theorem dL_isWhole_47 : decode cL_isWhole 47 = .ok (.iconst (-1), 1) := by decide +kernel
theorem dL_isWhole_48 : decode cL_isWhole 48 = .ok (.ixor, 1) := by decide +kernel
theorem dL_isWhole_49 : decode cL_isWhole 49 = .ok (.iand, 1) := by decide +kernel
theorem dL_isWhole_50 : decode cL_isWhole 50 = .ok (.ifCond .ne 7, 3) := by decide +kernel
theorem dL_isWhole_53 : decode cL_isWhole 53 = .ok (.iconst 1, 1) := by decide +kernel
theorem dL_isWhole_54 : decode cL_isWhole 54 = .ok (.goto 4, 3) := by decide +kernel
theorem dL_isWhole_57 : decode cL_isWhole 57 = .ok (.iconst 0, 1) := by decide +kernel
theorem dL_isWhole_58 : decode cL_isWhole 58 = .ok (.iand, 1) := by decide +kernel
theorem dL_isWhole_59 : decode cL_isWhole 59 = .ok (.istore_n 3, 1) := by decide +kernel
theorem dL_isWhole_60 : decode cL_isWhole 60 = .ok (.iinc 4 1, 3) := by decide +kernel
theorem dL_isWhole_63 : decode cL_isWhole 63 = .ok (.goto (-42), 3) := by decide +kernel
theorem dL_isWhole_66 : decode cL_isWhole 66 = .ok (.iload_n 3, 1) := by decide +kernel
theorem dL_isWhole_67 : decode cL_isWhole 67 = .ok (.ireturn, 1) := by decide +kernel
set_option maxRecDepth 20000 in
theorem ggL_claims_X12_claimCount : GoodIn wsL_claims wsX12_claimCount := goodIn_r _ [9, 10, 11, 12, 451, 452, 453, 454, 455, 456, 457, 458, 459, 460, 461, 462, 463, 464, 465, 466, 467, 468, 469, 470, 471, 472, 473, 474, 475, 476, 477, 478, 479] rfl (by decide +kernel)
set_option maxRecDepth 20000 in
theorem gL_claims_X12_claimCount : GoodIn wsL_claims (wsV RL 184 RX12 yX12_claimCount wsX12_claimCount) := goodIn_app (goodIn_of _ (by decide +kernel)) ggL_claims_X12_claimCount
set_option maxRecDepth 20000 in
theorem ggL_claims_X12_acceptedBits : GoodIn wsL_claims wsX12_acceptedBits := goodIn_ca (goodIn_r _ [16, 10, 11, 17, 18, 19, 20, 21, 22, 23, 24, 25, 26, 27, 28, 29, 30, 31, 32, 33, 8, 34, 35, 36, 451, 452, 453, 454, 455, 456, 457, 458, 459, 460, 461, 462, 463, 464, 465, 466, 467, 468, 469, 470, 471, 472, 473, 474, 475, 476, 477, 478, 479] rfl (by decide +kernel)) (goodIn_sub (fun _ h => List.mem_cons_of_mem _ (List.mem_append_left _ (List.mem_append_left _ (List.mem_append_right _ h)))) (by decide +kernel))
set_option maxRecDepth 20000 in
theorem gL_claims_X12_acceptedBits : GoodIn wsL_claims (wsV RL 276 RX12 yX12_acceptedBits wsX12_acceptedBits) := goodIn_app (goodIn_of _ (by decide +kernel)) ggL_claims_X12_acceptedBits
set_option maxRecDepth 20000 in
theorem ggL_claims_L_hit : GoodIn wsL_claims wsL_hit := goodIn_ca (goodIn_ca (goodIn_r _ [40, 5, 6, 7, 8, 9, 10, 11, 12, 41, 42, 39, 43, 44, 45, 46, 47, 48, 49, 50, 51, 52, 53, 54, 55, 56, 57, 58, 59, 60, 61, 29, 62, 31, 63, 33, 34, 451, 452, 453, 454, 455, 456, 457, 458, 459, 460, 461, 462, 463, 464, 465, 466, 467, 468, 469, 470, 471, 472, 473, 474, 475, 476, 477, 478, 479] rfl (by decide +kernel)) (goodIn_sub (fun _ h => List.mem_cons_of_mem _ (List.mem_append_left _ (List.mem_append_left _ (List.mem_append_right _ h)))) (by decide +kernel))) (goodIn_sub (fun _ h => List.mem_cons_of_mem _ (List.mem_append_left _ (List.mem_append_right _ h))) (by decide +kernel))
set_option maxRecDepth 20000 in
theorem gL_claims_L_hit : GoodIn wsL_claims (va_wsS RL 270 yL_hit wsL_hit) := goodIn_app (goodIn_of _ (by decide +kernel)) ggL_claims_L_hit
set_option maxRecDepth 20000 in
theorem ggL_claims_X12_acceptedBitsByLabels : GoodIn wsL_claims wsX12_acceptedBitsByLabels := goodIn_ca (goodIn_r _ [67, 68, 10, 11, 69, 70, 71, 19, 72, 21, 73, 25, 74, 75, 76, 77, 78, 79, 80, 81, 82, 83, 84, 85, 33, 8, 34, 35, 36, 86, 87, 88, 89, 451, 452, 453, 454, 455, 456, 457, 458, 459, 460, 461, 462, 463, 464, 465, 466, 467, 468, 469, 470, 471, 472, 473, 474, 475, 476, 477, 478, 479, 480] rfl (by decide +kernel)) (goodIn_sub (fun _ h => List.mem_cons_of_mem _ (List.mem_append_left _ (List.mem_append_left _ (List.mem_append_right _ h)))) (by decide +kernel))
set_option maxRecDepth 20000 in
theorem gL_claims_X12_acceptedBitsByLabels : GoodIn wsL_claims (wsV RL 279 RX12 yX12_acceptedBitsByLabels wsX12_acceptedBitsByLabels) := goodIn_app (goodIn_of _ (by decide +kernel)) ggL_claims_X12_acceptedBitsByLabels
set_option maxRecDepth 20000 in
theorem ggL_claims_L_isWhole : GoodIn wsL_claims wsL_isWhole := goodIn_ca (goodIn_ca (goodIn_r _ [92, 37, 38, 39, 40, 5, 6, 7, 8, 9, 10, 11, 12, 41, 42, 43, 44, 45, 46, 47, 48, 49, 50, 51, 52, 53, 54, 55, 56, 57, 58, 59, 60, 61, 29, 62, 31, 63, 33, 34, 93, 94, 95, 451, 452, 453, 454, 455, 456, 457, 458, 459, 460, 461, 462, 463, 464, 465, 466, 467, 468, 469, 470, 471, 472, 473, 474, 475, 476, 477, 478, 479] rfl (by decide +kernel)) (goodIn_sub (fun _ h => List.mem_cons_of_mem _ (List.mem_append_left _ (List.mem_append_left _ (List.mem_append_right _ h)))) (by decide +kernel))) (goodIn_sub (fun _ h => List.mem_cons_of_mem _ (List.mem_append_left _ (List.mem_append_right _ h))) (by decide +kernel))
set_option maxRecDepth 20000 in
theorem gL_claims_L_isWhole : GoodIn wsL_claims (va_wsS RL 282 yL_isWhole wsL_isWhole) := goodIn_app (goodIn_of _ (by decide +kernel)) ggL_claims_L_isWhole
set_option maxRecDepth 20000 in
theorem ggL_claims_X12_undecidedCount : GoodIn wsL_claims wsX12_undecidedCount := goodIn_ca (goodIn_r _ [99, 10, 11, 100, 101, 102, 29, 103, 31, 35, 8, 36, 104, 14, 15, 16, 17, 18, 19, 20, 21, 22, 23, 24, 25, 26, 27, 28, 30, 32, 33, 34, 105, 106, 107, 108, 109, 110, 76, 77, 78, 79, 80, 81, 451, 452, 453, 454, 455, 456, 457, 458, 459, 460, 461, 462, 463, 464, 465, 466, 467, 468, 469, 470, 471, 472, 473, 474, 475, 476, 477, 478, 479] rfl (by decide +kernel)) (goodIn_sub (fun _ h => List.mem_cons_of_mem _ (List.mem_append_left _ (List.mem_append_left _ (List.mem_append_right _ h)))) (by decide +kernel))
set_option maxRecDepth 20000 in
theorem gL_claims_X12_undecidedCount : GoodIn wsL_claims (wsV RL 286 RX12 yX12_undecidedCount wsX12_undecidedCount) := goodIn_app (goodIn_of _ (by decide +kernel)) ggL_claims_X12_undecidedCount
set_option maxRecDepth 20000 in
theorem ggL_claims_J6_bitCount_0f7a4 : GoodIn wsL_claims wsJ6_bitCount_0f7a4 := goodIn_r _ [78, 79, 80, 81] rfl (by decide +kernel)
set_option maxRecDepth 20000 in
theorem gL_claims_J6_bitCount_0f7a4 : GoodIn wsL_claims (va_wsS RL 289 yJ6_bitCount_0f7a4 wsJ6_bitCount_0f7a4) := goodIn_app (goodIn_of _ (by decide +kernel)) ggL_claims_J6_bitCount_0f7a4
set_option maxRecDepth 20000 in
theorem ggL_claims_L_weightOf : GoodIn wsL_claims wsL_weightOf := goodIn_ca (goodIn_ca (goodIn_r _ [114, 47, 115, 116, 117, 8, 118, 10, 11, 119, 53, 54, 55, 56, 57, 58, 59, 60, 61, 29, 62, 31, 451, 452, 453, 454, 455, 456, 457, 458, 459, 460, 461, 462, 463, 464, 465, 466, 467, 468, 469, 470, 471, 472, 473, 474, 475, 476, 477, 478, 479] rfl (by decide +kernel)) (goodIn_sub (fun _ h => List.mem_cons_of_mem _ (List.mem_append_left _ (List.mem_append_left _ (List.mem_append_right _ h)))) (by decide +kernel))) (goodIn_sub (fun _ h => List.mem_cons_of_mem _ (List.mem_append_left _ (List.mem_append_right _ h))) (by decide +kernel))
set_option maxRecDepth 20000 in
theorem gL_claims_L_weightOf : GoodIn wsL_claims (va_wsS RL 233 yL_weightOf wsL_weightOf) := goodIn_app (goodIn_of _ (by decide +kernel)) ggL_claims_L_weightOf
set_option maxRecDepth 20000 in
theorem ggL_claims_J4_init_da8c8 : GoodIn wsL_claims wsJ4_init_da8c8 := goodIn_r _ [122, 123, 124, 125, 126, 127, 128, 129, 130, 131, 132, 133, 134, 135, 136, 137, 138, 139, 140, 141, 447, 448, 449, 450] rfl (by decide +kernel)
set_option maxRecDepth 20000 in
theorem gL_claims_J4_init_da8c8 : GoodIn wsL_claims (wsJ4_init_da8c8) := ggL_claims_J4_init_da8c8
set_option maxRecDepth 20000 in
theorem ggL_claims_J4_append_bf812 : GoodIn wsL_claims wsJ4_append_bf812 := goodIn_r _ [145, 146, 147, 148, 149, 125, 150, 151, 132, 152, 153, 77, 154, 155, 156, 157, 158, 159, 133, 160, 161, 162, 163, 164, 165, 166, 167, 168, 169, 170, 171, 172, 173, 174, 175, 176, 177, 178, 179, 180, 181, 182, 183, 184, 185, 186, 187, 131, 188, 189, 190, 191, 192, 193, 194, 195, 196, 197, 198, 199, 130, 200, 201, 202, 203, 204, 205, 206, 136, 207, 208, 209, 210, 211, 212, 213, 214, 215, 216, 217, 218, 219, 220, 221, 222, 223, 224, 225, 226, 227, 228, 229, 230, 231, 232, 233, 447, 448, 449, 450] rfl (by decide +kernel)
set_option maxRecDepth 20000 in
theorem gL_claims_J4_append_bf812 : GoodIn wsL_claims (wsV RL 235 RJ4 yJ4_append_bf812 wsJ4_append_bf812) := goodIn_app (goodIn_of _ (by decide +kernel)) ggL_claims_J4_append_bf812
set_option maxRecDepth 20000 in
theorem ggL_claims_L_isIn : GoodIn wsL_claims wsL_isIn := goodIn_r _ [43] rfl (by decide +kernel)
set_option maxRecDepth 20000 in
theorem gL_claims_L_isIn : GoodIn wsL_claims (va_wsS RL 265 yL_isIn wsL_isIn) := goodIn_app (goodIn_of _ (by decide +kernel)) ggL_claims_L_isIn
set_option maxRecDepth 20000 in
theorem ggL_claims_J4_append_15ec4 : GoodIn wsL_claims wsJ4_append_15ec4 := goodIn_r _ [237, 238, 239, 148, 240, 125, 241, 151, 242, 243, 244, 245, 246, 132, 155, 156, 157, 158, 159, 133, 160, 161, 162, 163, 164, 165, 166, 167, 168, 169, 170, 171, 172, 173, 174, 175, 176, 177, 178, 179, 180, 181, 182, 183, 184, 185, 186, 187, 131, 188, 189, 190, 191, 192, 193, 194, 195, 196, 197, 198, 199, 130, 247, 248, 136, 249, 208, 209, 210, 211, 212, 213, 214, 215, 216, 217, 218, 219, 220, 221, 222, 223, 229, 230, 231, 232, 233, 250, 251, 252, 253, 254, 255, 256, 257, 258, 259, 260, 261, 262, 263, 264, 265, 266, 267, 268, 269, 270, 271, 272, 273, 274, 275, 276, 134, 135, 137, 138, 139, 140, 141, 277, 278, 279, 280, 281, 282, 283, 284, 285, 286, 287, 288, 289, 290, 291, 292, 293, 294, 295, 296, 297, 298, 447, 448, 449, 450, 481, 482, 483, 484] rfl (by decide +kernel)
set_option maxRecDepth 20000 in
theorem gL_claims_J4_append_15ec4 : GoodIn wsL_claims (wsV RL 230 RJ4 yJ4_append_15ec4 wsJ4_append_15ec4) := goodIn_app (goodIn_of _ (by decide +kernel)) ggL_claims_J4_append_15ec4
set_option maxRecDepth 20000 in
theorem ggL_claims_J4_toString_0e30d : GoodIn wsL_claims wsJ4_toString_0e30d := goodIn_r _ [302, 303, 304, 217, 305, 306, 307, 308, 309, 310, 311, 128, 129, 260, 254, 259, 312, 313, 314, 315, 316, 125, 317, 132, 318, 319, 320, 321, 322, 3, 323, 324, 148, 325, 326, 151, 327, 196, 197, 198, 199, 130, 133, 328, 329, 180, 330, 182, 183, 184, 185, 186, 187, 331, 332, 333, 131, 188, 189, 172, 190, 191, 192, 193, 194, 334, 335, 336, 337, 2, 338, 339, 136, 340, 341, 342, 343, 284, 285, 286, 212, 213, 214, 287, 288, 289, 219, 290, 291, 222, 292, 344, 345, 346, 208, 232, 233, 138, 139, 140, 141, 347, 348, 349, 350, 481, 482, 483, 484, 447, 448, 449, 450] rfl (by decide +kernel)
set_option maxRecDepth 20000 in
theorem gL_claims_J4_toString_0e30d : GoodIn wsL_claims (wsV RL 159 RJ4 yJ4_toString_0e30d wsJ4_toString_0e30d) := goodIn_app (goodIn_of _ (by decide +kernel)) ggL_claims_J4_toString_0e30d
set_option maxRecDepth 20000 in
theorem ggL_claims_J4_init_a7421 : GoodIn wsL_claims wsJ4_init_a7421 := goodIn_r _ [353, 354, 355, 125, 356, 127, 128, 129, 357, 165, 133, 131, 132, 250, 251, 252, 217, 253, 254, 255, 256, 257, 258, 259, 260, 271, 134, 135, 136, 137, 138, 139, 140, 141, 358, 239, 359, 360, 361, 3, 362, 363, 235, 236, 237, 238, 148, 240, 241, 151, 242, 243, 244, 245, 246, 155, 156, 157, 158, 159, 160, 161, 162, 163, 164, 166, 167, 168, 169, 170, 171, 172, 173, 174, 175, 176, 177, 178, 179, 180, 181, 182, 183, 184, 185, 186, 187, 188, 189, 190, 191, 192, 193, 194, 195, 196, 197, 198, 199, 130, 247, 248, 249, 208, 209, 210, 211, 212, 213, 214, 215, 216, 218, 219, 220, 221, 222, 223, 229, 230, 231, 232, 233, 261, 262, 263, 264, 265, 266, 267, 268, 269, 270, 272, 273, 274, 275, 276, 277, 278, 279, 280, 281, 282, 283, 284, 285, 286, 287, 288, 289, 290, 291, 292, 293, 294, 295, 296, 297, 298, 447, 448, 449, 450, 481, 482, 483, 484] rfl (by decide +kernel)
set_option maxRecDepth 20000 in
theorem gL_claims_J4_init_a7421 : GoodIn wsL_claims (wsJ4_init_a7421) := ggL_claims_J4_init_a7421
set_option maxRecDepth 20000 in
theorem ggL_claims_L_attacks : GoodIn wsL_claims wsL_attacks := goodIn_ca (goodIn_ca (goodIn_r _ [46, 47, 48, 49, 50, 8, 51, 10, 11, 52, 53, 54, 55, 56, 57, 58, 59, 60, 61, 29, 62, 31, 63, 33, 34, 451, 452, 453, 454, 455, 456, 457, 458, 459, 460, 461, 462, 463, 464, 465, 466, 467, 468, 469, 470, 471, 472, 473, 474, 475, 476, 477, 478, 479] rfl (by decide +kernel)) (goodIn_sub (fun _ h => List.mem_cons_of_mem _ (List.mem_append_left _ (List.mem_append_left _ (List.mem_append_right _ h)))) (by decide +kernel))) (goodIn_sub (fun _ h => List.mem_cons_of_mem _ (List.mem_append_left _ (List.mem_append_right _ h))) (by decide +kernel))
set_option maxRecDepth 20000 in
theorem gL_claims_L_attacks : GoodIn wsL_claims (va_wsS RL 268 yL_attacks wsL_attacks) := goodIn_app (goodIn_of _ (by decide +kernel)) ggL_claims_L_attacks
set_option maxRecDepth 20000 in
theorem ggL_claims_L_attackers : GoodIn wsL_claims wsL_attackers := goodIn_ca (goodIn_ca (goodIn_r _ [95, 5, 6, 7, 8, 9, 10, 11, 12, 44, 45, 39, 46, 47, 48, 49, 50, 51, 52, 53, 54, 55, 56, 57, 58, 59, 60, 61, 29, 62, 31, 63, 33, 34, 451, 452, 453, 454, 455, 456, 457, 458, 459, 460, 461, 462, 463, 464, 465, 466, 467, 468, 469, 470, 471, 472, 473, 474, 475, 476, 477, 478, 479] rfl (by decide +kernel)) (goodIn_sub (fun _ h => List.mem_cons_of_mem _ (List.mem_append_left _ (List.mem_append_left _ (List.mem_append_right _ h)))) (by decide +kernel))) (goodIn_sub (fun _ h => List.mem_cons_of_mem _ (List.mem_append_left _ (List.mem_append_right _ h))) (by decide +kernel))
set_option maxRecDepth 20000 in
theorem gL_claims_L_attackers : GoodIn wsL_claims (va_wsS RL 273 yL_attackers wsL_attackers) := goodIn_app (goodIn_of _ (by decide +kernel)) ggL_claims_L_attackers
set_option maxRecDepth 20000 in
theorem ggL_claims_L_isRejected : GoodIn wsL_claims wsL_isRejected := goodIn_ca (goodIn_ca (goodIn_r _ [366, 47, 367, 368, 369, 8, 370, 53, 54, 55, 56, 57, 58, 10, 11, 59, 60, 61, 29, 62, 31, 105, 106, 107, 108, 104, 14, 15, 16, 17, 18, 19, 20, 21, 22, 23, 24, 25, 26, 27, 28, 30, 32, 33, 34, 35, 36, 109, 63, 451, 452, 453, 454, 455, 456, 457, 458, 459, 460, 461, 462, 463, 464, 465, 466, 467, 468, 469, 470, 471, 472, 473, 474, 475, 476, 477, 478, 479] rfl (by decide +kernel)) (goodIn_sub (fun _ h => List.mem_cons_of_mem _ (List.mem_append_left _ (List.mem_append_right _ h))) (by decide +kernel))) (goodIn_sub (fun _ h => List.mem_cons_of_mem _ (List.mem_append_left _ (List.mem_append_left _ (List.mem_append_right _ h)))) (by decide +kernel))
set_option maxRecDepth 20000 in
theorem gL_claims_L_isRejected : GoodIn wsL_claims (va_wsS RL 302 yL_isRejected wsL_isRejected) := goodIn_app (goodIn_of _ (by decide +kernel)) ggL_claims_L_isRejected
set_option maxRecDepth 20000 in
theorem ggL_claims_L_describeClaim : GoodIn wsL_claims wsL_describeClaim := goodIn_ca (goodIn_ca (goodIn_r _ [373, 47, 374, 375, 376, 8, 377, 378, 10, 11, 12, 52, 53, 54, 55, 56, 57, 58, 59, 60, 61, 29, 62, 31, 379, 380, 381, 382, 383, 384, 385, 386, 387, 388, 389, 390, 104, 14, 15, 16, 17, 18, 19, 20, 21, 22, 23, 24, 25, 26, 27, 28, 30, 32, 33, 34, 35, 36, 63, 105, 106, 107, 108, 109, 451, 452, 453, 454, 455, 456, 457, 458, 459, 460, 461, 462, 463, 464, 465, 466, 467, 468, 469, 470, 471, 472, 473, 474, 475, 476, 477, 478, 479] rfl (by decide +kernel)) (goodIn_sub (fun _ h => List.mem_cons_of_mem _ (List.mem_append_left _ (List.mem_append_left _ (List.mem_append_right _ h)))) (by decide +kernel))) (goodIn_sub (fun _ h => List.mem_cons_of_mem _ (List.mem_append_left _ (List.mem_append_right _ h))) (by decide +kernel))
set_option maxRecDepth 20000 in
theorem gL_claims_L_describeClaim : GoodIn wsL_claims (va_wsS RL 228 yL_describeClaim wsL_describeClaim) := goodIn_app (goodIn_of _ (by decide +kernel)) ggL_claims_L_describeClaim
set_option maxRecDepth 20000 in
theorem ggL_claims_L_said : GoodIn wsL_claims wsL_said := goodIn_ca (goodIn_ca (goodIn_r _ [393, 1, 2, 3, 120, 121, 122, 123, 124, 125, 126, 127, 128, 129, 130, 131, 132, 133, 134, 135, 136, 137, 138, 139, 140, 141, 394, 395, 39, 396, 47, 397, 398, 399, 8, 400, 57, 58, 378, 386, 401, 402, 403, 404, 405, 406, 148, 407, 408, 151, 155, 156, 157, 158, 159, 160, 161, 162, 163, 164, 165, 166, 167, 168, 169, 170, 171, 172, 173, 174, 175, 176, 177, 178, 179, 180, 181, 182, 183, 184, 185, 186, 187, 188, 189, 190, 191, 192, 193, 194, 195, 196, 197, 198, 199, 409, 410, 279, 411, 272, 273, 274, 275, 276, 277, 278, 280, 281, 282, 283, 284, 285, 286, 212, 213, 214, 287, 288, 217, 289, 219, 290, 291, 222, 292, 229, 230, 231, 208, 232, 233, 412, 413, 414, 415, 416, 417, 418, 419, 420, 421, 422, 423, 299, 300, 301, 302, 303, 304, 305, 306, 307, 308, 309, 310, 311, 260, 254, 259, 312, 313, 314, 315, 316, 317, 318, 319, 320, 321, 322, 323, 324, 325, 326, 327, 328, 329, 330, 331, 332, 333, 334, 335, 336, 337, 338, 339, 340, 341, 342, 343, 344, 345, 346, 347, 348, 349, 350, 447, 448, 449, 450, 451, 452, 453, 454, 455, 456, 457, 458, 459, 460, 461, 462, 463, 464, 465, 466, 481, 482, 483, 484] rfl (by decide +kernel)) (goodIn_sub (fun _ h => List.mem_cons_of_mem _ (List.mem_append_left _ (List.mem_append_right _ h))) (by decide +kernel))) (goodIn_sub (fun _ h => List.mem_cons_of_mem _ (List.mem_append_left _ (List.mem_append_left _ (List.mem_append_right _ h)))) (by decide +kernel))
set_option maxRecDepth 20000 in
theorem gL_claims_L_said : GoodIn wsL_claims (va_wsS RL 221 yL_said wsL_said) := goodIn_app (goodIn_of _ (by decide +kernel)) ggL_claims_L_said
set_option maxRecDepth 20000 in
theorem ggL_claims_J0_equals_9ea2d : GoodIn wsL_claims wsJ0_equals_9ea2d := goodIn_r _ [427, 428, 259, 260, 254, 429, 430, 279, 431, 481, 482, 483, 484] rfl (by decide +kernel)
set_option maxRecDepth 20000 in
theorem gL_claims_J0_equals_9ea2d : GoodIn wsL_claims (wsV RL 304 RJ0 yJ0_equals_9ea2d wsJ0_equals_9ea2d) := goodIn_app (goodIn_of _ (by decide +kernel)) ggL_claims_J0_equals_9ea2d
set_option maxRecDepth 20000 in
theorem ggL_claims_L_meanWeight : GoodIn wsL_claims wsL_meanWeight := goodIn_ca (goodIn_ca (goodIn_r _ [434, 435, 4, 436, 437, 438, 8, 439, 440, 441, 10, 11, 12, 100, 101, 102, 29, 103, 31, 35, 36, 442, 443, 444, 445, 446, 33, 34, 451, 452, 453, 454, 455, 456, 457, 458, 459, 460, 461, 462, 463, 464, 465, 466, 467, 468, 469, 470, 471, 472, 473, 474, 475, 476, 477, 478, 479] rfl (by decide +kernel)) (goodIn_sub (fun _ h => List.mem_cons_of_mem _ (List.mem_append_right _ h)) (by decide +kernel))) (goodIn_sub (fun _ h => List.mem_cons_of_mem _ (List.mem_append_left _ (List.mem_append_left _ (List.mem_append_right _ h)))) (by decide +kernel))
set_option maxRecDepth 20000 in
theorem gL_claims_L_meanWeight : GoodIn wsL_claims (va_wsS RL 308 yL_meanWeight wsL_meanWeight) := goodIn_app (goodIn_of _ (by decide +kernel)) ggL_claims_L_meanWeight
theorem dL_claims_0 : decode cL_claims 0 = .ok (.aload_n 0, 1) := by decide +kernel
theorem dL_claims_1 : decode cL_claims 1 = .ok (.invokevirtual 184, 3) := by decide +kernel
theorem dL_claims_4 : decode cL_claims 4 = .ok (.istore_n 1, 1) := by decide +kernel
theorem dL_claims_5 : decode cL_claims 5 = .ok (.aload_n 0, 1) := by decide +kernel
theorem dL_claims_6 : decode cL_claims 6 = .ok (.invokevirtual 276, 3) := by decide +kernel
theorem dL_claims_9 : decode cL_claims 9 = .ok (.istore_n 2, 1) := by decide +kernel
theorem dL_claims_10 : decode cL_claims 10 = .ok (.aload_n 0, 1) := by decide +kernel
theorem dL_claims_11 : decode cL_claims 11 = .ok (.iload_n 2, 1) := by decide +kernel
theorem dL_claims_12 : decode cL_claims 12 = .ok (.invokestatic 270, 3) := by decide +kernel
theorem dL_claims_15 : decode cL_claims 15 = .ok (.istore_n 3, 1) := by decide +kernel
theorem dL_claims_16 : decode cL_claims 16 = .ok (.aload_n 0, 1) := by decide +kernel
theorem dL_claims_17 : decode cL_claims 17 = .ok (.invokevirtual 279, 3) := by decide +kernel
theorem dL_claims_20 : decode cL_claims 20 = .ok (.iload_n 2, 1) := by decide +kernel
theorem dL_claims_21 : decode cL_claims 21 = .ok (.if_icmp .ne 26, 3) := by decide +kernel
theorem dL_claims_24 : decode cL_claims 24 = .ok (.aload_n 0, 1) := by decide +kernel
theorem dL_claims_25 : decode cL_claims 25 = .ok (.iload_n 2, 1) := by decide +kernel
theorem dL_claims_26 : decode cL_claims 26 = .ok (.invokestatic 282, 3) := by decide +kernel
theorem dL_claims_29 : decode cL_claims 29 = .ok (.ifCond .eq 18, 3) := by decide +kernel
theorem dL_claims_32 : decode cL_claims 32 = .ok (.aload_n 0, 1) := by decide +kernel
theorem dL_claims_33 : decode cL_claims 33 = .ok (.invokevirtual 286, 3) := by decide +kernel
theorem dL_claims_36 : decode cL_claims 36 = .ok (.iload_n 1, 1) := by decide +kernel
theorem dL_claims_37 : decode cL_claims 37 = .ok (.iload_n 2, 1) := by decide +kernel
theorem dL_claims_38 : decode cL_claims 38 = .ok (.iload_n 3, 1) := by decide +kernel
theorem dL_claims_39 : decode cL_claims 39 = .ok (.ior, 1) := by decide +kernel
theorem dL_claims_40 : decode cL_claims 40 = .ok (.invokestatic 289, 3) := by decide +kernel
theorem dL_claims_43 : decode cL_claims 43 = .ok (.isub, 1) := by decide +kernel
theorem dL_claims_44 : decode cL_claims 44 = .ok (.if_icmp .eq 5, 3) := by decide +kernel
theorem dL_claims_47 : decode cL_claims 47 = .ok (.iconst 0, 1) := by decide +kernel
theorem dL_claims_48 : decode cL_claims 48 = .ok (.ireturn, 1) := by decide +kernel
theorem dL_claims_49 : decode cL_claims 49 = .ok (.iconst 0, 1) := by decide +kernel
theorem dL_claims_50 : decode cL_claims 50 = .ok (.istore 4, 2) := by decide +kernel
theorem dL_claims_52 : decode cL_claims 52 = .ok (.iconst 0, 1) := by decide +kernel
theorem dL_claims_53 : decode cL_claims 53 = .ok (.istore 5, 2) := by decide +kernel
theorem dL_claims_55 : decode cL_claims 55 = .ok (.iload 5, 2) := by decide +kernel
theorem dL_claims_57 : decode cL_claims 57 = .ok (.iload_n 1, 1) := by decide +kernel
theorem dL_claims_58 : decode cL_claims 58 = .ok (.if_icmp .ge 218, 3) := by decide +kernel
theorem dL_claims_61 : decode cL_claims 61 = .ok (.iload 4, 2) := by decide +kernel
theorem dL_claims_63 : decode cL_claims 63 = .ok (.aload_n 0, 1) := by decide +kernel
theorem dL_claims_64 : decode cL_claims 64 = .ok (.iload 5, 2) := by decide +kernel
theorem dL_claims_66 : decode cL_claims 66 = .ok (.invokestatic 233, 3) := by decide +kernel
theorem dL_claims_69 : decode cL_claims 69 = .ok (.iadd, 1) := by decide +kernel
theorem dL_claims_70 : decode cL_claims 70 = .ok (.istore 4, 2) := by decide +kernel
theorem dL_claims_72 : decode cL_claims 72 = .ok (.new 148, 3) := by decide +kernel
theorem dL_claims_75 : decode cL_claims 75 = .ok (.dup, 1) := by decide +kernel
theorem dL_claims_76 : decode cL_claims 76 = .ok (.new 148, 3) := by decide +kernel
theorem dL_claims_79 : decode cL_claims 79 = .ok (.dup, 1) := by decide +kernel
theorem dL_claims_80 : decode cL_claims 80 = .ok (.invokespecial 150, 3) := by decide +kernel
theorem dL_claims_83 : decode cL_claims 83 = .ok (.iload 5, 2) := by decide +kernel
theorem dL_claims_85 : decode cL_claims 85 = .ok (.invokevirtual 235, 3) := by decide +kernel
theorem dL_claims_88 : decode cL_claims 88 = .ok (.iload_n 2, 1) := by decide +kernel
theorem dL_claims_89 : decode cL_claims 89 = .ok (.iload 5, 2) := by decide +kernel
theorem dL_claims_91 : decode cL_claims 91 = .ok (.invokestatic 265, 3) := by decide +kernel
theorem dL_claims_94 : decode cL_claims 94 = .ok (.ifCond .eq 9, 3) := by decide +kernel
theorem dL_claims_97 : decode cL_claims 97 = .ok (.ldc_w 294, 3) := by decide +kernel
theorem dL_claims_100 : decode cL_claims 100 = .ok (.goto 21, 3) := by decide +kernel
theorem dL_claims_103 : decode cL_claims 103 = .ok (.iload_n 3, 1) := by decide +kernel
theorem dL_claims_104 : decode cL_claims 104 = .ok (.iload 5, 2) := by decide +kernel
theorem dL_claims_106 : decode cL_claims 106 = .ok (.invokestatic 265, 3) := by decide +kernel
theorem dL_claims_109 : decode cL_claims 109 = .ok (.ifCond .eq 9, 3) := by decide +kernel
theorem dL_claims_112 : decode cL_claims 112 = .ok (.ldc_w 296, 3) := by decide +kernel
theorem dL_claims_115 : decode cL_claims 115 = .ok (.goto 6, 3) := by decide +kernel
theorem dL_claims_118 : decode cL_claims 118 = .ok (.ldc_w 298, 3) := by decide +kernel
theorem dL_claims_121 : decode cL_claims 121 = .ok (.invokevirtual 230, 3) := by decide +kernel
theorem dL_claims_124 : decode cL_claims 124 = .ok (.invokevirtual 159, 3) := by decide +kernel
theorem dL_claims_127 : decode cL_claims 127 = .ok (.invokespecial 225, 3) := by decide +kernel
theorem dL_claims_130 : decode cL_claims 130 = .ok (.astore 6, 2) := by decide +kernel
theorem dL_claims_132 : decode cL_claims 132 = .ok (.iconst 0, 1) := by decide +kernel
theorem dL_claims_133 : decode cL_claims 133 = .ok (.istore 7, 2) := by decide +kernel
theorem dL_claims_135 : decode cL_claims 135 = .ok (.iload 7, 2) := by decide +kernel
theorem dL_claims_137 : decode cL_claims 137 = .ok (.iload_n 1, 1) := by decide +kernel
theorem dL_claims_138 : decode cL_claims 138 = .ok (.if_icmp .ge 54, 3) := by decide +kernel
theorem dL_claims_141 : decode cL_claims 141 = .ok (.aload 6, 2) := by decide +kernel
theorem dL_claims_143 : decode cL_claims 143 = .ok (.aload_n 0, 1) := by decide +kernel
theorem dL_claims_144 : decode cL_claims 144 = .ok (.iload 5, 2) := by decide +kernel
theorem dL_claims_146 : decode cL_claims 146 = .ok (.iload 7, 2) := by decide +kernel
theorem dL_claims_148 : decode cL_claims 148 = .ok (.invokestatic 268, 3) := by decide +kernel
theorem dL_claims_151 : decode cL_claims 151 = .ok (.iconst 1, 1) := by decide +kernel
theorem dL_claims_152 : decode cL_claims 152 = .ok (.if_icmp .ne 27, 3) := by decide +kernel
theorem dL_claims_155 : decode cL_claims 155 = .ok (.new 148, 3) := by decide +kernel
theorem dL_claims_158 : decode cL_claims 158 = .ok (.dup, 1) := by decide +kernel
theorem dL_claims_159 : decode cL_claims 159 = .ok (.invokespecial 150, 3) := by decide +kernel
theorem dL_claims_162 : decode cL_claims 162 = .ok (.ldc_w 300, 3) := by decide +kernel
theorem dL_claims_165 : decode cL_claims 165 = .ok (.invokevirtual 230, 3) := by decide +kernel
theorem dL_claims_168 : decode cL_claims 168 = .ok (.iload 7, 2) := by decide +kernel
theorem dL_claims_170 : decode cL_claims 170 = .ok (.invokevirtual 235, 3) := by decide +kernel
theorem dL_claims_173 : decode cL_claims 173 = .ok (.invokevirtual 159, 3) := by decide +kernel
theorem dL_claims_176 : decode cL_claims 176 = .ok (.goto 6, 3) := by decide +kernel
theorem dL_claims_179 : decode cL_claims 179 = .ok (.ldc_w 300, 3) := by decide +kernel
theorem dL_claims_182 : decode cL_claims 182 = .ok (.invokevirtual 230, 3) := by decide +kernel
theorem dL_claims_185 : decode cL_claims 185 = .ok (.pop, 1) := by decide +kernel
theorem dL_claims_186 : decode cL_claims 186 = .ok (.iinc 7 1, 3) := by decide +kernel
theorem dL_claims_189 : decode cL_claims 189 = .ok (.goto (-54), 3) := by decide +kernel
theorem dL_claims_192 : decode cL_claims 192 = .ok (.aload_n 0, 1) := by decide +kernel
theorem dL_claims_193 : decode cL_claims 193 = .ok (.iload 5, 2) := by decide +kernel
theorem dL_claims_195 : decode cL_claims 195 = .ok (.invokestatic 273, 3) := by decide +kernel
theorem dL_claims_198 : decode cL_claims 198 = .ok (.iload_n 3, 1) := by decide +kernel
theorem dL_claims_199 : decode cL_claims 199 = .ok (.iconst (-1), 1) := by decide +kernel
theorem dL_claims_200 : decode cL_claims 200 = .ok (.ixor, 1) := by decide +kernel
theorem dL_claims_201 : decode cL_claims 201 = .ok (.iand, 1) := by decide +kernel
theorem dL_claims_202 : decode cL_claims 202 = .ok (.ifCond .ne 7, 3) := by decide +kernel
theorem dL_claims_205 : decode cL_claims 205 = .ok (.iconst 1, 1) := by decide +kernel
theorem dL_claims_206 : decode cL_claims 206 = .ok (.goto 4, 3) := by decide +kernel
theorem dL_claims_209 : decode cL_claims 209 = .ok (.iconst 0, 1) := by decide +kernel
theorem dL_claims_210 : decode cL_claims 210 = .ok (.istore 7, 2) := by decide +kernel
theorem dL_claims_212 : decode cL_claims 212 = .ok (.aload_n 0, 1) := by decide +kernel
theorem dL_claims_213 : decode cL_claims 213 = .ok (.iload 5, 2) := by decide +kernel
theorem dL_claims_215 : decode cL_claims 215 = .ok (.invokestatic 302, 3) := by decide +kernel
theorem dL_claims_218 : decode cL_claims 218 = .ok (.iconst 1, 1) := by decide +kernel
theorem dL_claims_219 : decode cL_claims 219 = .ok (.if_icmp .ne 7, 3) := by decide +kernel
theorem dL_claims_222 : decode cL_claims 222 = .ok (.iconst 1, 1) := by decide +kernel
theorem dL_claims_223 : decode cL_claims 223 = .ok (.goto 4, 3) := by decide +kernel
theorem dL_claims_226 : decode cL_claims 226 = .ok (.iconst 0, 1) := by decide +kernel
theorem dL_claims_227 : decode cL_claims 227 = .ok (.iload_n 3, 1) := by decide +kernel
theorem dL_claims_228 : decode cL_claims 228 = .ok (.iload 5, 2) := by decide +kernel
theorem dL_claims_230 : decode cL_claims 230 = .ok (.invokestatic 265, 3) := by decide +kernel
theorem dL_claims_233 : decode cL_claims 233 = .ok (.if_icmp .ne 35, 3) := by decide +kernel
theorem dL_claims_236 : decode cL_claims 236 = .ok (.iload 7, 2) := by decide +kernel
theorem dL_claims_238 : decode cL_claims 238 = .ok (.iload_n 2, 1) := by decide +kernel
theorem dL_claims_239 : decode cL_claims 239 = .ok (.iload 5, 2) := by decide +kernel
theorem dL_claims_241 : decode cL_claims 241 = .ok (.invokestatic 265, 3) := by decide +kernel
theorem dL_claims_244 : decode cL_claims 244 = .ok (.if_icmp .ne 24, 3) := by decide +kernel
theorem dL_claims_247 : decode cL_claims 247 = .ok (.aload_n 0, 1) := by decide +kernel
theorem dL_claims_248 : decode cL_claims 248 = .ok (.aload_n 0, 1) := by decide +kernel
theorem dL_claims_249 : decode cL_claims 249 = .ok (.iload 5, 2) := by decide +kernel
theorem dL_claims_251 : decode cL_claims 251 = .ok (.invokestatic 228, 3) := by decide +kernel
theorem dL_claims_254 : decode cL_claims 254 = .ok (.invokestatic 221, 3) := by decide +kernel
theorem dL_claims_257 : decode cL_claims 257 = .ok (.aload 6, 2) := by decide +kernel
theorem dL_claims_259 : decode cL_claims 259 = .ok (.invokevirtual 159, 3) := by decide +kernel
theorem dL_claims_262 : decode cL_claims 262 = .ok (.invokevirtual 304, 3) := by decide +kernel
theorem dL_claims_265 : decode cL_claims 265 = .ok (.ifCond .ne 5, 3) := by decide +kernel
theorem dL_claims_268 : decode cL_claims 268 = .ok (.iconst 0, 1) := by decide +kernel
theorem dL_claims_269 : decode cL_claims 269 = .ok (.ireturn, 1) := by decide +kernel
theorem dL_claims_270 : decode cL_claims 270 = .ok (.iinc 5 1, 3) := by decide +kernel
theorem dL_claims_273 : decode cL_claims 273 = .ok (.goto (-218), 3) := by decide +kernel
theorem dL_claims_276 : decode cL_claims 276 = .ok (.iload_n 1, 1) := by decide +kernel
theorem dL_claims_277 : decode cL_claims 277 = .ok (.ifCond .ne 9, 3) := by decide +kernel
theorem dL_claims_280 : decode cL_claims 280 = .ok (.ldc2_w 134, 3) := by decide +kernel
theorem dL_claims_283 : decode cL_claims 283 = .ok (.goto 9, 3) := by decide +kernel
theorem dL_claims_286 : decode cL_claims 286 = .ok (.iload 4, 2) := by decide +kernel
theorem dL_claims_288 : decode cL_claims 288 = .ok (.i2d, 1) := by decide +kernel
theorem dL_claims_289 : decode cL_claims 289 = .ok (.iload_n 1, 1) := by decide +kernel
theorem dL_claims_290 : decode cL_claims 290 = .ok (.i2d, 1) := by decide +kernel
theorem dL_claims_291 : decode cL_claims 291 = .ok (.ddiv, 1) := by decide +kernel
theorem dL_claims_292 : decode cL_claims 292 = .ok (.dstore 5, 2) := by decide +kernel
theorem dL_claims_294 : decode cL_claims 294 = .ok (.aload_n 0, 1) := by decide +kernel
theorem dL_claims_295 : decode cL_claims 295 = .ok (.invokestatic 308, 3) := by decide +kernel
theorem dL_claims_298 : decode cL_claims 298 = .ok (.dload 5, 2) := by decide +kernel
theorem dL_claims_300 : decode cL_claims 300 = .ok (.dcmp .l, 1) := by decide +kernel
theorem dL_claims_301 : decode cL_claims 301 = .ok (.ifCond .ne 31, 3) := by decide +kernel
theorem dL_claims_304 : decode cL_claims 304 = .ok (.iload_n 1, 1) := by decide +kernel
theorem dL_claims_305 : decode cL_claims 305 = .ok (.bipush 10, 2) := by decide +kernel
theorem dL_claims_307 : decode cL_claims 307 = .ok (.if_icmp .gt 25, 3) := by decide +kernel
theorem dL_claims_310 : decode cL_claims 310 = .ok (.aload_n 0, 1) := by decide +kernel
theorem dL_claims_311 : decode cL_claims 311 = .ok (.iload_n 1, 1) := by decide +kernel
theorem dL_claims_312 : decode cL_claims 312 = .ok (.invokestatic 233, 3) := by decide +kernel
theorem dL_claims_315 : decode cL_claims 315 = .ok (.iconst (-1), 1) := by decide +kernel
theorem dL_claims_316 : decode cL_claims 316 = .ok (.if_icmp .ne 16, 3) := by decide +kernel
theorem dL_claims_319 : decode cL_claims 319 = .ok (.aload_n 0, 1) := by decide +kernel
theorem dL_claims_320 : decode cL_claims 320 = .ok (.iload_n 1, 1) := by decide +kernel
theorem dL_claims_321 : decode cL_claims 321 = .ok (.invokestatic 302, 3) := by decide +kernel
theorem dL_claims_324 : decode cL_claims 324 = .ok (.iconst (-1), 1) := by decide +kernel
theorem dL_claims_325 : decode cL_claims 325 = .ok (.if_icmp .ne 7, 3) := by decide +kernel
theorem dL_claims_328 : decode cL_claims 328 = .ok (.iconst 1, 1) := by decide +kernel
theorem dL_claims_329 : decode cL_claims 329 = .ok (.goto 4, 3) := by decide +kernel
theorem dL_claims_332 : decode cL_claims 332 = .ok (.iconst 0, 1) := by decide +kernel
theorem dL_claims_333 : decode cL_claims 333 = .ok (.ireturn, 1) := by decide +kernel
set_option maxRecDepth 20000 in
theorem ggL_positions_X12_claimCount : GoodIn wsL_positions wsX12_claimCount := goodIn_r _ [10, 11, 12, 13, 143, 144, 145, 146, 147, 148, 149, 150, 151, 152, 153, 154, 155, 156, 157, 158, 159, 160, 161, 162, 163, 164, 165, 166, 167, 168, 169, 170, 171] rfl (by decide +kernel)
set_option maxRecDepth 20000 in
theorem gL_positions_X12_claimCount : GoodIn wsL_positions (wsV RL 184 RX12 yX12_claimCount wsX12_claimCount) := goodIn_app (goodIn_of _ (by decide +kernel)) ggL_positions_X12_claimCount
set_option maxRecDepth 20000 in
theorem ggL_positions_X12_acceptedBits : GoodIn wsL_positions wsX12_acceptedBits := goodIn_ca (goodIn_r _ [17, 11, 12, 18, 19, 20, 21, 22, 23, 24, 25, 26, 27, 28, 29, 30, 31, 32, 33, 34, 9, 35, 36, 37, 143, 144, 145, 146, 147, 148, 149, 150, 151, 152, 153, 154, 155, 156, 157, 158, 159, 160, 161, 162, 163, 164, 165, 166, 167, 168, 169, 170, 171] rfl (by decide +kernel)) (goodIn_sub (fun _ h => List.mem_cons_of_mem _ (List.mem_append_left _ (List.mem_append_left _ (List.mem_append_right _ h)))) (by decide +kernel))
set_option maxRecDepth 20000 in
theorem gL_positions_X12_acceptedBits : GoodIn wsL_positions (wsV RL 276 RX12 yX12_acceptedBits wsX12_acceptedBits) := goodIn_app (goodIn_of _ (by decide +kernel)) ggL_positions_X12_acceptedBits
set_option maxRecDepth 20000 in
theorem ggL_positions_X12_heaviestBits : GoodIn wsL_positions wsX12_heaviestBits := goodIn_ca (goodIn_r _ [41, 11, 12, 42, 43, 44, 45, 46, 47, 48, 30, 49, 32, 36, 9, 37, 50, 51, 52, 53, 28, 29, 31, 33, 34, 35, 54, 55, 56, 57, 58, 59, 60, 61, 62, 63, 64, 65, 66, 143, 144, 145, 146, 147, 148, 149, 150, 151, 152, 153, 154, 155, 156, 157, 158, 159, 160, 161, 162, 163, 164, 165, 166, 167, 168, 169, 170, 171] rfl (by decide +kernel)) (goodIn_sub (fun _ h => List.mem_cons_of_mem _ (List.mem_append_left _ (List.mem_append_left _ (List.mem_append_right _ h)))) (by decide +kernel))
set_option maxRecDepth 20000 in
theorem gL_positions_X12_heaviestBits : GoodIn wsL_positions (wsV RL 311 RX12 yX12_heaviestBits wsX12_heaviestBits) := goodIn_app (goodIn_of _ (by decide +kernel)) ggL_positions_X12_heaviestBits
set_option maxRecDepth 20000 in
theorem ggL_positions_L_hit : GoodIn wsL_positions wsL_hit := goodIn_ca (goodIn_ca (goodIn_r _ [70, 6, 7, 8, 9, 10, 11, 12, 13, 71, 72, 69, 73, 74, 75, 76, 77, 78, 79, 80, 81, 82, 83, 84, 85, 86, 87, 88, 89, 90, 91, 30, 92, 32, 93, 34, 35, 143, 144, 145, 146, 147, 148, 149, 150, 151, 152, 153, 154, 155, 156, 157, 158, 159, 160, 161, 162, 163, 164, 165, 166, 167, 168, 169, 170, 171] rfl (by decide +kernel)) (goodIn_sub (fun _ h => List.mem_cons_of_mem _ (List.mem_append_left _ (List.mem_append_left _ (List.mem_append_right _ h)))) (by decide +kernel))) (goodIn_sub (fun _ h => List.mem_cons_of_mem _ (List.mem_append_left _ (List.mem_append_right _ h))) (by decide +kernel))
set_option maxRecDepth 20000 in
theorem gL_positions_L_hit : GoodIn wsL_positions (va_wsS RL 270 yL_hit wsL_hit) := goodIn_app (goodIn_of _ (by decide +kernel)) ggL_positions_L_hit
set_option maxRecDepth 20000 in
theorem ggL_positions_L_attackers : GoodIn wsL_positions wsL_attackers := goodIn_ca (goodIn_ca (goodIn_r _ [96, 6, 7, 8, 9, 10, 11, 12, 13, 74, 75, 69, 76, 77, 78, 79, 80, 81, 82, 83, 84, 85, 86, 87, 88, 89, 90, 91, 30, 92, 32, 93, 34, 35, 143, 144, 145, 146, 147, 148, 149, 150, 151, 152, 153, 154, 155, 156, 157, 158, 159, 160, 161, 162, 163, 164, 165, 166, 167, 168, 169, 170, 171] rfl (by decide +kernel)) (goodIn_sub (fun _ h => List.mem_cons_of_mem _ (List.mem_append_left _ (List.mem_append_left _ (List.mem_append_right _ h)))) (by decide +kernel))) (goodIn_sub (fun _ h => List.mem_cons_of_mem _ (List.mem_append_left _ (List.mem_append_right _ h))) (by decide +kernel))
set_option maxRecDepth 20000 in
theorem gL_positions_L_attackers : GoodIn wsL_positions (va_wsS RL 273 yL_attackers wsL_attackers) := goodIn_app (goodIn_of _ (by decide +kernel)) ggL_positions_L_attackers
set_option maxRecDepth 20000 in
theorem ggL_positions_L_isIn : GoodIn wsL_positions wsL_isIn := goodIn_r _ [73] rfl (by decide +kernel)
set_option maxRecDepth 20000 in
theorem gL_positions_L_isIn : GoodIn wsL_positions (va_wsS RL 265 yL_isIn wsL_isIn) := goodIn_app (goodIn_of _ (by decide +kernel)) ggL_positions_L_isIn
set_option maxRecDepth 20000 in
theorem ggL_positions_L_weightOf : GoodIn wsL_positions wsL_weightOf := goodIn_ca (goodIn_ca (goodIn_r _ [99, 77, 100, 101, 102, 9, 103, 11, 12, 104, 83, 84, 85, 86, 87, 88, 89, 90, 91, 30, 92, 32, 143, 144, 145, 146, 147, 148, 149, 150, 151, 152, 153, 154, 155, 156, 157, 158, 159, 160, 161, 162, 163, 164, 165, 166, 167, 168, 169, 170, 171] rfl (by decide +kernel)) (goodIn_sub (fun _ h => List.mem_cons_of_mem _ (List.mem_append_left _ (List.mem_append_left _ (List.mem_append_right _ h)))) (by decide +kernel))) (goodIn_sub (fun _ h => List.mem_cons_of_mem _ (List.mem_append_left _ (List.mem_append_right _ h))) (by decide +kernel))
set_option maxRecDepth 20000 in
theorem gL_positions_L_weightOf : GoodIn wsL_positions (va_wsS RL 233 yL_weightOf wsL_weightOf) := goodIn_app (goodIn_of _ (by decide +kernel)) ggL_positions_L_weightOf
set_option maxRecDepth 20000 in
theorem ggL_positions_X12_positions : GoodIn wsL_positions wsX12_positions := goodIn_ca (goodIn_r _ [108, 11, 12, 109, 110, 44, 111, 46, 47, 48, 30, 49, 32, 36, 9, 37, 50, 51, 52, 53, 28, 29, 31, 33, 34, 35, 54, 55, 56, 57, 58, 143, 144, 145, 146, 147, 148, 149, 150, 151, 152, 153, 154, 155, 156, 157, 158, 159, 160, 161, 162, 163, 164, 165, 166, 167, 168, 169, 170, 171] rfl (by decide +kernel)) (goodIn_sub (fun _ h => List.mem_cons_of_mem _ (List.mem_append_left _ (List.mem_append_left _ (List.mem_append_right _ h)))) (by decide +kernel))
set_option maxRecDepth 20000 in
theorem gL_positions_X12_positions : GoodIn wsL_positions (wsV RL 314 RX12 yX12_positions wsX12_positions) := goodIn_app (goodIn_of _ (by decide +kernel)) ggL_positions_X12_positions
set_option maxRecDepth 20000 in
theorem ggL_positions_X12_positionsByDeciding : GoodIn wsL_positions wsX12_positionsByDeciding := goodIn_ca (goodIn_r _ [115, 11, 12, 116, 117, 44, 118, 119, 120, 121, 122, 123, 124, 54, 55, 56, 30, 57, 32, 58, 34, 9, 35, 53, 28, 29, 31, 33, 36, 37, 143, 144, 145, 146, 147, 148, 149, 150, 151, 152, 153, 154, 155, 156, 157, 158, 159, 160, 161, 162, 163, 164, 165, 166, 167, 168, 169, 170, 171] rfl (by decide +kernel)) (goodIn_sub (fun _ h => List.mem_cons_of_mem _ (List.mem_append_left _ (List.mem_append_left _ (List.mem_append_right _ h)))) (by decide +kernel))
set_option maxRecDepth 20000 in
theorem gL_positions_X12_positionsByDeciding : GoodIn wsL_positions (wsV RL 317 RX12 yX12_positionsByDeciding wsX12_positionsByDeciding) := goodIn_app (goodIn_of _ (by decide +kernel)) ggL_positions_X12_positionsByDeciding
set_option maxRecDepth 20000 in
theorem ggL_positions_X12_heaviestWeight : GoodIn wsL_positions wsX12_heaviestWeight := goodIn_ca (goodIn_r _ [128, 11, 12, 129, 39, 40, 9, 41, 42, 43, 44, 45, 46, 47, 48, 30, 49, 32, 36, 37, 50, 51, 52, 53, 28, 29, 31, 33, 34, 35, 54, 55, 56, 57, 58, 59, 60, 61, 62, 63, 64, 65, 66, 130, 143, 144, 145, 146, 147, 148, 149, 150, 151, 152, 153, 154, 155, 156, 157, 158, 159, 160, 161, 162, 163, 164, 165, 166, 167, 168, 169, 170, 171] rfl (by decide +kernel)) (goodIn_sub (fun _ h => List.mem_cons_of_mem _ (List.mem_append_left _ (List.mem_append_left _ (List.mem_append_right _ h)))) (by decide +kernel))
set_option maxRecDepth 20000 in
theorem gL_positions_X12_heaviestWeight : GoodIn wsL_positions (wsV RL 320 RX12 yX12_heaviestWeight wsX12_heaviestWeight) := goodIn_app (goodIn_of _ (by decide +kernel)) ggL_positions_X12_heaviestWeight
set_option maxRecDepth 20000 in
theorem ggL_positions_L_isPosition : GoodIn wsL_positions wsL_isPosition := goodIn_ca (goodIn_ca (goodIn_r _ [133, 134, 135, 136, 137, 9, 138, 139, 140, 11, 12, 141, 47, 48, 30, 49, 32, 36, 37, 142, 51, 44, 52, 53, 28, 29, 31, 33, 34, 35, 54, 55, 56, 57, 58, 143, 144, 145, 146, 147, 148, 149, 150, 151, 152, 153, 154, 155, 156, 157, 158, 159, 160, 161, 162, 163, 164, 165, 166, 167, 168, 169, 170, 171] rfl (by decide +kernel)) (goodIn_sub (fun _ h => List.mem_cons_of_mem _ (List.mem_append_right _ h)) (by decide +kernel))) (goodIn_sub (fun _ h => List.mem_cons_of_mem _ (List.mem_append_left _ (List.mem_append_left _ (List.mem_append_right _ h)))) (by decide +kernel))
set_option maxRecDepth 20000 in
theorem gL_positions_L_isPosition : GoodIn wsL_positions (va_wsS RL 323 yL_isPosition wsL_isPosition) := goodIn_app (goodIn_of _ (by decide +kernel)) ggL_positions_L_isPosition
theorem dL_positions_0 : decode cL_positions 0 = .ok (.aload_n 0, 1) := by decide +kernel
theorem dL_positions_1 : decode cL_positions 1 = .ok (.invokevirtual 184, 3) := by decide +kernel
theorem dL_positions_4 : decode cL_positions 4 = .ok (.istore_n 1, 1) := by decide +kernel
theorem dL_positions_5 : decode cL_positions 5 = .ok (.aload_n 0, 1) := by decide +kernel
theorem dL_positions_6 : decode cL_positions 6 = .ok (.invokevirtual 276, 3) := by decide +kernel
theorem dL_positions_9 : decode cL_positions 9 = .ok (.istore_n 2, 1) := by decide +kernel
theorem dL_positions_10 : decode cL_positions 10 = .ok (.aload_n 0, 1) := by decide +kernel
theorem dL_positions_11 : decode cL_positions 11 = .ok (.invokevirtual 311, 3) := by decide +kernel
theorem dL_positions_14 : decode cL_positions 14 = .ok (.istore_n 3, 1) := by decide +kernel
theorem dL_positions_15 : decode cL_positions 15 = .ok (.iconst 0, 1) := by decide +kernel
theorem dL_positions_16 : decode cL_positions 16 = .ok (.istore 4, 2) := by decide +kernel
theorem dL_positions_18 : decode cL_positions 18 = .ok (.iconst 0, 1) := by decide +kernel
theorem dL_positions_19 : decode cL_positions 19 = .ok (.istore 5, 2) := by decide +kernel
theorem dL_positions_21 : decode cL_positions 21 = .ok (.iconst 0, 1) := by decide +kernel
theorem dL_positions_22 : decode cL_positions 22 = .ok (.istore 6, 2) := by decide +kernel
theorem dL_positions_24 : decode cL_positions 24 = .ok (.iload_n 1, 1) := by decide +kernel
theorem dL_positions_25 : decode cL_positions 25 = .ok (.newarray .int, 2) := by decide +kernel
theorem dL_positions_27 : decode cL_positions 27 = .ok (.astore 7, 2) := by decide +kernel
theorem dL_positions_29 : decode cL_positions 29 = .ok (.iload_n 1, 1) := by decide +kernel
theorem dL_positions_30 : decode cL_positions 30 = .ok (.newarray .int, 2) := by decide +kernel
theorem dL_positions_32 : decode cL_positions 32 = .ok (.astore 8, 2) := by decide +kernel
theorem dL_positions_34 : decode cL_positions 34 = .ok (.iconst 0, 1) := by decide +kernel
theorem dL_positions_35 : decode cL_positions 35 = .ok (.istore 9, 2) := by decide +kernel
theorem dL_positions_37 : decode cL_positions 37 = .ok (.iload 9, 2) := by decide +kernel
theorem dL_positions_39 : decode cL_positions 39 = .ok (.iload_n 1, 1) := by decide +kernel
theorem dL_positions_40 : decode cL_positions 40 = .ok (.if_icmp .ge 33, 3) := by decide +kernel
theorem dL_positions_43 : decode cL_positions 43 = .ok (.aload 7, 2) := by decide +kernel
theorem dL_positions_45 : decode cL_positions 45 = .ok (.iload 9, 2) := by decide +kernel
theorem dL_positions_47 : decode cL_positions 47 = .ok (.aload_n 0, 1) := by decide +kernel
theorem dL_positions_48 : decode cL_positions 48 = .ok (.iconst 1, 1) := by decide +kernel
theorem dL_positions_49 : decode cL_positions 49 = .ok (.iload 9, 2) := by decide +kernel
theorem dL_positions_51 : decode cL_positions 51 = .ok (.ishl, 1) := by decide +kernel
theorem dL_positions_52 : decode cL_positions 52 = .ok (.invokestatic 270, 3) := by decide +kernel
theorem dL_positions_55 : decode cL_positions 55 = .ok (.iastore, 1) := by decide +kernel
theorem dL_positions_56 : decode cL_positions 56 = .ok (.aload 8, 2) := by decide +kernel
theorem dL_positions_58 : decode cL_positions 58 = .ok (.iload 9, 2) := by decide +kernel
theorem dL_positions_60 : decode cL_positions 60 = .ok (.aload_n 0, 1) := by decide +kernel
theorem dL_positions_61 : decode cL_positions 61 = .ok (.iload 9, 2) := by decide +kernel
theorem dL_positions_63 : decode cL_positions 63 = .ok (.invokestatic 273, 3) := by decide +kernel
theorem dL_positions_66 : decode cL_positions 66 = .ok (.iastore, 1) := by decide +kernel
theorem dL_positions_67 : decode cL_positions 67 = .ok (.iinc 9 1, 3) := by decide +kernel
theorem dL_positions_70 : decode cL_positions 70 = .ok (.goto (-33), 3) := by decide +kernel
theorem dL_positions_73 : decode cL_positions 73 = .ok (.iconst 0, 1) := by decide +kernel
theorem dL_positions_74 : decode cL_positions 74 = .ok (.istore 9, 2) := by decide +kernel
theorem dL_positions_76 : decode cL_positions 76 = .ok (.iload 9, 2) := by decide +kernel
theorem dL_positions_78 : decode cL_positions 78 = .ok (.iconst 1, 1) := by decide +kernel
theorem dL_positions_79 : decode cL_positions 79 = .ok (.iload_n 1, 1) := by decide +kernel
theorem dL_positions_80 : decode cL_positions 80 = .ok (.ishl, 1) := by decide +kernel
theorem dL_positions_81 : decode cL_positions 81 = .ok (.if_icmp .ge 237, 3) := by decide +kernel
theorem dL_positions_84 : decode cL_positions 84 = .ok (.iconst 0, 1) := by decide +kernel
theorem dL_positions_85 : decode cL_positions 85 = .ok (.istore 10, 2) := by decide +kernel
theorem dL_positions_87 : decode cL_positions 87 = .ok (.iconst 0, 1) := by decide +kernel
theorem dL_positions_88 : decode cL_positions 88 = .ok (.istore 11, 2) := by decide +kernel
theorem dL_positions_90 : decode cL_positions 90 = .ok (.iconst 0, 1) := by decide +kernel
theorem dL_positions_91 : decode cL_positions 91 = .ok (.istore 12, 2) := by decide +kernel
theorem dL_positions_93 : decode cL_positions 93 = .ok (.iload 12, 2) := by decide +kernel
theorem dL_positions_95 : decode cL_positions 95 = .ok (.iload_n 1, 1) := by decide +kernel
theorem dL_positions_96 : decode cL_positions 96 = .ok (.if_icmp .ge 58, 3) := by decide +kernel
theorem dL_positions_99 : decode cL_positions 99 = .ok (.iload 10, 2) := by decide +kernel
theorem dL_positions_101 : decode cL_positions 101 = .ok (.iload 9, 2) := by decide +kernel
theorem dL_positions_103 : decode cL_positions 103 = .ok (.iload 12, 2) := by decide +kernel
theorem dL_positions_105 : decode cL_positions 105 = .ok (.invokestatic 265, 3) := by decide +kernel
theorem dL_positions_108 : decode cL_positions 108 = .ok (.ifCond .eq 11, 3) := by decide +kernel
theorem dL_positions_111 : decode cL_positions 111 = .ok (.aload 7, 2) := by decide +kernel
theorem dL_positions_113 : decode cL_positions 113 = .ok (.iload 12, 2) := by decide +kernel
theorem dL_positions_115 : decode cL_positions 115 = .ok (.iaload, 1) := by decide +kernel
theorem dL_positions_116 : decode cL_positions 116 = .ok (.goto 4, 3) := by decide +kernel
theorem dL_positions_119 : decode cL_positions 119 = .ok (.iconst 0, 1) := by decide +kernel
theorem dL_positions_120 : decode cL_positions 120 = .ok (.ior, 1) := by decide +kernel
theorem dL_positions_121 : decode cL_positions 121 = .ok (.istore 10, 2) := by decide +kernel
theorem dL_positions_123 : decode cL_positions 123 = .ok (.iload 11, 2) := by decide +kernel
theorem dL_positions_125 : decode cL_positions 125 = .ok (.iload 9, 2) := by decide +kernel
theorem dL_positions_127 : decode cL_positions 127 = .ok (.iload 12, 2) := by decide +kernel
theorem dL_positions_129 : decode cL_positions 129 = .ok (.invokestatic 265, 3) := by decide +kernel
theorem dL_positions_132 : decode cL_positions 132 = .ok (.ifCond .eq 12, 3) := by decide +kernel
theorem dL_positions_135 : decode cL_positions 135 = .ok (.aload_n 0, 1) := by decide +kernel
theorem dL_positions_136 : decode cL_positions 136 = .ok (.iload 12, 2) := by decide +kernel
theorem dL_positions_138 : decode cL_positions 138 = .ok (.invokestatic 233, 3) := by decide +kernel
theorem dL_positions_141 : decode cL_positions 141 = .ok (.goto 4, 3) := by decide +kernel
theorem dL_positions_144 : decode cL_positions 144 = .ok (.iconst 0, 1) := by decide +kernel
theorem dL_positions_145 : decode cL_positions 145 = .ok (.iadd, 1) := by decide +kernel
theorem dL_positions_146 : decode cL_positions 146 = .ok (.istore 11, 2) := by decide +kernel
theorem dL_positions_148 : decode cL_positions 148 = .ok (.iinc 12 1, 3) := by decide +kernel
theorem dL_positions_151 : decode cL_positions 151 = .ok (.goto (-58), 3) := by decide +kernel
theorem dL_positions_154 : decode cL_positions 154 = .ok (.iload 10, 2) := by decide +kernel
theorem dL_positions_156 : decode cL_positions 156 = .ok (.iload 9, 2) := by decide +kernel
theorem dL_positions_158 : decode cL_positions 158 = .ok (.iand, 1) := by decide +kernel
theorem dL_positions_159 : decode cL_positions 159 = .ok (.ifCond .ne 7, 3) := by decide +kernel
theorem dL_positions_162 : decode cL_positions 162 = .ok (.iconst 1, 1) := by decide +kernel
theorem dL_positions_163 : decode cL_positions 163 = .ok (.goto 4, 3) := by decide +kernel
theorem dL_positions_166 : decode cL_positions 166 = .ok (.iconst 0, 1) := by decide +kernel
theorem dL_positions_167 : decode cL_positions 167 = .ok (.istore 12, 2) := by decide +kernel
theorem dL_positions_169 : decode cL_positions 169 = .ok (.iconst 0, 1) := by decide +kernel
theorem dL_positions_170 : decode cL_positions 170 = .ok (.istore 13, 2) := by decide +kernel
theorem dL_positions_172 : decode cL_positions 172 = .ok (.iload 13, 2) := by decide +kernel
theorem dL_positions_174 : decode cL_positions 174 = .ok (.iload_n 1, 1) := by decide +kernel
theorem dL_positions_175 : decode cL_positions 175 = .ok (.if_icmp .ge 44, 3) := by decide +kernel
theorem dL_positions_178 : decode cL_positions 178 = .ok (.iload 12, 2) := by decide +kernel
theorem dL_positions_180 : decode cL_positions 180 = .ok (.ifCond .eq 39, 3) := by decide +kernel
theorem dL_positions_183 : decode cL_positions 183 = .ok (.iload 9, 2) := by decide +kernel
theorem dL_positions_185 : decode cL_positions 185 = .ok (.iload 13, 2) := by decide +kernel
theorem dL_positions_187 : decode cL_positions 187 = .ok (.invokestatic 265, 3) := by decide +kernel
theorem dL_positions_190 : decode cL_positions 190 = .ok (.ifCond .eq 16, 3) := by decide +kernel
theorem dL_positions_193 : decode cL_positions 193 = .ok (.aload 8, 2) := by decide +kernel
theorem dL_positions_195 : decode cL_positions 195 = .ok (.iload 13, 2) := by decide +kernel
theorem dL_positions_197 : decode cL_positions 197 = .ok (.iaload, 1) := by decide +kernel
theorem dL_positions_198 : decode cL_positions 198 = .ok (.iload 10, 2) := by decide +kernel
theorem dL_positions_200 : decode cL_positions 200 = .ok (.iconst (-1), 1) := by decide +kernel
theorem dL_positions_201 : decode cL_positions 201 = .ok (.ixor, 1) := by decide +kernel
theorem dL_positions_202 : decode cL_positions 202 = .ok (.iand, 1) := by decide +kernel
theorem dL_positions_203 : decode cL_positions 203 = .ok (.ifCond .ne 7, 3) := by decide +kernel
theorem dL_positions_206 : decode cL_positions 206 = .ok (.iconst 1, 1) := by decide +kernel
theorem dL_positions_207 : decode cL_positions 207 = .ok (.goto 4, 3) := by decide +kernel
theorem dL_positions_210 : decode cL_positions 210 = .ok (.iconst 0, 1) := by decide +kernel
theorem dL_positions_211 : decode cL_positions 211 = .ok (.istore 12, 2) := by decide +kernel
theorem dL_positions_213 : decode cL_positions 213 = .ok (.iinc 13 1, 3) := by decide +kernel
theorem dL_positions_216 : decode cL_positions 216 = .ok (.goto (-44), 3) := by decide +kernel
theorem dL_positions_219 : decode cL_positions 219 = .ok (.iload 9, 2) := by decide +kernel
theorem dL_positions_221 : decode cL_positions 221 = .ok (.iload 6, 2) := by decide +kernel
theorem dL_positions_223 : decode cL_positions 223 = .ok (.ixor, 1) := by decide +kernel
theorem dL_positions_224 : decode cL_positions 224 = .ok (.istore 13, 2) := by decide +kernel
theorem dL_positions_226 : decode cL_positions 226 = .ok (.iload 11, 2) := by decide +kernel
theorem dL_positions_228 : decode cL_positions 228 = .ok (.iload 5, 2) := by decide +kernel
theorem dL_positions_230 : decode cL_positions 230 = .ok (.if_icmp .gt 22, 3) := by decide +kernel
theorem dL_positions_233 : decode cL_positions 233 = .ok (.iload 11, 2) := by decide +kernel
theorem dL_positions_235 : decode cL_positions 235 = .ok (.iload 5, 2) := by decide +kernel
theorem dL_positions_237 : decode cL_positions 237 = .ok (.if_icmp .ne 19, 3) := by decide +kernel
theorem dL_positions_240 : decode cL_positions 240 = .ok (.iload 9, 2) := by decide +kernel
theorem dL_positions_242 : decode cL_positions 242 = .ok (.iload 13, 2) := by decide +kernel
theorem dL_positions_244 : decode cL_positions 244 = .ok (.iand, 1) := by decide +kernel
theorem dL_positions_245 : decode cL_positions 245 = .ok (.iload 13, 2) := by decide +kernel
theorem dL_positions_247 : decode cL_positions 247 = .ok (.ineg, 1) := by decide +kernel
theorem dL_positions_248 : decode cL_positions 248 = .ok (.iand, 1) := by decide +kernel
theorem dL_positions_249 : decode cL_positions 249 = .ok (.ifCond .eq 7, 3) := by decide +kernel
theorem dL_positions_252 : decode cL_positions 252 = .ok (.iconst 1, 1) := by decide +kernel
theorem dL_positions_253 : decode cL_positions 253 = .ok (.goto 4, 3) := by decide +kernel
theorem dL_positions_256 : decode cL_positions 256 = .ok (.iconst 0, 1) := by decide +kernel
theorem dL_positions_257 : decode cL_positions 257 = .ok (.istore 14, 2) := by decide +kernel
theorem dL_positions_259 : decode cL_positions 259 = .ok (.iload 4, 2) := by decide +kernel
theorem dL_positions_261 : decode cL_positions 261 = .ok (.iload 12, 2) := by decide +kernel
theorem dL_positions_263 : decode cL_positions 263 = .ok (.ifCond .eq 7, 3) := by decide +kernel
theorem dL_positions_266 : decode cL_positions 266 = .ok (.iconst 1, 1) := by decide +kernel
theorem dL_positions_267 : decode cL_positions 267 = .ok (.goto 4, 3) := by decide +kernel
theorem dL_positions_270 : decode cL_positions 270 = .ok (.iconst 0, 1) := by decide +kernel
theorem dL_positions_271 : decode cL_positions 271 = .ok (.iadd, 1) := by decide +kernel
theorem dL_positions_272 : decode cL_positions 272 = .ok (.istore 4, 2) := by decide +kernel
theorem dL_positions_274 : decode cL_positions 274 = .ok (.iload 12, 2) := by decide +kernel
theorem dL_positions_276 : decode cL_positions 276 = .ok (.ifCond .eq 13, 3) := by decide +kernel
theorem dL_positions_279 : decode cL_positions 279 = .ok (.iload 14, 2) := by decide +kernel
theorem dL_positions_281 : decode cL_positions 281 = .ok (.ifCond .eq 8, 3) := by decide +kernel
theorem dL_positions_284 : decode cL_positions 284 = .ok (.iload 9, 2) := by decide +kernel
theorem dL_positions_286 : decode cL_positions 286 = .ok (.goto 5, 3) := by decide +kernel
theorem dL_positions_289 : decode cL_positions 289 = .ok (.iload 6, 2) := by decide +kernel
theorem dL_positions_291 : decode cL_positions 291 = .ok (.istore 6, 2) := by decide +kernel
theorem dL_positions_293 : decode cL_positions 293 = .ok (.iload 12, 2) := by decide +kernel
theorem dL_positions_295 : decode cL_positions 295 = .ok (.ifCond .eq 13, 3) := by decide +kernel
theorem dL_positions_298 : decode cL_positions 298 = .ok (.iload 5, 2) := by decide +kernel
theorem dL_positions_300 : decode cL_positions 300 = .ok (.iload 11, 2) := by decide +kernel
theorem dL_positions_302 : decode cL_positions 302 = .ok (.invokestatic 179, 3) := by decide +kernel
theorem dL_positions_305 : decode cL_positions 305 = .ok (.goto 5, 3) := by decide +kernel
theorem dL_positions_308 : decode cL_positions 308 = .ok (.iload 5, 2) := by decide +kernel
theorem dL_positions_310 : decode cL_positions 310 = .ok (.istore 5, 2) := by decide +kernel
theorem dL_positions_312 : decode cL_positions 312 = .ok (.iinc 9 1, 3) := by decide +kernel
theorem dL_positions_315 : decode cL_positions 315 = .ok (.goto (-239), 3) := by decide +kernel
theorem dL_positions_318 : decode cL_positions 318 = .ok (.aload_n 0, 1) := by decide +kernel
theorem dL_positions_319 : decode cL_positions 319 = .ok (.invokevirtual 314, 3) := by decide +kernel
theorem dL_positions_322 : decode cL_positions 322 = .ok (.iload 4, 2) := by decide +kernel
theorem dL_positions_324 : decode cL_positions 324 = .ok (.if_icmp .ne 31, 3) := by decide +kernel
theorem dL_positions_327 : decode cL_positions 327 = .ok (.aload_n 0, 1) := by decide +kernel
theorem dL_positions_328 : decode cL_positions 328 = .ok (.invokevirtual 317, 3) := by decide +kernel
theorem dL_positions_331 : decode cL_positions 331 = .ok (.iload 4, 2) := by decide +kernel
theorem dL_positions_333 : decode cL_positions 333 = .ok (.if_icmp .ne 22, 3) := by decide +kernel
theorem dL_positions_336 : decode cL_positions 336 = .ok (.iload_n 3, 1) := by decide +kernel
theorem dL_positions_337 : decode cL_positions 337 = .ok (.iload 6, 2) := by decide +kernel
theorem dL_positions_339 : decode cL_positions 339 = .ok (.if_icmp .ne 16, 3) := by decide +kernel
theorem dL_positions_342 : decode cL_positions 342 = .ok (.aload_n 0, 1) := by decide +kernel
theorem dL_positions_343 : decode cL_positions 343 = .ok (.invokevirtual 320, 3) := by decide +kernel
theorem dL_positions_346 : decode cL_positions 346 = .ok (.iload 5, 2) := by decide +kernel
theorem dL_positions_348 : decode cL_positions 348 = .ok (.if_icmp .ne 7, 3) := by decide +kernel
theorem dL_positions_351 : decode cL_positions 351 = .ok (.iconst 1, 1) := by decide +kernel
theorem dL_positions_352 : decode cL_positions 352 = .ok (.goto 4, 3) := by decide +kernel
theorem dL_positions_355 : decode cL_positions 355 = .ok (.iconst 0, 1) := by decide +kernel
theorem dL_positions_356 : decode cL_positions 356 = .ok (.istore 9, 2) := by decide +kernel
theorem dL_positions_358 : decode cL_positions 358 = .ok (.iload 9, 2) := by decide +kernel
theorem dL_positions_360 : decode cL_positions 360 = .ok (.ifCond .eq 54, 3) := by decide +kernel
theorem dL_positions_363 : decode cL_positions 363 = .ok (.aload_n 0, 1) := by decide +kernel
theorem dL_positions_364 : decode cL_positions 364 = .ok (.iload_n 2, 1) := by decide +kernel
theorem dL_positions_365 : decode cL_positions 365 = .ok (.invokestatic 323, 3) := by decide +kernel
theorem dL_positions_368 : decode cL_positions 368 = .ok (.iconst 1, 1) := by decide +kernel
theorem dL_positions_369 : decode cL_positions 369 = .ok (.if_icmp .ne 45, 3) := by decide +kernel
theorem dL_positions_372 : decode cL_positions 372 = .ok (.aload_n 0, 1) := by decide +kernel
theorem dL_positions_373 : decode cL_positions 373 = .ok (.iload_n 3, 1) := by decide +kernel
theorem dL_positions_374 : decode cL_positions 374 = .ok (.invokestatic 323, 3) := by decide +kernel
theorem dL_positions_377 : decode cL_positions 377 = .ok (.iconst 1, 1) := by decide +kernel
theorem dL_positions_378 : decode cL_positions 378 = .ok (.if_icmp .ne 36, 3) := by decide +kernel
theorem dL_positions_381 : decode cL_positions 381 = .ok (.aload_n 0, 1) := by decide +kernel
theorem dL_positions_382 : decode cL_positions 382 = .ok (.iconst 1, 1) := by decide +kernel
theorem dL_positions_383 : decode cL_positions 383 = .ok (.iload_n 1, 1) := by decide +kernel
theorem dL_positions_384 : decode cL_positions 384 = .ok (.ishl, 1) := by decide +kernel
theorem dL_positions_385 : decode cL_positions 385 = .ok (.invokestatic 323, 3) := by decide +kernel
theorem dL_positions_388 : decode cL_positions 388 = .ok (.iconst (-1), 1) := by decide +kernel
theorem dL_positions_389 : decode cL_positions 389 = .ok (.if_icmp .ne 25, 3) := by decide +kernel
theorem dL_positions_392 : decode cL_positions 392 = .ok (.aload_n 0, 1) := by decide +kernel
theorem dL_positions_393 : decode cL_positions 393 = .ok (.iconst (-1), 1) := by decide +kernel
theorem dL_positions_394 : decode cL_positions 394 = .ok (.invokestatic 323, 3) := by decide +kernel
theorem dL_positions_397 : decode cL_positions 397 = .ok (.iconst (-1), 1) := by decide +kernel
theorem dL_positions_398 : decode cL_positions 398 = .ok (.if_icmp .ne 16, 3) := by decide +kernel
theorem dL_positions_401 : decode cL_positions 401 = .ok (.aload_n 0, 1) := by decide +kernel
theorem dL_positions_402 : decode cL_positions 402 = .ok (.iconst 0, 1) := by decide +kernel
theorem dL_positions_403 : decode cL_positions 403 = .ok (.invokestatic 323, 3) := by decide +kernel
theorem dL_positions_406 : decode cL_positions 406 = .ok (.iconst 1, 1) := by decide +kernel
theorem dL_positions_407 : decode cL_positions 407 = .ok (.if_icmp .ne 7, 3) := by decide +kernel
theorem dL_positions_410 : decode cL_positions 410 = .ok (.iconst 1, 1) := by decide +kernel
theorem dL_positions_411 : decode cL_positions 411 = .ok (.goto 4, 3) := by decide +kernel
theorem dL_positions_414 : decode cL_positions 414 = .ok (.iconst 0, 1) := by decide +kernel
theorem dL_positions_415 : decode cL_positions 415 = .ok (.ireturn, 1) := by decide +kernel
set_option maxRecDepth 20000 in
theorem ggL_leads_X12_claimCount : GoodIn wsL_leads wsX12_claimCount := goodIn_r _ [5, 6, 7, 8, 39, 40, 41, 42, 43, 44, 45, 46, 47, 48, 49, 50, 51, 52, 53, 54, 55, 56, 57, 58, 59, 60, 61, 62, 63, 64, 65, 66, 67] rfl (by decide +kernel)
set_option maxRecDepth 20000 in
theorem gL_leads_X12_claimCount : GoodIn wsL_leads (wsV RL 184 RX12 yX12_claimCount wsX12_claimCount) := goodIn_app (goodIn_of _ (by decide +kernel)) ggL_leads_X12_claimCount
set_option maxRecDepth 20000 in
theorem ggL_leads_L_attacks : GoodIn wsL_leads wsL_attacks := goodIn_ca (goodIn_ca (goodIn_r _ [12, 13, 14, 15, 16, 4, 17, 6, 7, 18, 19, 20, 21, 22, 23, 24, 25, 26, 27, 28, 29, 30, 31, 32, 33, 39, 40, 41, 42, 43, 44, 45, 46, 47, 48, 49, 50, 51, 52, 53, 54, 55, 56, 57, 58, 59, 60, 61, 62, 63, 64, 65, 66, 67] rfl (by decide +kernel)) (goodIn_sub (fun _ h => List.mem_cons_of_mem _ (List.mem_append_left _ (List.mem_append_right _ h))) (by decide +kernel))) (goodIn_sub (fun _ h => List.mem_cons_of_mem _ (List.mem_append_right _ h)) (by decide +kernel))
set_option maxRecDepth 20000 in
theorem gL_leads_L_attacks : GoodIn wsL_leads (va_wsS RL 268 yL_attacks wsL_attacks) := goodIn_app (goodIn_of _ (by decide +kernel)) ggL_leads_L_attacks
set_option maxRecDepth 20000 in
theorem ggL_leads_L_isIn : GoodIn wsL_leads wsL_isIn := goodIn_r _ [36] rfl (by decide +kernel)
set_option maxRecDepth 20000 in
theorem gL_leads_L_isIn : GoodIn wsL_leads (va_wsS RL 265 yL_isIn wsL_isIn) := goodIn_app (goodIn_of _ (by decide +kernel)) ggL_leads_L_isIn
set_option maxRecDepth 20000 in
theorem ggL_leads_L_leads : GoodIn wsL_leads wsL_leads := goodIn_ca (goodIn_ca (goodIn_r _ [0, 1, 2, 3, 4, 5, 6, 7, 8, 9, 10, 11, 12, 13, 14, 15, 16, 17, 18, 19, 20, 21, 22, 23, 24, 25, 26, 27, 28, 29, 30, 31, 32, 33, 34, 35, 36, 37, 38, 39, 40, 41, 42, 43, 44, 45, 46, 47, 48, 49, 50, 51, 52, 53, 54, 55, 56, 57, 58, 59, 60, 61, 62, 63, 64, 65, 66, 67] rfl (by decide +kernel)) (goodIn_sub (fun _ h => List.mem_cons_of_mem _ (List.mem_append_left _ (List.mem_append_right _ h))) (by decide +kernel))) (goodIn_sub (fun _ h => List.mem_cons_of_mem _ (List.mem_append_right _ h)) (by decide +kernel))
set_option maxRecDepth 20000 in
theorem gL_leads_L_leads : GoodIn wsL_leads (va_wsS RL 325 yL_leads wsL_leads) := goodIn_app (goodIn_of _ (by decide +kernel)) ggL_leads_L_leads
theorem dL_leads_0 : decode cL_leads 0 = .ok (.iload_n 2, 1) := by decide +kernel
theorem dL_leads_1 : decode cL_leads 1 = .ok (.iconst 1, 1) := by decide +kernel
theorem dL_leads_2 : decode cL_leads 2 = .ok (.iload_n 1, 1) := by decide +kernel
theorem dL_leads_3 : decode cL_leads 3 = .ok (.ishl, 1) := by decide +kernel
theorem dL_leads_4 : decode cL_leads 4 = .ok (.ior, 1) := by decide +kernel
theorem dL_leads_5 : decode cL_leads 5 = .ok (.istore_n 3, 1) := by decide +kernel
theorem dL_leads_6 : decode cL_leads 6 = .ok (.iconst 0, 1) := by decide +kernel
theorem dL_leads_7 : decode cL_leads 7 = .ok (.istore 4, 2) := by decide +kernel
theorem dL_leads_9 : decode cL_leads 9 = .ok (.iload 4, 2) := by decide +kernel
theorem dL_leads_11 : decode cL_leads 11 = .ok (.aload_n 0, 1) := by decide +kernel
theorem dL_leads_12 : decode cL_leads 12 = .ok (.invokevirtual 184, 3) := by decide +kernel
theorem dL_leads_15 : decode cL_leads 15 = .ok (.if_icmp .ge 41, 3) := by decide +kernel
theorem dL_leads_18 : decode cL_leads 18 = .ok (.aload_n 0, 1) := by decide +kernel
theorem dL_leads_19 : decode cL_leads 19 = .ok (.iload_n 1, 1) := by decide +kernel
theorem dL_leads_20 : decode cL_leads 20 = .ok (.iload 4, 2) := by decide +kernel
theorem dL_leads_22 : decode cL_leads 22 = .ok (.invokestatic 268, 3) := by decide +kernel
theorem dL_leads_25 : decode cL_leads 25 = .ok (.iconst 1, 1) := by decide +kernel
theorem dL_leads_26 : decode cL_leads 26 = .ok (.if_icmp .ne 22, 3) := by decide +kernel
theorem dL_leads_29 : decode cL_leads 29 = .ok (.iload_n 3, 1) := by decide +kernel
theorem dL_leads_30 : decode cL_leads 30 = .ok (.iload 4, 2) := by decide +kernel
theorem dL_leads_32 : decode cL_leads 32 = .ok (.invokestatic 265, 3) := by decide +kernel
theorem dL_leads_35 : decode cL_leads 35 = .ok (.ifCond .ne 13, 3) := by decide +kernel
theorem dL_leads_38 : decode cL_leads 38 = .ok (.aload_n 0, 1) := by decide +kernel
theorem dL_leads_39 : decode cL_leads 39 = .ok (.iload 4, 2) := by decide +kernel
theorem dL_leads_41 : decode cL_leads 41 = .ok (.iload_n 3, 1) := by decide +kernel
theorem dL_leads_42 : decode cL_leads 42 = .ok (.invokestatic 325, 3) := by decide +kernel
theorem dL_leads_45 : decode cL_leads 45 = .ok (.goto 4, 3) := by decide +kernel
theorem dL_leads_48 : decode cL_leads 48 = .ok (.iload_n 3, 1) := by decide +kernel
theorem dL_leads_49 : decode cL_leads 49 = .ok (.istore_n 3, 1) := by decide +kernel
theorem dL_leads_50 : decode cL_leads 50 = .ok (.iinc 4 1, 3) := by decide +kernel
theorem dL_leads_53 : decode cL_leads 53 = .ok (.goto (-44), 3) := by decide +kernel
theorem dL_leads_56 : decode cL_leads 56 = .ok (.iload_n 3, 1) := by decide +kernel
theorem dL_leads_57 : decode cL_leads 57 = .ok (.ireturn, 1) := by decide +kernel
set_option maxRecDepth 20000 in
theorem ggL_circles_X12_claimCount : GoodIn wsL_circles wsX12_claimCount := goodIn_r _ [7, 8, 9, 10, 176, 177, 178, 179, 180, 181, 182, 183, 184, 185, 186, 187, 188, 189, 190, 191, 192, 193, 194, 195, 196, 197, 198, 199, 200, 201, 202, 203, 204] rfl (by decide +kernel)
set_option maxRecDepth 20000 in
theorem gL_circles_X12_claimCount : GoodIn wsL_circles (wsV RL 184 RX12 yX12_claimCount wsX12_claimCount) := goodIn_app (goodIn_of _ (by decide +kernel)) ggL_circles_X12_claimCount
set_option maxRecDepth 20000 in
theorem ggL_circles_L_leads : GoodIn wsL_circles wsL_leads := goodIn_ca (goodIn_ca (goodIn_r _ [14, 3, 4, 5, 6, 7, 8, 9, 10, 15, 16, 13, 17, 18, 19, 20, 21, 22, 23, 24, 25, 26, 27, 28, 29, 30, 31, 32, 33, 34, 35, 36, 37, 38, 39, 40, 41, 11, 12, 176, 177, 178, 179, 180, 181, 182, 183, 184, 185, 186, 187, 188, 189, 190, 191, 192, 193, 194, 195, 196, 197, 198, 199, 200, 201, 202, 203, 204] rfl (by decide +kernel)) (goodIn_sub (fun _ h => List.mem_cons_of_mem _ (List.mem_append_left _ (List.mem_append_left _ (List.mem_append_left _ (List.mem_append_right _ h))))) (by decide +kernel))) (goodIn_sub (fun _ h => List.mem_cons_of_mem _ (List.mem_append_left _ (List.mem_append_left _ (List.mem_append_right _ h)))) (by decide +kernel))
set_option maxRecDepth 20000 in
theorem gL_circles_L_leads : GoodIn wsL_circles (va_wsS RL 325 yL_leads wsL_leads) := goodIn_app (goodIn_of _ (by decide +kernel)) ggL_circles_L_leads
set_option maxRecDepth 20000 in
theorem ggL_circles_L_isIn : GoodIn wsL_circles wsL_isIn := goodIn_r _ [41] rfl (by decide +kernel)
set_option maxRecDepth 20000 in
theorem gL_circles_L_isIn : GoodIn wsL_circles (va_wsS RL 265 yL_isIn wsL_isIn) := goodIn_app (goodIn_of _ (by decide +kernel)) ggL_circles_L_isIn
set_option maxRecDepth 20000 in
theorem ggL_circles_L_circleSize : GoodIn wsL_circles wsL_circleSize := goodIn_ca (goodIn_ca (goodIn_r _ [44, 18, 45, 46, 47, 6, 48, 8, 9, 24, 25, 26, 27, 28, 29, 30, 31, 32, 33, 34, 35, 49, 50, 51, 52, 53, 54, 55, 56, 57, 58, 59, 60, 61, 62, 63, 37, 38, 64, 65, 66, 67, 68, 69, 70, 71, 72, 73, 74, 75, 176, 177, 178, 179, 180, 181, 182, 183, 184, 185, 186, 187, 188, 189, 190, 191, 192, 193, 194, 195, 196, 197, 198, 199, 200, 201, 202, 203, 204] rfl (by decide +kernel)) (goodIn_sub (fun _ h => List.mem_cons_of_mem _ (List.mem_append_left _ (List.mem_append_left _ (List.mem_append_right _ h)))) (by decide +kernel))) (goodIn_sub (fun _ h => List.mem_cons_of_mem _ (List.mem_append_left _ (List.mem_append_left _ (List.mem_append_left _ (List.mem_append_right _ h))))) (by decide +kernel))
set_option maxRecDepth 20000 in
theorem gL_circles_L_circleSize : GoodIn wsL_circles (va_wsS RL 328 yL_circleSize wsL_circleSize) := goodIn_app (goodIn_of _ (by decide +kernel)) ggL_circles_L_circleSize
set_option maxRecDepth 20000 in
theorem ggL_circles_X13_next : GoodIn wsL_circles wsX13_next := goodIn_ca (goodIn_r _ [80, 81, 82, 205] rfl (by decide +kernel)) (goodIn_sub (fun _ h => List.mem_cons_of_mem _ (List.mem_append_left _ (List.mem_append_right _ h))) (by decide +kernel))
set_option maxRecDepth 20000 in
theorem gL_circles_X13_next : GoodIn wsL_circles (wsV RL 174 RX13 yX13_next wsX13_next) := goodIn_app (goodIn_of _ (by decide +kernel)) ggL_circles_X13_next
set_option maxRecDepth 20000 in
theorem ggL_circles_L_attacks : GoodIn wsL_circles wsL_attacks := goodIn_ca (goodIn_ca (goodIn_r _ [17, 18, 19, 20, 21, 6, 22, 8, 9, 23, 24, 25, 26, 27, 28, 29, 30, 31, 32, 33, 34, 35, 36, 37, 38, 176, 177, 178, 179, 180, 181, 182, 183, 184, 185, 186, 187, 188, 189, 190, 191, 192, 193, 194, 195, 196, 197, 198, 199, 200, 201, 202, 203, 204] rfl (by decide +kernel)) (goodIn_sub (fun _ h => List.mem_cons_of_mem _ (List.mem_append_left _ (List.mem_append_left _ (List.mem_append_left _ (List.mem_append_right _ h))))) (by decide +kernel))) (goodIn_sub (fun _ h => List.mem_cons_of_mem _ (List.mem_append_left _ (List.mem_append_left _ (List.mem_append_right _ h)))) (by decide +kernel))
set_option maxRecDepth 20000 in
theorem gL_circles_L_attacks : GoodIn wsL_circles (va_wsS RL 268 yL_attacks wsL_attacks) := goodIn_app (goodIn_of _ (by decide +kernel)) ggL_circles_L_attacks
set_option maxRecDepth 20000 in
theorem ggL_circles_L_chains : GoodIn wsL_circles wsL_chains := goodIn_ca (goodIn_ca (goodIn_ca (goodIn_r _ [85, 18, 86, 87, 88, 6, 89, 90, 8, 9, 91, 92, 93, 94, 95, 96, 24, 25, 26, 27, 28, 29, 30, 31, 32, 33, 34, 35, 97, 98, 99, 100, 101, 102, 103, 104, 105, 106, 107, 108, 109, 37, 38, 110, 111, 112, 113, 114, 115, 116, 117, 118, 119, 120, 121, 122, 123, 124, 125, 126, 127, 128, 129, 130, 131, 132, 176, 177, 178, 179, 180, 181, 182, 183, 184, 185, 186, 187, 188, 189, 190, 191, 192, 193, 194, 195, 196, 197, 198, 199, 200, 201, 202, 203, 204, 206, 207, 208, 209] rfl (by decide +kernel)) (goodIn_sub (fun _ h => List.mem_cons_of_mem _ (List.mem_append_right _ h)) (by decide +kernel))) (goodIn_sub (fun _ h => List.mem_cons_of_mem _ (List.mem_append_left _ (List.mem_append_left _ (List.mem_append_right _ h)))) (by decide +kernel))) (goodIn_sub (fun _ h => List.mem_cons_of_mem _ (List.mem_append_left _ (List.mem_append_left _ (List.mem_append_left _ (List.mem_append_right _ h))))) (by decide +kernel))
set_option maxRecDepth 20000 in
theorem gL_circles_L_chains : GoodIn wsL_circles (va_wsS RL 330 yL_chains wsL_chains) := goodIn_app (goodIn_of _ (by decide +kernel)) ggL_circles_L_chains
set_option maxRecDepth 20000 in
theorem ggL_circles_L_chainsBySteps : GoodIn wsL_circles wsL_chainsBySteps := goodIn_ca (goodIn_ca (goodIn_ca (goodIn_r _ [135, 18, 136, 137, 138, 6, 139, 90, 8, 9, 91, 92, 93, 94, 95, 96, 24, 25, 26, 27, 28, 29, 30, 31, 32, 33, 34, 35, 140, 141, 142, 100, 143, 102, 118, 144, 103, 110, 111, 112, 113, 145, 146, 147, 148, 123, 37, 38, 124, 125, 126, 127, 176, 177, 178, 179, 180, 181, 182, 183, 184, 185, 186, 187, 188, 189, 190, 191, 192, 193, 194, 195, 196, 197, 198, 199, 200, 201, 202, 203, 204, 206, 207, 208, 209] rfl (by decide +kernel)) (goodIn_sub (fun _ h => List.mem_cons_of_mem _ (List.mem_append_right _ h)) (by decide +kernel))) (goodIn_sub (fun _ h => List.mem_cons_of_mem _ (List.mem_append_left _ (List.mem_append_left _ (List.mem_append_right _ h)))) (by decide +kernel))) (goodIn_sub (fun _ h => List.mem_cons_of_mem _ (List.mem_append_left _ (List.mem_append_left _ (List.mem_append_left _ (List.mem_append_right _ h))))) (by decide +kernel))
set_option maxRecDepth 20000 in
theorem gL_circles_L_chainsBySteps : GoodIn wsL_circles (va_wsS RL 335 yL_chainsBySteps wsL_chainsBySteps) := goodIn_app (goodIn_of _ (by decide +kernel)) ggL_circles_L_chainsBySteps
set_option maxRecDepth 20000 in
theorem ggL_circles_X12_circles : GoodIn wsL_circles wsX12_circles := goodIn_ca (goodIn_r _ [152, 8, 9, 153, 154, 51, 155, 56, 37, 6, 38, 156, 50, 52, 53, 54, 55, 57, 58, 59, 60, 61, 33, 62, 35, 63, 64, 65, 66, 67, 68, 176, 177, 178, 179, 180, 181, 182, 183, 184, 185, 186, 187, 188, 189, 190, 191, 192, 193, 194, 195, 196, 197, 198, 199, 200, 201, 202, 203, 204] rfl (by decide +kernel)) (goodIn_sub (fun _ h => List.mem_cons_of_mem _ (List.mem_append_left _ (List.mem_append_left _ (List.mem_append_left _ (List.mem_append_right _ h))))) (by decide +kernel))
set_option maxRecDepth 20000 in
theorem gL_circles_X12_circles : GoodIn wsL_circles (wsV RL 337 RX12 yX12_circles wsX12_circles) := goodIn_app (goodIn_of _ (by decide +kernel)) ggL_circles_X12_circles
set_option maxRecDepth 20000 in
theorem ggL_circles_X12_circlesByReach : GoodIn wsL_circles wsX12_circlesByReach := goodIn_ca (goodIn_r _ [160, 161, 8, 9, 162, 163, 164, 51, 165, 56, 166, 167, 168, 169, 170, 171, 57, 6, 58, 37, 38, 172, 173, 174, 175, 176, 177, 178, 179, 180, 181, 182, 183, 184, 185, 186, 187, 188, 189, 190, 191, 192, 193, 194, 195, 196, 197, 198, 199, 200, 201, 202, 203, 204, 210] rfl (by decide +kernel)) (goodIn_sub (fun _ h => List.mem_cons_of_mem _ (List.mem_append_left _ (List.mem_append_left _ (List.mem_append_left _ (List.mem_append_right _ h))))) (by decide +kernel))
set_option maxRecDepth 20000 in
theorem gL_circles_X12_circlesByReach : GoodIn wsL_circles (wsV RL 340 RX12 yX12_circlesByReach wsX12_circlesByReach) := goodIn_app (goodIn_of _ (by decide +kernel)) ggL_circles_X12_circlesByReach
theorem dL_circles_0 : decode cL_circles 0 = .ok (.aload_n 0, 1) := by decide +kernel
theorem dL_circles_1 : decode cL_circles 1 = .ok (.invokevirtual 184, 3) := by decide +kernel
theorem dL_circles_4 : decode cL_circles 4 = .ok (.istore_n 2, 1) := by decide +kernel
theorem dL_circles_5 : decode cL_circles 5 = .ok (.iload_n 2, 1) := by decide +kernel
theorem dL_circles_6 : decode cL_circles 6 = .ok (.newarray .int, 2) := by decide +kernel
theorem dL_circles_8 : decode cL_circles 8 = .ok (.astore_n 3, 1) := by decide +kernel
theorem dL_circles_9 : decode cL_circles 9 = .ok (.iconst 0, 1) := by decide +kernel
theorem dL_circles_10 : decode cL_circles 10 = .ok (.istore 4, 2) := by decide +kernel
theorem dL_circles_12 : decode cL_circles 12 = .ok (.iload 4, 2) := by decide +kernel
theorem dL_circles_14 : decode cL_circles 14 = .ok (.iload_n 2, 1) := by decide +kernel
theorem dL_circles_15 : decode cL_circles 15 = .ok (.if_icmp .ge 20, 3) := by decide +kernel
theorem dL_circles_18 : decode cL_circles 18 = .ok (.aload_n 3, 1) := by decide +kernel
theorem dL_circles_19 : decode cL_circles 19 = .ok (.iload 4, 2) := by decide +kernel
theorem dL_circles_21 : decode cL_circles 21 = .ok (.aload_n 0, 1) := by decide +kernel
theorem dL_circles_22 : decode cL_circles 22 = .ok (.iload 4, 2) := by decide +kernel
theorem dL_circles_24 : decode cL_circles 24 = .ok (.iconst 0, 1) := by decide +kernel
theorem dL_circles_25 : decode cL_circles 25 = .ok (.invokestatic 325, 3) := by decide +kernel
theorem dL_circles_28 : decode cL_circles 28 = .ok (.iastore, 1) := by decide +kernel
theorem dL_circles_29 : decode cL_circles 29 = .ok (.iinc 4 1, 3) := by decide +kernel
theorem dL_circles_32 : decode cL_circles 32 = .ok (.goto (-20), 3) := by decide +kernel
theorem dL_circles_35 : decode cL_circles 35 = .ok (.iconst 0, 1) := by decide +kernel
theorem dL_circles_36 : decode cL_circles 36 = .ok (.istore 4, 2) := by decide +kernel
theorem dL_circles_38 : decode cL_circles 38 = .ok (.iconst 0, 1) := by decide +kernel
theorem dL_circles_39 : decode cL_circles 39 = .ok (.istore 5, 2) := by decide +kernel
theorem dL_circles_41 : decode cL_circles 41 = .ok (.iload 5, 2) := by decide +kernel
theorem dL_circles_43 : decode cL_circles 43 = .ok (.iload_n 2, 1) := by decide +kernel
theorem dL_circles_44 : decode cL_circles 44 = .ok (.if_icmp .ge 126, 3) := by decide +kernel
theorem dL_circles_47 : decode cL_circles 47 = .ok (.iconst 0, 1) := by decide +kernel
theorem dL_circles_48 : decode cL_circles 48 = .ok (.istore 6, 2) := by decide +kernel
theorem dL_circles_50 : decode cL_circles 50 = .ok (.iconst 1, 1) := by decide +kernel
theorem dL_circles_51 : decode cL_circles 51 = .ok (.istore 7, 2) := by decide +kernel
theorem dL_circles_53 : decode cL_circles 53 = .ok (.iconst 0, 1) := by decide +kernel
theorem dL_circles_54 : decode cL_circles 54 = .ok (.istore 8, 2) := by decide +kernel
theorem dL_circles_56 : decode cL_circles 56 = .ok (.iload 8, 2) := by decide +kernel
theorem dL_circles_58 : decode cL_circles 58 = .ok (.iload_n 2, 1) := by decide +kernel
theorem dL_circles_59 : decode cL_circles 59 = .ok (.if_icmp .ge 77, 3) := by decide +kernel
theorem dL_circles_62 : decode cL_circles 62 = .ok (.aload_n 3, 1) := by decide +kernel
theorem dL_circles_63 : decode cL_circles 63 = .ok (.iload 5, 2) := by decide +kernel
theorem dL_circles_65 : decode cL_circles 65 = .ok (.iaload, 1) := by decide +kernel
theorem dL_circles_66 : decode cL_circles 66 = .ok (.iload 8, 2) := by decide +kernel
theorem dL_circles_68 : decode cL_circles 68 = .ok (.invokestatic 265, 3) := by decide +kernel
theorem dL_circles_71 : decode cL_circles 71 = .ok (.ifCond .eq 19, 3) := by decide +kernel
theorem dL_circles_74 : decode cL_circles 74 = .ok (.aload_n 3, 1) := by decide +kernel
theorem dL_circles_75 : decode cL_circles 75 = .ok (.iload 8, 2) := by decide +kernel
theorem dL_circles_77 : decode cL_circles 77 = .ok (.iaload, 1) := by decide +kernel
theorem dL_circles_78 : decode cL_circles 78 = .ok (.iload 5, 2) := by decide +kernel
theorem dL_circles_80 : decode cL_circles 80 = .ok (.invokestatic 265, 3) := by decide +kernel
theorem dL_circles_83 : decode cL_circles 83 = .ok (.ifCond .eq 7, 3) := by decide +kernel
theorem dL_circles_86 : decode cL_circles 86 = .ok (.iconst 1, 1) := by decide +kernel
theorem dL_circles_87 : decode cL_circles 87 = .ok (.goto 4, 3) := by decide +kernel
theorem dL_circles_90 : decode cL_circles 90 = .ok (.iconst 0, 1) := by decide +kernel
theorem dL_circles_91 : decode cL_circles 91 = .ok (.istore 9, 2) := by decide +kernel
theorem dL_circles_93 : decode cL_circles 93 = .ok (.iload 6, 2) := by decide +kernel
theorem dL_circles_95 : decode cL_circles 95 = .ok (.iload 9, 2) := by decide +kernel
theorem dL_circles_97 : decode cL_circles 97 = .ok (.ifCond .eq 7, 3) := by decide +kernel
theorem dL_circles_100 : decode cL_circles 100 = .ok (.iconst 1, 1) := by decide +kernel
theorem dL_circles_101 : decode cL_circles 101 = .ok (.goto 4, 3) := by decide +kernel
theorem dL_circles_104 : decode cL_circles 104 = .ok (.iconst 0, 1) := by decide +kernel
theorem dL_circles_105 : decode cL_circles 105 = .ok (.iadd, 1) := by decide +kernel
theorem dL_circles_106 : decode cL_circles 106 = .ok (.istore 6, 2) := by decide +kernel
theorem dL_circles_108 : decode cL_circles 108 = .ok (.iload 7, 2) := by decide +kernel
theorem dL_circles_110 : decode cL_circles 110 = .ok (.iload 9, 2) := by decide +kernel
theorem dL_circles_112 : decode cL_circles 112 = .ok (.ifCond .eq 10, 3) := by decide +kernel
theorem dL_circles_115 : decode cL_circles 115 = .ok (.iload 8, 2) := by decide +kernel
theorem dL_circles_117 : decode cL_circles 117 = .ok (.iload 5, 2) := by decide +kernel
theorem dL_circles_119 : decode cL_circles 119 = .ok (.if_icmp .lt 7, 3) := by decide +kernel
theorem dL_circles_122 : decode cL_circles 122 = .ok (.iconst 1, 1) := by decide +kernel
theorem dL_circles_123 : decode cL_circles 123 = .ok (.goto 4, 3) := by decide +kernel
theorem dL_circles_126 : decode cL_circles 126 = .ok (.iconst 0, 1) := by decide +kernel
theorem dL_circles_127 : decode cL_circles 127 = .ok (.iand, 1) := by decide +kernel
theorem dL_circles_128 : decode cL_circles 128 = .ok (.istore 7, 2) := by decide +kernel
theorem dL_circles_130 : decode cL_circles 130 = .ok (.iinc 8 1, 3) := by decide +kernel
theorem dL_circles_133 : decode cL_circles 133 = .ok (.goto (-77), 3) := by decide +kernel
theorem dL_circles_136 : decode cL_circles 136 = .ok (.iload 4, 2) := by decide +kernel
theorem dL_circles_138 : decode cL_circles 138 = .ok (.iload 7, 2) := by decide +kernel
theorem dL_circles_140 : decode cL_circles 140 = .ok (.ifCond .eq 7, 3) := by decide +kernel
theorem dL_circles_143 : decode cL_circles 143 = .ok (.iconst 1, 1) := by decide +kernel
theorem dL_circles_144 : decode cL_circles 144 = .ok (.goto 4, 3) := by decide +kernel
theorem dL_circles_147 : decode cL_circles 147 = .ok (.iconst 0, 1) := by decide +kernel
theorem dL_circles_148 : decode cL_circles 148 = .ok (.iadd, 1) := by decide +kernel
theorem dL_circles_149 : decode cL_circles 149 = .ok (.istore 4, 2) := by decide +kernel
theorem dL_circles_151 : decode cL_circles 151 = .ok (.aload_n 0, 1) := by decide +kernel
theorem dL_circles_152 : decode cL_circles 152 = .ok (.iload 5, 2) := by decide +kernel
theorem dL_circles_154 : decode cL_circles 154 = .ok (.invokestatic 328, 3) := by decide +kernel
theorem dL_circles_157 : decode cL_circles 157 = .ok (.iload 6, 2) := by decide +kernel
theorem dL_circles_159 : decode cL_circles 159 = .ok (.if_icmp .eq 5, 3) := by decide +kernel
theorem dL_circles_162 : decode cL_circles 162 = .ok (.iconst 0, 1) := by decide +kernel
theorem dL_circles_163 : decode cL_circles 163 = .ok (.ireturn, 1) := by decide +kernel
theorem dL_circles_164 : decode cL_circles 164 = .ok (.iinc 5 1, 3) := by decide +kernel
theorem dL_circles_167 : decode cL_circles 167 = .ok (.goto (-126), 3) := by decide +kernel
theorem dL_circles_170 : decode cL_circles 170 = .ok (.iload_n 2, 1) := by decide +kernel
theorem dL_circles_171 : decode cL_circles 171 = .ok (.ifCond .le 174, 3) := by decide +kernel
theorem dL_circles_174 : decode cL_circles 174 = .ok (.aload_n 1, 1) := by decide +kernel
theorem dL_circles_175 : decode cL_circles 175 = .ok (.iload_n 2, 1) := by decide +kernel
theorem dL_circles_176 : decode cL_circles 176 = .ok (.invokevirtual 174, 3) := by decide +kernel
theorem dL_circles_179 : decode cL_circles 179 = .ok (.istore 5, 2) := by decide +kernel
theorem dL_circles_181 : decode cL_circles 181 = .ok (.aload_n 1, 1) := by decide +kernel
theorem dL_circles_182 : decode cL_circles 182 = .ok (.iload_n 2, 1) := by decide +kernel
theorem dL_circles_183 : decode cL_circles 183 = .ok (.invokevirtual 174, 3) := by decide +kernel
theorem dL_circles_186 : decode cL_circles 186 = .ok (.istore 6, 2) := by decide +kernel
theorem dL_circles_188 : decode cL_circles 188 = .ok (.iconst 1, 1) := by decide +kernel
theorem dL_circles_189 : decode cL_circles 189 = .ok (.aload_n 1, 1) := by decide +kernel
theorem dL_circles_190 : decode cL_circles 190 = .ok (.aload_n 1, 1) := by decide +kernel
theorem dL_circles_191 : decode cL_circles 191 = .ok (.iconst 2, 1) := by decide +kernel
theorem dL_circles_192 : decode cL_circles 192 = .ok (.invokevirtual 174, 3) := by decide +kernel
theorem dL_circles_195 : decode cL_circles 195 = .ok (.ifCond .ne 9, 3) := by decide +kernel
theorem dL_circles_198 : decode cL_circles 198 = .ok (.sipush 998, 3) := by decide +kernel
theorem dL_circles_201 : decode cL_circles 201 = .ok (.goto 5, 3) := by decide +kernel
theorem dL_circles_204 : decode cL_circles 204 = .ok (.bipush 6, 2) := by decide +kernel
theorem dL_circles_206 : decode cL_circles 206 = .ok (.invokevirtual 174, 3) := by decide +kernel
theorem dL_circles_209 : decode cL_circles 209 = .ok (.iadd, 1) := by decide +kernel
theorem dL_circles_210 : decode cL_circles 210 = .ok (.istore 7, 2) := by decide +kernel
theorem dL_circles_212 : decode cL_circles 212 = .ok (.lconst 0, 1) := by decide +kernel
theorem dL_circles_213 : decode cL_circles 213 = .ok (.lstore 8, 2) := by decide +kernel
theorem dL_circles_215 : decode cL_circles 215 = .ok (.iconst 0, 1) := by decide +kernel
theorem dL_circles_216 : decode cL_circles 216 = .ok (.istore 10, 2) := by decide +kernel
theorem dL_circles_218 : decode cL_circles 218 = .ok (.iload 10, 2) := by decide +kernel
theorem dL_circles_220 : decode cL_circles 220 = .ok (.iload_n 2, 1) := by decide +kernel
theorem dL_circles_221 : decode cL_circles 221 = .ok (.if_icmp .ge 43, 3) := by decide +kernel
theorem dL_circles_224 : decode cL_circles 224 = .ok (.lload 8, 2) := by decide +kernel
theorem dL_circles_226 : decode cL_circles 226 = .ok (.aload_n 0, 1) := by decide +kernel
theorem dL_circles_227 : decode cL_circles 227 = .ok (.iload 10, 2) := by decide +kernel
theorem dL_circles_229 : decode cL_circles 229 = .ok (.iload 6, 2) := by decide +kernel
theorem dL_circles_231 : decode cL_circles 231 = .ok (.invokestatic 268, 3) := by decide +kernel
theorem dL_circles_234 : decode cL_circles 234 = .ok (.iconst 1, 1) := by decide +kernel
theorem dL_circles_235 : decode cL_circles 235 = .ok (.if_icmp .ne 19, 3) := by decide +kernel
theorem dL_circles_238 : decode cL_circles 238 = .ok (.aload_n 0, 1) := by decide +kernel
theorem dL_circles_239 : decode cL_circles 239 = .ok (.iload 5, 2) := by decide +kernel
theorem dL_circles_241 : decode cL_circles 241 = .ok (.iload 10, 2) := by decide +kernel
theorem dL_circles_243 : decode cL_circles 243 = .ok (.iload 7, 2) := by decide +kernel
theorem dL_circles_245 : decode cL_circles 245 = .ok (.iconst 1, 1) := by decide +kernel
theorem dL_circles_246 : decode cL_circles 246 = .ok (.isub, 1) := by decide +kernel
theorem dL_circles_247 : decode cL_circles 247 = .ok (.invokestatic 330, 3) := by decide +kernel
theorem dL_circles_250 : decode cL_circles 250 = .ok (.i2l, 1) := by decide +kernel
theorem dL_circles_251 : decode cL_circles 251 = .ok (.goto 4, 3) := by decide +kernel
theorem dL_circles_254 : decode cL_circles 254 = .ok (.lconst 0, 1) := by decide +kernel
theorem dL_circles_255 : decode cL_circles 255 = .ok (.ladd, 1) := by decide +kernel
theorem dL_circles_256 : decode cL_circles 256 = .ok (.lstore 8, 2) := by decide +kernel
theorem dL_circles_258 : decode cL_circles 258 = .ok (.iinc 10 1, 3) := by decide +kernel
theorem dL_circles_261 : decode cL_circles 261 = .ok (.goto (-43), 3) := by decide +kernel
theorem dL_circles_264 : decode cL_circles 264 = .ok (.aload_n 0, 1) := by decide +kernel
theorem dL_circles_265 : decode cL_circles 265 = .ok (.iload 5, 2) := by decide +kernel
theorem dL_circles_267 : decode cL_circles 267 = .ok (.iload 6, 2) := by decide +kernel
theorem dL_circles_269 : decode cL_circles 269 = .ok (.iload 7, 2) := by decide +kernel
theorem dL_circles_271 : decode cL_circles 271 = .ok (.invokestatic 330, 3) := by decide +kernel
theorem dL_circles_274 : decode cL_circles 274 = .ok (.istore 10, 2) := by decide +kernel
theorem dL_circles_276 : decode cL_circles 276 = .ok (.iload 10, 2) := by decide +kernel
theorem dL_circles_278 : decode cL_circles 278 = .ok (.lload 8, 2) := by decide +kernel
theorem dL_circles_280 : decode cL_circles 280 = .ok (.ldc2_w 333, 3) := by decide +kernel
theorem dL_circles_283 : decode cL_circles 283 = .ok (.lrem, 1) := by decide +kernel
theorem dL_circles_284 : decode cL_circles 284 = .ok (.l2i, 1) := by decide +kernel
theorem dL_circles_285 : decode cL_circles 285 = .ok (.if_icmp .ne 58, 3) := by decide +kernel
theorem dL_circles_288 : decode cL_circles 288 = .ok (.aload_n 0, 1) := by decide +kernel
theorem dL_circles_289 : decode cL_circles 289 = .ok (.iload 5, 2) := by decide +kernel
theorem dL_circles_291 : decode cL_circles 291 = .ok (.iload 6, 2) := by decide +kernel
theorem dL_circles_293 : decode cL_circles 293 = .ok (.iload 7, 2) := by decide +kernel
theorem dL_circles_295 : decode cL_circles 295 = .ok (.invokestatic 335, 3) := by decide +kernel
theorem dL_circles_298 : decode cL_circles 298 = .ok (.iload 10, 2) := by decide +kernel
theorem dL_circles_300 : decode cL_circles 300 = .ok (.if_icmp .ne 43, 3) := by decide +kernel
theorem dL_circles_303 : decode cL_circles 303 = .ok (.aload_n 0, 1) := by decide +kernel
theorem dL_circles_304 : decode cL_circles 304 = .ok (.iload 5, 2) := by decide +kernel
theorem dL_circles_306 : decode cL_circles 306 = .ok (.iload 6, 2) := by decide +kernel
theorem dL_circles_308 : decode cL_circles 308 = .ok (.iconst 0, 1) := by decide +kernel
theorem dL_circles_309 : decode cL_circles 309 = .ok (.invokestatic 330, 3) := by decide +kernel
theorem dL_circles_312 : decode cL_circles 312 = .ok (.iload 5, 2) := by decide +kernel
theorem dL_circles_314 : decode cL_circles 314 = .ok (.iload 6, 2) := by decide +kernel
theorem dL_circles_316 : decode cL_circles 316 = .ok (.if_icmp .ne 7, 3) := by decide +kernel
theorem dL_circles_319 : decode cL_circles 319 = .ok (.iconst 1, 1) := by decide +kernel
theorem dL_circles_320 : decode cL_circles 320 = .ok (.goto 4, 3) := by decide +kernel
theorem dL_circles_323 : decode cL_circles 323 = .ok (.iconst 0, 1) := by decide +kernel
theorem dL_circles_324 : decode cL_circles 324 = .ok (.if_icmp .ne 19, 3) := by decide +kernel
theorem dL_circles_327 : decode cL_circles 327 = .ok (.aload_n 0, 1) := by decide +kernel
theorem dL_circles_328 : decode cL_circles 328 = .ok (.iload 5, 2) := by decide +kernel
theorem dL_circles_330 : decode cL_circles 330 = .ok (.iload 6, 2) := by decide +kernel
theorem dL_circles_332 : decode cL_circles 332 = .ok (.sipush 1000, 3) := by decide +kernel
theorem dL_circles_335 : decode cL_circles 335 = .ok (.invokestatic 330, 3) := by decide +kernel
theorem dL_circles_338 : decode cL_circles 338 = .ok (.bipush (-2), 2) := by decide +kernel
theorem dL_circles_340 : decode cL_circles 340 = .ok (.if_icmp .eq 5, 3) := by decide +kernel
theorem dL_circles_343 : decode cL_circles 343 = .ok (.iconst 0, 1) := by decide +kernel
theorem dL_circles_344 : decode cL_circles 344 = .ok (.ireturn, 1) := by decide +kernel
theorem dL_circles_345 : decode cL_circles 345 = .ok (.aload_n 0, 1) := by decide +kernel
theorem dL_circles_346 : decode cL_circles 346 = .ok (.invokevirtual 337, 3) := by decide +kernel
theorem dL_circles_349 : decode cL_circles 349 = .ok (.iload 4, 2) := by decide +kernel
theorem dL_circles_351 : decode cL_circles 351 = .ok (.if_icmp .ne 36, 3) := by decide +kernel
theorem dL_circles_354 : decode cL_circles 354 = .ok (.aload_n 0, 1) := by decide +kernel
theorem dL_circles_355 : decode cL_circles 355 = .ok (.invokevirtual 340, 3) := by decide +kernel
theorem dL_circles_358 : decode cL_circles 358 = .ok (.iload 4, 2) := by decide +kernel
theorem dL_circles_360 : decode cL_circles 360 = .ok (.if_icmp .ne 27, 3) := by decide +kernel
theorem dL_circles_363 : decode cL_circles 363 = .ok (.aload_n 0, 1) := by decide +kernel
theorem dL_circles_364 : decode cL_circles 364 = .ok (.iload_n 2, 1) := by decide +kernel
theorem dL_circles_365 : decode cL_circles 365 = .ok (.iconst 0, 1) := by decide +kernel
theorem dL_circles_366 : decode cL_circles 366 = .ok (.iconst 0, 1) := by decide +kernel
theorem dL_circles_367 : decode cL_circles 367 = .ok (.invokestatic 330, 3) := by decide +kernel
theorem dL_circles_370 : decode cL_circles 370 = .ok (.iconst (-1), 1) := by decide +kernel
theorem dL_circles_371 : decode cL_circles 371 = .ok (.if_icmp .ne 16, 3) := by decide +kernel
theorem dL_circles_374 : decode cL_circles 374 = .ok (.aload_n 0, 1) := by decide +kernel
theorem dL_circles_375 : decode cL_circles 375 = .ok (.iload_n 2, 1) := by decide +kernel
theorem dL_circles_376 : decode cL_circles 376 = .ok (.invokestatic 328, 3) := by decide +kernel
theorem dL_circles_379 : decode cL_circles 379 = .ok (.iconst (-1), 1) := by decide +kernel
theorem dL_circles_380 : decode cL_circles 380 = .ok (.if_icmp .ne 7, 3) := by decide +kernel
theorem dL_circles_383 : decode cL_circles 383 = .ok (.iconst 1, 1) := by decide +kernel
theorem dL_circles_384 : decode cL_circles 384 = .ok (.goto 4, 3) := by decide +kernel
theorem dL_circles_387 : decode cL_circles 387 = .ok (.iconst 0, 1) := by decide +kernel
theorem dL_circles_388 : decode cL_circles 388 = .ok (.ireturn, 1) := by decide +kernel
set_option maxRecDepth 20000 in
theorem ggL_racks_X12_describeRacks : GoodIn wsL_racks wsX12_describeRacks := goodIn_ca (goodIn_r _ [6, 7, 8, 9, 10, 11, 12, 13, 14, 5, 15, 16, 366, 367, 368, 369, 370, 371, 372, 373, 374, 375, 376, 377, 378, 379, 380, 381, 382, 383, 384, 385, 386, 387, 388, 389, 390] rfl (by decide +kernel)) (goodIn_sub (fun _ h => List.mem_cons_of_mem _ (List.mem_append_left _ (List.mem_append_left _ (List.mem_append_right _ h)))) (by decide +kernel))
set_option maxRecDepth 20000 in
theorem gL_racks_X12_describeRacks : GoodIn wsL_racks (wsV RL 218 RX12 yX12_describeRacks wsX12_describeRacks) := goodIn_app (goodIn_of _ (by decide +kernel)) ggL_racks_X12_describeRacks
set_option maxRecDepth 20000 in
theorem ggL_racks_L_said : GoodIn wsL_racks wsL_said := goodIn_ca (goodIn_ca (goodIn_r _ [20, 21, 22, 23, 24, 25, 26, 27, 28, 29, 30, 31, 32, 33, 34, 35, 36, 37, 38, 39, 40, 41, 42, 43, 44, 45, 46, 47, 19, 48, 49, 50, 51, 52, 5, 53, 54, 55, 7, 16, 56, 57, 58, 59, 60, 61, 62, 63, 64, 65, 66, 67, 68, 69, 70, 71, 72, 73, 74, 75, 76, 77, 78, 79, 80, 81, 82, 83, 84, 85, 86, 87, 88, 89, 90, 91, 92, 93, 94, 95, 96, 97, 98, 99, 100, 101, 102, 103, 104, 105, 106, 107, 108, 109, 110, 111, 112, 113, 114, 115, 116, 117, 118, 119, 120, 121, 122, 123, 124, 125, 126, 127, 128, 129, 130, 131, 132, 133, 134, 135, 136, 137, 138, 139, 140, 141, 142, 143, 144, 145, 146, 147, 148, 149, 150, 151, 152, 153, 154, 155, 156, 157, 158, 159, 160, 161, 162, 163, 164, 165, 166, 167, 168, 169, 170, 171, 172, 173, 174, 175, 176, 177, 178, 179, 180, 181, 182, 183, 184, 185, 186, 187, 188, 189, 190, 191, 192, 193, 194, 195, 196, 197, 198, 199, 200, 201, 202, 203, 204, 205, 206, 207, 208, 209, 210, 211, 212, 213, 391, 392, 393, 394, 366, 367, 368, 369, 370, 371, 372, 373, 374, 375, 376, 377, 378, 379, 380, 381, 395, 396, 397, 398] rfl (by decide +kernel)) (goodIn_sub (fun _ h => List.mem_cons_of_mem _ (List.mem_append_left _ (List.mem_append_right _ h))) (by decide +kernel))) (goodIn_sub (fun _ h => List.mem_cons_of_mem _ (List.mem_append_left _ (List.mem_append_left _ (List.mem_append_right _ h)))) (by decide +kernel))
set_option maxRecDepth 20000 in
theorem gL_racks_L_said : GoodIn wsL_racks (va_wsS RL 221 yL_said wsL_said) := goodIn_app (goodIn_of _ (by decide +kernel)) ggL_racks_L_said
set_option maxRecDepth 20000 in
theorem ggL_racks_J0_charAt_5068e : GoodIn wsL_racks wsJ0_charAt_5068e := goodIn_r _ [217, 173, 218, 219, 220, 134, 221, 174, 172, 222, 223, 113, 224, 225, 154, 155, 136, 156, 157, 139, 158, 226, 227, 40, 228, 150, 151, 152, 129, 130, 131, 153, 207, 208, 209, 144, 145, 146, 395, 396, 397, 398] rfl (by decide +kernel)
set_option maxRecDepth 20000 in
theorem gL_racks_J0_charAt_5068e : GoodIn wsL_racks (wsV RL 168 RJ0 yJ0_charAt_5068e wsJ0_charAt_5068e) := goodIn_app (goodIn_of _ (by decide +kernel)) ggL_racks_J0_charAt_5068e
set_option maxRecDepth 20000 in
theorem ggL_racks_L_remarkAt : GoodIn wsL_racks wsL_remarkAt := goodIn_ca (goodIn_ca (goodIn_r _ [231, 49, 232, 233, 234, 5, 235, 54, 55, 8, 9, 11, 236, 237, 238, 239, 240, 241, 366, 367, 368, 369, 370, 371, 372, 373, 374, 375, 376, 377, 378, 379, 380, 381, 382, 383, 384, 385, 386, 387, 388, 389, 390] rfl (by decide +kernel)) (goodIn_sub (fun _ h => List.mem_cons_of_mem _ (List.mem_append_left _ (List.mem_append_right _ h))) (by decide +kernel))) (goodIn_sub (fun _ h => List.mem_cons_of_mem _ (List.mem_append_left _ (List.mem_append_left _ (List.mem_append_right _ h)))) (by decide +kernel))
set_option maxRecDepth 20000 in
theorem gL_racks_L_remarkAt : GoodIn wsL_racks (va_wsS RL 343 yL_remarkAt wsL_remarkAt) := goodIn_app (goodIn_of _ (by decide +kernel)) ggL_racks_L_remarkAt
set_option maxRecDepth 20000 in
theorem ggL_racks_L_depthOf : GoodIn wsL_racks wsL_depthOf := goodIn_ca (goodIn_ca (goodIn_r _ [244, 49, 245, 246, 247, 5, 248, 54, 55, 8, 9, 236, 237, 238, 249, 250, 251, 252, 253, 254, 255, 256, 257, 366, 367, 368, 369, 370, 371, 372, 373, 374, 375, 376, 377, 378, 379, 380, 381, 382, 383, 384, 385, 386, 387, 388, 389, 390] rfl (by decide +kernel)) (goodIn_sub (fun _ h => List.mem_cons_of_mem _ (List.mem_append_left _ (List.mem_append_right _ h))) (by decide +kernel))) (goodIn_sub (fun _ h => List.mem_cons_of_mem _ (List.mem_append_left _ (List.mem_append_left _ (List.mem_append_right _ h)))) (by decide +kernel))
set_option maxRecDepth 20000 in
theorem gL_racks_L_depthOf : GoodIn wsL_racks (va_wsS RL 345 yL_depthOf wsL_depthOf) := goodIn_app (goodIn_of _ (by decide +kernel)) ggL_racks_L_depthOf
set_option maxRecDepth 20000 in
theorem ggL_racks_X12_logCount : GoodIn wsL_racks wsX12_logCount := goodIn_r _ [261, 8, 262, 263, 366, 367, 368, 369, 370, 371, 372, 373, 374, 375, 376, 377, 378, 379, 380, 381, 382, 383, 384, 385, 386, 387, 388, 399, 400, 401, 402] rfl (by decide +kernel)
set_option maxRecDepth 20000 in
theorem gL_racks_X12_logCount : GoodIn wsL_racks (wsV RL 246 RX12 yX12_logCount wsX12_logCount) := goodIn_app (goodIn_of _ (by decide +kernel)) ggL_racks_X12_logCount
set_option maxRecDepth 20000 in
theorem ggL_racks_L_logShift : GoodIn wsL_racks wsL_logShift := goodIn_ca (goodIn_ca (goodIn_r _ [266, 267, 268, 269, 270, 5, 271, 8, 262, 272, 273, 274, 275, 276, 277, 278, 263, 279, 280, 281, 282, 283, 284, 285, 286, 287, 288, 366, 367, 368, 369, 370, 371, 372, 373, 374, 375, 376, 377, 378, 379, 380, 381, 382, 383, 384, 385, 386, 387, 388, 399, 400, 401, 402] rfl (by decide +kernel)) (goodIn_sub (fun _ h => List.mem_cons_of_mem _ (List.mem_append_left _ (List.mem_append_left _ (List.mem_append_right _ h)))) (by decide +kernel))) (goodIn_sub (fun _ h => List.mem_cons_of_mem _ (List.mem_append_right _ h)) (by decide +kernel))
set_option maxRecDepth 20000 in
theorem gL_racks_L_logShift : GoodIn wsL_racks (va_wsS RL 251 yL_logShift wsL_logShift) := goodIn_app (goodIn_of _ (by decide +kernel)) ggL_racks_L_logShift
set_option maxRecDepth 20000 in
theorem ggL_racks_X12_shiftCount : GoodIn wsL_racks wsX12_shiftCount := goodIn_r _ [292, 8, 293, 366, 367, 368, 369, 370, 371, 372, 373, 374, 375, 376, 377, 378, 379, 380, 381, 382, 383, 384, 385, 386, 387, 388] rfl (by decide +kernel)
set_option maxRecDepth 20000 in
theorem gL_racks_X12_shiftCount : GoodIn wsL_racks (wsV RL 257 RX12 yX12_shiftCount wsX12_shiftCount) := goodIn_app (goodIn_of _ (by decide +kernel)) ggL_racks_X12_shiftCount
set_option maxRecDepth 20000 in
theorem ggL_racks_L_logKind : GoodIn wsL_racks wsL_logKind := goodIn_ca (goodIn_ca (goodIn_r _ [296, 267, 297, 298, 299, 5, 300, 8, 262, 301, 273, 274, 275, 276, 277, 278, 263, 279, 280, 281, 282, 283, 284, 285, 286, 287, 288, 366, 367, 368, 369, 370, 371, 372, 373, 374, 375, 376, 377, 378, 379, 380, 381, 382, 383, 384, 385, 386, 387, 388, 399, 400, 401, 402] rfl (by decide +kernel)) (goodIn_sub (fun _ h => List.mem_cons_of_mem _ (List.mem_append_left _ (List.mem_append_left _ (List.mem_append_right _ h)))) (by decide +kernel))) (goodIn_sub (fun _ h => List.mem_cons_of_mem _ (List.mem_append_right _ h)) (by decide +kernel))
set_option maxRecDepth 20000 in
theorem gL_racks_L_logKind : GoodIn wsL_racks (va_wsS RL 249 yL_logKind wsL_logKind) := goodIn_app (goodIn_of _ (by decide +kernel)) ggL_racks_L_logKind
set_option maxRecDepth 20000 in
theorem ggL_racks_J0_indexOf_0f7a4 : GoodIn wsL_racks wsJ0_indexOf_0f7a4 := goodIn_r _ [305, 306, 307, 308, 134, 309, 173, 218, 219, 220, 221, 174, 172, 310, 311, 312, 313, 314, 315, 316, 317, 318, 319, 113, 320, 321, 82, 83, 84, 322, 100, 101, 323, 324, 325, 326, 327, 328, 329, 330, 40, 331, 332, 333, 334, 335, 336, 337, 338, 339, 340, 129, 130, 131, 341, 342, 343, 136, 344, 345, 139, 346, 347, 348, 349, 207, 208, 209, 144, 145, 146, 350, 351, 352, 353, 354, 355, 356, 357, 358, 359, 360, 361, 362, 363, 364, 395, 396, 397, 398] rfl (by decide +kernel)
set_option maxRecDepth 20000 in
theorem gL_racks_J0_indexOf_0f7a4 : GoodIn wsL_racks (wsV RL 350 RJ0 yJ0_indexOf_0f7a4 wsJ0_indexOf_0f7a4) := goodIn_app (goodIn_of _ (by decide +kernel)) ggL_racks_J0_indexOf_0f7a4
set_option maxRecDepth 20000 in
theorem ggL_racks_J0_length_8abf5 : GoodIn wsL_racks wsJ0_length_8abf5 := goodIn_r _ [313, 173, 314, 315, 316, 134, 317, 174, 172, 395, 396, 397, 398] rfl (by decide +kernel)
set_option maxRecDepth 20000 in
theorem gL_racks_J0_length_8abf5 : GoodIn wsL_racks (wsV RL 163 RJ0 yJ0_length_8abf5 wsJ0_length_8abf5) := goodIn_app (goodIn_of _ (by decide +kernel)) ggL_racks_J0_length_8abf5
theorem dL_racks_0 : decode cL_racks 0 = .ok (.aload_n 0, 1) := by decide +kernel
theorem dL_racks_1 : decode cL_racks 1 = .ok (.aload_n 0, 1) := by decide +kernel
theorem dL_racks_2 : decode cL_racks 2 = .ok (.invokevirtual 218, 3) := by decide +kernel
theorem dL_racks_5 : decode cL_racks 5 = .ok (.invokestatic 221, 3) := by decide +kernel
theorem dL_racks_8 : decode cL_racks 8 = .ok (.astore_n 1, 1) := by decide +kernel
theorem dL_racks_9 : decode cL_racks 9 = .ok (.iconst 0, 1) := by decide +kernel
theorem dL_racks_10 : decode cL_racks 10 = .ok (.istore_n 2, 1) := by decide +kernel
theorem dL_racks_11 : decode cL_racks 11 = .ok (.iload_n 2, 1) := by decide +kernel
theorem dL_racks_12 : decode cL_racks 12 = .ok (.iconst 4, 1) := by decide +kernel
theorem dL_racks_13 : decode cL_racks 13 = .ok (.if_icmp .ge 140, 3) := by decide +kernel
theorem dL_racks_16 : decode cL_racks 16 = .ok (.iconst 0, 1) := by decide +kernel
theorem dL_racks_17 : decode cL_racks 17 = .ok (.istore_n 3, 1) := by decide +kernel
theorem dL_racks_18 : decode cL_racks 18 = .ok (.aload_n 1, 1) := by decide +kernel
theorem dL_racks_19 : decode cL_racks 19 = .ok (.iconst 5, 1) := by decide +kernel
theorem dL_racks_20 : decode cL_racks 20 = .ok (.iload_n 2, 1) := by decide +kernel
theorem dL_racks_21 : decode cL_racks 21 = .ok (.imul, 1) := by decide +kernel
theorem dL_racks_22 : decode cL_racks 22 = .ok (.invokevirtual 168, 3) := by decide +kernel
theorem dL_racks_25 : decode cL_racks 25 = .ok (.istore 4, 2) := by decide +kernel
theorem dL_racks_27 : decode cL_racks 27 = .ok (.iconst 0, 1) := by decide +kernel
theorem dL_racks_28 : decode cL_racks 28 = .ok (.istore 5, 2) := by decide +kernel
theorem dL_racks_30 : decode cL_racks 30 = .ok (.iload 5, 2) := by decide +kernel
theorem dL_racks_32 : decode cL_racks 32 = .ok (.iconst 3, 1) := by decide +kernel
theorem dL_racks_33 : decode cL_racks 33 = .ok (.if_icmp .ge 85, 3) := by decide +kernel
theorem dL_racks_36 : decode cL_racks 36 = .ok (.aload_n 0, 1) := by decide +kernel
theorem dL_racks_37 : decode cL_racks 37 = .ok (.iload_n 2, 1) := by decide +kernel
theorem dL_racks_38 : decode cL_racks 38 = .ok (.iload 5, 2) := by decide +kernel
theorem dL_racks_40 : decode cL_racks 40 = .ok (.invokestatic 343, 3) := by decide +kernel
theorem dL_racks_43 : decode cL_racks 43 = .ok (.i2c, 1) := by decide +kernel
theorem dL_racks_44 : decode cL_racks 44 = .ok (.istore 6, 2) := by decide +kernel
theorem dL_racks_46 : decode cL_racks 46 = .ok (.iload_n 3, 1) := by decide +kernel
theorem dL_racks_47 : decode cL_racks 47 = .ok (.iload 6, 2) := by decide +kernel
theorem dL_racks_49 : decode cL_racks 49 = .ok (.bipush 113, 2) := by decide +kernel
theorem dL_racks_51 : decode cL_racks 51 = .ok (.if_icmp .ne 7, 3) := by decide +kernel
theorem dL_racks_54 : decode cL_racks 54 = .ok (.iconst 2, 1) := by decide +kernel
theorem dL_racks_55 : decode cL_racks 55 = .ok (.goto 15, 3) := by decide +kernel
theorem dL_racks_58 : decode cL_racks 58 = .ok (.iload 6, 2) := by decide +kernel
theorem dL_racks_60 : decode cL_racks 60 = .ok (.bipush 111, 2) := by decide +kernel
theorem dL_racks_62 : decode cL_racks 62 = .ok (.if_icmp .ne 7, 3) := by decide +kernel
theorem dL_racks_65 : decode cL_racks 65 = .ok (.iconst 3, 1) := by decide +kernel
theorem dL_racks_66 : decode cL_racks 66 = .ok (.goto 4, 3) := by decide +kernel
theorem dL_racks_69 : decode cL_racks 69 = .ok (.iconst 0, 1) := by decide +kernel
theorem dL_racks_70 : decode cL_racks 70 = .ok (.iadd, 1) := by decide +kernel
theorem dL_racks_71 : decode cL_racks 71 = .ok (.istore_n 3, 1) := by decide +kernel
theorem dL_racks_72 : decode cL_racks 72 = .ok (.iload 6, 2) := by decide +kernel
theorem dL_racks_74 : decode cL_racks 74 = .ok (.aload_n 1, 1) := by decide +kernel
theorem dL_racks_75 : decode cL_racks 75 = .ok (.iconst 5, 1) := by decide +kernel
theorem dL_racks_76 : decode cL_racks 76 = .ok (.iload_n 2, 1) := by decide +kernel
theorem dL_racks_77 : decode cL_racks 77 = .ok (.imul, 1) := by decide +kernel
theorem dL_racks_78 : decode cL_racks 78 = .ok (.iconst 1, 1) := by decide +kernel
theorem dL_racks_79 : decode cL_racks 79 = .ok (.iadd, 1) := by decide +kernel
theorem dL_racks_80 : decode cL_racks 80 = .ok (.iload 5, 2) := by decide +kernel
theorem dL_racks_82 : decode cL_racks 82 = .ok (.iadd, 1) := by decide +kernel
theorem dL_racks_83 : decode cL_racks 83 = .ok (.invokevirtual 168, 3) := by decide +kernel
theorem dL_racks_86 : decode cL_racks 86 = .ok (.if_icmp .ne 24, 3) := by decide +kernel
theorem dL_racks_89 : decode cL_racks 89 = .ok (.iload 6, 2) := by decide +kernel
theorem dL_racks_91 : decode cL_racks 91 = .ok (.bipush 46, 2) := by decide +kernel
theorem dL_racks_93 : decode cL_racks 93 = .ok (.if_icmp .eq 19, 3) := by decide +kernel
theorem dL_racks_96 : decode cL_racks 96 = .ok (.iload 4, 2) := by decide +kernel
theorem dL_racks_98 : decode cL_racks 98 = .ok (.bipush 97, 2) := by decide +kernel
theorem dL_racks_100 : decode cL_racks 100 = .ok (.if_icmp .eq 12, 3) := by decide +kernel
theorem dL_racks_103 : decode cL_racks 103 = .ok (.iload 4, 2) := by decide +kernel
theorem dL_racks_105 : decode cL_racks 105 = .ok (.iload 6, 2) := by decide +kernel
theorem dL_racks_107 : decode cL_racks 107 = .ok (.if_icmp .eq 5, 3) := by decide +kernel
theorem dL_racks_110 : decode cL_racks 110 = .ok (.iconst 0, 1) := by decide +kernel
theorem dL_racks_111 : decode cL_racks 111 = .ok (.ireturn, 1) := by decide +kernel
theorem dL_racks_112 : decode cL_racks 112 = .ok (.iinc 5 1, 3) := by decide +kernel
theorem dL_racks_115 : decode cL_racks 115 = .ok (.goto (-85), 3) := by decide +kernel
theorem dL_racks_118 : decode cL_racks 118 = .ok (.aload_n 0, 1) := by decide +kernel
theorem dL_racks_119 : decode cL_racks 119 = .ok (.iload_n 2, 1) := by decide +kernel
theorem dL_racks_120 : decode cL_racks 120 = .ok (.invokestatic 345, 3) := by decide +kernel
theorem dL_racks_123 : decode cL_racks 123 = .ok (.iload_n 3, 1) := by decide +kernel
theorem dL_racks_124 : decode cL_racks 124 = .ok (.if_icmp .ne 21, 3) := by decide +kernel
theorem dL_racks_127 : decode cL_racks 127 = .ok (.iload_n 2, 1) := by decide +kernel
theorem dL_racks_128 : decode cL_racks 128 = .ok (.ifCond .le 19, 3) := by decide +kernel
theorem dL_racks_131 : decode cL_racks 131 = .ok (.aload_n 1, 1) := by decide +kernel
theorem dL_racks_132 : decode cL_racks 132 = .ok (.iconst 5, 1) := by decide +kernel
theorem dL_racks_133 : decode cL_racks 133 = .ok (.iload_n 2, 1) := by decide +kernel
theorem dL_racks_134 : decode cL_racks 134 = .ok (.imul, 1) := by decide +kernel
theorem dL_racks_135 : decode cL_racks 135 = .ok (.iconst 1, 1) := by decide +kernel
theorem dL_racks_136 : decode cL_racks 136 = .ok (.isub, 1) := by decide +kernel
theorem dL_racks_137 : decode cL_racks 137 = .ok (.invokevirtual 168, 3) := by decide +kernel
theorem dL_racks_140 : decode cL_racks 140 = .ok (.bipush 32, 2) := by decide +kernel
theorem dL_racks_142 : decode cL_racks 142 = .ok (.if_icmp .eq 5, 3) := by decide +kernel
theorem dL_racks_145 : decode cL_racks 145 = .ok (.iconst 0, 1) := by decide +kernel
theorem dL_racks_146 : decode cL_racks 146 = .ok (.ireturn, 1) := by decide +kernel
theorem dL_racks_147 : decode cL_racks 147 = .ok (.iinc 2 1, 3) := by decide +kernel
theorem dL_racks_150 : decode cL_racks 150 = .ok (.goto (-139), 3) := by decide +kernel
theorem dL_racks_153 : decode cL_racks 153 = .ok (.ldc_w 347, 3) := by decide +kernel
theorem dL_racks_156 : decode cL_racks 156 = .ok (.istore_n 2, 1) := by decide +kernel
theorem dL_racks_157 : decode cL_racks 157 = .ok (.iconst 0, 1) := by decide +kernel
theorem dL_racks_158 : decode cL_racks 158 = .ok (.istore_n 3, 1) := by decide +kernel
theorem dL_racks_159 : decode cL_racks 159 = .ok (.iload_n 3, 1) := by decide +kernel
theorem dL_racks_160 : decode cL_racks 160 = .ok (.aload_n 0, 1) := by decide +kernel
theorem dL_racks_161 : decode cL_racks 161 = .ok (.invokevirtual 246, 3) := by decide +kernel
theorem dL_racks_164 : decode cL_racks 164 = .ok (.if_icmp .ge 52, 3) := by decide +kernel
theorem dL_racks_167 : decode cL_racks 167 = .ok (.aload_n 0, 1) := by decide +kernel
theorem dL_racks_168 : decode cL_racks 168 = .ok (.iload_n 3, 1) := by decide +kernel
theorem dL_racks_169 : decode cL_racks 169 = .ok (.invokestatic 251, 3) := by decide +kernel
theorem dL_racks_172 : decode cL_racks 172 = .ok (.iload_n 2, 1) := by decide +kernel
theorem dL_racks_173 : decode cL_racks 173 = .ok (.if_icmp .gt 29, 3) := by decide +kernel
theorem dL_racks_176 : decode cL_racks 176 = .ok (.aload_n 0, 1) := by decide +kernel
theorem dL_racks_177 : decode cL_racks 177 = .ok (.iload_n 3, 1) := by decide +kernel
theorem dL_racks_178 : decode cL_racks 178 = .ok (.invokestatic 251, 3) := by decide +kernel
theorem dL_racks_181 : decode cL_racks 181 = .ok (.aload_n 0, 1) := by decide +kernel
theorem dL_racks_182 : decode cL_racks 182 = .ok (.invokevirtual 257, 3) := by decide +kernel
theorem dL_racks_185 : decode cL_racks 185 = .ok (.if_icmp .gt 17, 3) := by decide +kernel
theorem dL_racks_188 : decode cL_racks 188 = .ok (.ldc_w 348, 3) := by decide +kernel
theorem dL_racks_191 : decode cL_racks 191 = .ok (.aload_n 0, 1) := by decide +kernel
theorem dL_racks_192 : decode cL_racks 192 = .ok (.iload_n 3, 1) := by decide +kernel
theorem dL_racks_193 : decode cL_racks 193 = .ok (.invokestatic 249, 3) := by decide +kernel
theorem dL_racks_196 : decode cL_racks 196 = .ok (.invokevirtual 350, 3) := by decide +kernel
theorem dL_racks_199 : decode cL_racks 199 = .ok (.ifCond .ge 5, 3) := by decide +kernel
theorem dL_racks_202 : decode cL_racks 202 = .ok (.iconst 0, 1) := by decide +kernel
theorem dL_racks_203 : decode cL_racks 203 = .ok (.ireturn, 1) := by decide +kernel
theorem dL_racks_204 : decode cL_racks 204 = .ok (.aload_n 0, 1) := by decide +kernel
theorem dL_racks_205 : decode cL_racks 205 = .ok (.iload_n 3, 1) := by decide +kernel
theorem dL_racks_206 : decode cL_racks 206 = .ok (.invokestatic 251, 3) := by decide +kernel
theorem dL_racks_209 : decode cL_racks 209 = .ok (.istore_n 2, 1) := by decide +kernel
theorem dL_racks_210 : decode cL_racks 210 = .ok (.iinc 3 1, 3) := by decide +kernel
theorem dL_racks_213 : decode cL_racks 213 = .ok (.goto (-54), 3) := by decide +kernel
theorem dL_racks_216 : decode cL_racks 216 = .ok (.aload_n 1, 1) := by decide +kernel
theorem dL_racks_217 : decode cL_racks 217 = .ok (.invokevirtual 163, 3) := by decide +kernel
theorem dL_racks_220 : decode cL_racks 220 = .ok (.bipush 19, 2) := by decide +kernel
theorem dL_racks_222 : decode cL_racks 222 = .ok (.if_icmp .ne 47, 3) := by decide +kernel
theorem dL_racks_225 : decode cL_racks 225 = .ok (.aload_n 0, 1) := by decide +kernel
theorem dL_racks_226 : decode cL_racks 226 = .ok (.iconst 4, 1) := by decide +kernel
theorem dL_racks_227 : decode cL_racks 227 = .ok (.invokestatic 345, 3) := by decide +kernel
theorem dL_racks_230 : decode cL_racks 230 = .ok (.iconst (-1), 1) := by decide +kernel
theorem dL_racks_231 : decode cL_racks 231 = .ok (.if_icmp .ne 38, 3) := by decide +kernel
theorem dL_racks_234 : decode cL_racks 234 = .ok (.aload_n 0, 1) := by decide +kernel
theorem dL_racks_235 : decode cL_racks 235 = .ok (.iconst 0, 1) := by decide +kernel
theorem dL_racks_236 : decode cL_racks 236 = .ok (.iconst 3, 1) := by decide +kernel
theorem dL_racks_237 : decode cL_racks 237 = .ok (.invokestatic 343, 3) := by decide +kernel
theorem dL_racks_240 : decode cL_racks 240 = .ok (.iconst (-1), 1) := by decide +kernel
theorem dL_racks_241 : decode cL_racks 241 = .ok (.if_icmp .ne 28, 3) := by decide +kernel
theorem dL_racks_244 : decode cL_racks 244 = .ok (.aload_n 0, 1) := by decide +kernel
theorem dL_racks_245 : decode cL_racks 245 = .ok (.invokevirtual 246, 3) := by decide +kernel
theorem dL_racks_248 : decode cL_racks 248 = .ok (.bipush 16, 2) := by decide +kernel
theorem dL_racks_250 : decode cL_racks 250 = .ok (.if_icmp .gt 19, 3) := by decide +kernel
theorem dL_racks_253 : decode cL_racks 253 = .ok (.aload_n 0, 1) := by decide +kernel
theorem dL_racks_254 : decode cL_racks 254 = .ok (.aload_n 0, 1) := by decide +kernel
theorem dL_racks_255 : decode cL_racks 255 = .ok (.invokevirtual 246, 3) := by decide +kernel
theorem dL_racks_258 : decode cL_racks 258 = .ok (.invokestatic 251, 3) := by decide +kernel
theorem dL_racks_261 : decode cL_racks 261 = .ok (.iconst (-1), 1) := by decide +kernel
theorem dL_racks_262 : decode cL_racks 262 = .ok (.if_icmp .ne 7, 3) := by decide +kernel
theorem dL_racks_265 : decode cL_racks 265 = .ok (.iconst 1, 1) := by decide +kernel
theorem dL_racks_266 : decode cL_racks 266 = .ok (.goto 4, 3) := by decide +kernel
theorem dL_racks_269 : decode cL_racks 269 = .ok (.iconst 0, 1) := by decide +kernel
theorem dL_racks_270 : decode cL_racks 270 = .ok (.ireturn, 1) := by decide +kernel
set_option maxRecDepth 20000 in
theorem ggL_ranks_X12_claimCount : GoodIn wsL_ranks wsX12_claimCount := goodIn_r _ [6, 7, 8, 9, 257, 258, 259, 260, 261, 262, 263, 264, 265, 266, 267, 268, 269, 270, 271, 272, 273, 274, 275, 276, 277, 278, 279, 280, 281, 282, 283, 284, 285] rfl (by decide +kernel)
set_option maxRecDepth 20000 in
theorem gL_ranks_X12_claimCount : GoodIn wsL_ranks (wsV RL 184 RX12 yX12_claimCount wsX12_claimCount) := goodIn_app (goodIn_of _ (by decide +kernel)) ggL_ranks_X12_claimCount
set_option maxRecDepth 20000 in
theorem ggL_ranks_L_fluxOf : GoodIn wsL_ranks wsL_fluxOf := goodIn_ca (goodIn_ca (goodIn_r _ [13, 14, 15, 16, 17, 18, 5, 19, 7, 8, 20, 21, 22, 23, 24, 25, 26, 27, 28, 29, 30, 31, 32, 257, 258, 259, 260, 261, 262, 263, 264, 265, 266, 267, 268, 269, 270, 271, 272, 273, 274, 275, 276, 277, 278, 279, 280, 281, 282, 283, 284, 285] rfl (by decide +kernel)) (goodIn_sub (fun _ h => List.mem_cons_of_mem _ (List.mem_append_left _ (List.mem_append_left _ (List.mem_append_left _ (List.mem_append_right _ h))))) (by decide +kernel))) (goodIn_sub (fun _ h => List.mem_cons_of_mem _ (List.mem_append_left _ (List.mem_append_left _ (List.mem_append_right _ h)))) (by decide +kernel))
set_option maxRecDepth 20000 in
theorem gL_ranks_L_fluxOf : GoodIn wsL_ranks (va_wsS RL 240 yL_fluxOf wsL_fluxOf) := goodIn_app (goodIn_of _ (by decide +kernel)) ggL_ranks_L_fluxOf
set_option maxRecDepth 20000 in
theorem ggL_ranks_L_claimAtRank : GoodIn wsL_ranks wsL_claimAtRank := goodIn_ca (goodIn_ca (goodIn_r _ [35, 36, 37, 38, 39, 5, 40, 41, 42, 7, 8, 9, 43, 44, 45, 30, 46, 32, 47, 48, 49, 50, 51, 52, 257, 258, 259, 260, 261, 262, 263, 264, 265, 266, 267, 268, 269, 270, 271, 272, 273, 274, 275, 276, 277, 278, 279, 280, 281, 282, 283, 284, 285] rfl (by decide +kernel)) (goodIn_sub (fun _ h => List.mem_cons_of_mem _ (List.mem_append_left _ (List.mem_append_right _ h))) (by decide +kernel))) (goodIn_sub (fun _ h => List.mem_cons_of_mem _ (List.mem_append_left _ (List.mem_append_left _ (List.mem_append_left _ (List.mem_append_right _ h))))) (by decide +kernel))
set_option maxRecDepth 20000 in
theorem gL_ranks_L_claimAtRank : GoodIn wsL_ranks (va_wsS RL 353 yL_claimAtRank wsL_claimAtRank) := goodIn_app (goodIn_of _ (by decide +kernel)) ggL_ranks_L_claimAtRank
set_option maxRecDepth 20000 in
theorem ggL_ranks_L_weightOf : GoodIn wsL_ranks wsL_weightOf := goodIn_ca (goodIn_ca (goodIn_r _ [55, 14, 56, 57, 58, 5, 59, 7, 8, 60, 21, 22, 23, 24, 25, 26, 27, 28, 29, 30, 31, 32, 257, 258, 259, 260, 261, 262, 263, 264, 265, 266, 267, 268, 269, 270, 271, 272, 273, 274, 275, 276, 277, 278, 279, 280, 281, 282, 283, 284, 285] rfl (by decide +kernel)) (goodIn_sub (fun _ h => List.mem_cons_of_mem _ (List.mem_append_left _ (List.mem_append_left _ (List.mem_append_left _ (List.mem_append_right _ h))))) (by decide +kernel))) (goodIn_sub (fun _ h => List.mem_cons_of_mem _ (List.mem_append_left _ (List.mem_append_left _ (List.mem_append_right _ h)))) (by decide +kernel))
set_option maxRecDepth 20000 in
theorem gL_ranks_L_weightOf : GoodIn wsL_ranks (va_wsS RL 233 yL_weightOf wsL_weightOf) := goodIn_app (goodIn_of _ (by decide +kernel)) ggL_ranks_L_weightOf
set_option maxRecDepth 20000 in
theorem ggL_ranks_X12_power : GoodIn wsL_ranks wsX12_power := goodIn_ca (goodIn_r _ [64, 7, 8, 65, 66, 67, 30, 68, 32, 51, 257, 258, 259, 260, 261, 262, 263, 264, 265, 266, 267, 268, 269, 270, 271, 272, 273, 274, 275, 276, 277, 278, 279, 280, 281, 282, 283, 284, 285] rfl (by decide +kernel)) (goodIn_sub (fun _ h => List.mem_cons_of_mem _ (List.mem_append_left _ (List.mem_append_left _ (List.mem_append_left _ (List.mem_append_right _ h))))) (by decide +kernel))
set_option maxRecDepth 20000 in
theorem gL_ranks_X12_power : GoodIn wsL_ranks (wsV RL 253 RX12 yX12_power wsX12_power) := goodIn_app (goodIn_of _ (by decide +kernel)) ggL_ranks_X12_power
set_option maxRecDepth 20000 in
theorem ggL_ranks_X12_isConsistent : GoodIn wsL_ranks wsX12_isConsistent := goodIn_ca (goodIn_ca (goodIn_ca (goodIn_r _ [72, 7, 8, 73, 74, 75, 5, 76, 77, 78, 79, 80, 81, 82, 83, 84, 85, 86, 87, 88, 30, 89, 32, 90, 91, 92, 93, 94, 95, 96, 97, 98, 99, 100, 101, 102, 103, 104, 105, 106, 107, 108, 109, 110, 111, 112, 113, 114, 115, 116, 117, 118, 119, 120, 121, 122, 123, 124, 125, 126, 127, 128, 129, 130, 131, 132, 133, 134, 135, 136, 137, 138, 139, 140, 141, 142, 143, 144, 145, 146, 147, 148, 149, 150, 151, 152, 153, 154, 155, 156, 157, 158, 159, 160, 161, 162, 163, 164, 165, 166, 167, 168, 169, 170, 171, 172, 173, 174, 175, 176, 177, 178, 179, 180, 181, 182, 183, 184, 185, 186, 187, 188, 189, 190, 191, 192, 193, 194, 9, 195, 196, 197, 198, 199, 200, 201, 202, 203, 204, 205, 21, 22, 23, 24, 25, 26, 27, 28, 29, 31, 206, 207, 208, 209, 210, 211, 212, 213, 214, 215, 216, 217, 218, 219, 220, 221, 222, 223, 224, 225, 226, 227, 228, 229, 230, 231, 232, 233, 234, 235, 236, 237, 238, 239, 240, 241, 242, 243, 244, 245, 246, 247, 248, 249, 250, 251, 252, 253, 254, 255, 256, 62, 63, 64, 65, 66, 67, 68, 51, 257, 258, 259, 260, 261, 262, 263, 264, 265, 266, 267, 268, 269, 270, 271, 272, 273, 274, 275, 276, 277, 278, 279, 280, 281, 282, 283, 284, 285, 286, 287, 288, 289, 290, 291] rfl (by decide +kernel)) (goodIn_sub (fun _ h => List.mem_cons_of_mem _ (List.mem_append_left _ (List.mem_append_left _ (List.mem_append_left _ (List.mem_append_right _ h))))) (by decide +kernel))) (goodIn_sub (fun _ h => List.mem_cons_of_mem _ (List.mem_append_right _ h)) (by decide +kernel))) (goodIn_sub (fun _ h => List.mem_cons_of_mem _ (List.mem_append_left _ (List.mem_append_left _ (List.mem_append_right _ h)))) (by decide +kernel))
set_option maxRecDepth 20000 in
theorem gL_ranks_X12_isConsistent : GoodIn wsL_ranks (wsV RL 356 RX12 yX12_isConsistent wsX12_isConsistent) := goodIn_app (goodIn_of _ (by decide +kernel)) ggL_ranks_X12_isConsistent
theorem dL_ranks_0 : decode cL_ranks 0 = .ok (.fconst 0, 1) := by decide +kernel
theorem dL_ranks_1 : decode cL_ranks 1 = .ok (.fstore_n 1, 1) := by decide +kernel
theorem dL_ranks_2 : decode cL_ranks 2 = .ok (.iconst (-1), 1) := by decide +kernel
theorem dL_ranks_3 : decode cL_ranks 3 = .ok (.istore_n 2, 1) := by decide +kernel
theorem dL_ranks_4 : decode cL_ranks 4 = .ok (.iconst 0, 1) := by decide +kernel
theorem dL_ranks_5 : decode cL_ranks 5 = .ok (.istore_n 3, 1) := by decide +kernel
theorem dL_ranks_6 : decode cL_ranks 6 = .ok (.iload_n 3, 1) := by decide +kernel
theorem dL_ranks_7 : decode cL_ranks 7 = .ok (.aload_n 0, 1) := by decide +kernel
theorem dL_ranks_8 : decode cL_ranks 8 = .ok (.invokevirtual 184, 3) := by decide +kernel
theorem dL_ranks_11 : decode cL_ranks 11 = .ok (.if_icmp .ge 131, 3) := by decide +kernel
theorem dL_ranks_14 : decode cL_ranks 14 = .ok (.fload_n 1, 1) := by decide +kernel
theorem dL_ranks_15 : decode cL_ranks 15 = .ok (.aload_n 0, 1) := by decide +kernel
theorem dL_ranks_16 : decode cL_ranks 16 = .ok (.iload_n 3, 1) := by decide +kernel
theorem dL_ranks_17 : decode cL_ranks 17 = .ok (.invokestatic 240, 3) := by decide +kernel
theorem dL_ranks_20 : decode cL_ranks 20 = .ok (.fadd, 1) := by decide +kernel
theorem dL_ranks_21 : decode cL_ranks 21 = .ok (.fstore_n 1, 1) := by decide +kernel
theorem dL_ranks_22 : decode cL_ranks 22 = .ok (.aload_n 0, 1) := by decide +kernel
theorem dL_ranks_23 : decode cL_ranks 23 = .ok (.iload_n 3, 1) := by decide +kernel
theorem dL_ranks_24 : decode cL_ranks 24 = .ok (.invokestatic 353, 3) := by decide +kernel
theorem dL_ranks_27 : decode cL_ranks 27 = .ok (.istore 4, 2) := by decide +kernel
theorem dL_ranks_29 : decode cL_ranks 29 = .ok (.iload_n 2, 1) := by decide +kernel
theorem dL_ranks_30 : decode cL_ranks 30 = .ok (.ifCond .lt 67, 3) := by decide +kernel
theorem dL_ranks_33 : decode cL_ranks 33 = .ok (.aload_n 0, 1) := by decide +kernel
theorem dL_ranks_34 : decode cL_ranks 34 = .ok (.iload_n 2, 1) := by decide +kernel
theorem dL_ranks_35 : decode cL_ranks 35 = .ok (.invokestatic 240, 3) := by decide +kernel
theorem dL_ranks_38 : decode cL_ranks 38 = .ok (.aload_n 0, 1) := by decide +kernel
theorem dL_ranks_39 : decode cL_ranks 39 = .ok (.iload 4, 2) := by decide +kernel
theorem dL_ranks_41 : decode cL_ranks 41 = .ok (.invokestatic 240, 3) := by decide +kernel
theorem dL_ranks_44 : decode cL_ranks 44 = .ok (.fcmp .l, 1) := by decide +kernel
theorem dL_ranks_45 : decode cL_ranks 45 = .ok (.ifCond .gt 52, 3) := by decide +kernel
theorem dL_ranks_48 : decode cL_ranks 48 = .ok (.aload_n 0, 1) := by decide +kernel
theorem dL_ranks_49 : decode cL_ranks 49 = .ok (.iload_n 2, 1) := by decide +kernel
theorem dL_ranks_50 : decode cL_ranks 50 = .ok (.invokestatic 240, 3) := by decide +kernel
theorem dL_ranks_53 : decode cL_ranks 53 = .ok (.aload_n 0, 1) := by decide +kernel
theorem dL_ranks_54 : decode cL_ranks 54 = .ok (.iload 4, 2) := by decide +kernel
theorem dL_ranks_56 : decode cL_ranks 56 = .ok (.invokestatic 240, 3) := by decide +kernel
theorem dL_ranks_59 : decode cL_ranks 59 = .ok (.fcmp .l, 1) := by decide +kernel
theorem dL_ranks_60 : decode cL_ranks 60 = .ok (.ifCond .ne 41, 3) := by decide +kernel
theorem dL_ranks_63 : decode cL_ranks 63 = .ok (.aload_n 0, 1) := by decide +kernel
theorem dL_ranks_64 : decode cL_ranks 64 = .ok (.iload_n 2, 1) := by decide +kernel
theorem dL_ranks_65 : decode cL_ranks 65 = .ok (.invokestatic 233, 3) := by decide +kernel
theorem dL_ranks_68 : decode cL_ranks 68 = .ok (.aload_n 0, 1) := by decide +kernel
theorem dL_ranks_69 : decode cL_ranks 69 = .ok (.iload 4, 2) := by decide +kernel
theorem dL_ranks_71 : decode cL_ranks 71 = .ok (.invokestatic 233, 3) := by decide +kernel
theorem dL_ranks_74 : decode cL_ranks 74 = .ok (.if_icmp .gt 23, 3) := by decide +kernel
theorem dL_ranks_77 : decode cL_ranks 77 = .ok (.aload_n 0, 1) := by decide +kernel
theorem dL_ranks_78 : decode cL_ranks 78 = .ok (.iload_n 2, 1) := by decide +kernel
theorem dL_ranks_79 : decode cL_ranks 79 = .ok (.invokestatic 233, 3) := by decide +kernel
theorem dL_ranks_82 : decode cL_ranks 82 = .ok (.aload_n 0, 1) := by decide +kernel
theorem dL_ranks_83 : decode cL_ranks 83 = .ok (.iload 4, 2) := by decide +kernel
theorem dL_ranks_85 : decode cL_ranks 85 = .ok (.invokestatic 233, 3) := by decide +kernel
theorem dL_ranks_88 : decode cL_ranks 88 = .ok (.if_icmp .ne 13, 3) := by decide +kernel
theorem dL_ranks_91 : decode cL_ranks 91 = .ok (.iload_n 2, 1) := by decide +kernel
theorem dL_ranks_92 : decode cL_ranks 92 = .ok (.iload 4, 2) := by decide +kernel
theorem dL_ranks_94 : decode cL_ranks 94 = .ok (.if_icmp .ge 7, 3) := by decide +kernel
theorem dL_ranks_97 : decode cL_ranks 97 = .ok (.iconst 1, 1) := by decide +kernel
theorem dL_ranks_98 : decode cL_ranks 98 = .ok (.goto 4, 3) := by decide +kernel
theorem dL_ranks_101 : decode cL_ranks 101 = .ok (.iconst 0, 1) := by decide +kernel
theorem dL_ranks_102 : decode cL_ranks 102 = .ok (.istore 5, 2) := by decide +kernel
theorem dL_ranks_104 : decode cL_ranks 104 = .ok (.iload 5, 2) := by decide +kernel
theorem dL_ranks_106 : decode cL_ranks 106 = .ok (.ifCond .eq 25, 3) := by decide +kernel
theorem dL_ranks_109 : decode cL_ranks 109 = .ok (.aload_n 0, 1) := by decide +kernel
theorem dL_ranks_110 : decode cL_ranks 110 = .ok (.iload_n 3, 1) := by decide +kernel
theorem dL_ranks_111 : decode cL_ranks 111 = .ok (.invokestatic 240, 3) := by decide +kernel
theorem dL_ranks_114 : decode cL_ranks 114 = .ok (.fconst 0, 1) := by decide +kernel
theorem dL_ranks_115 : decode cL_ranks 115 = .ok (.fcmp .g, 1) := by decide +kernel
theorem dL_ranks_116 : decode cL_ranks 116 = .ok (.ifCond .lt 15, 3) := by decide +kernel
theorem dL_ranks_119 : decode cL_ranks 119 = .ok (.aload_n 0, 1) := by decide +kernel
theorem dL_ranks_120 : decode cL_ranks 120 = .ok (.iload_n 3, 1) := by decide +kernel
theorem dL_ranks_121 : decode cL_ranks 121 = .ok (.invokestatic 240, 3) := by decide +kernel
theorem dL_ranks_124 : decode cL_ranks 124 = .ok (.ldc_w 355, 3) := by decide +kernel
theorem dL_ranks_127 : decode cL_ranks 127 = .ok (.fcmp .l, 1) := by decide +kernel
theorem dL_ranks_128 : decode cL_ranks 128 = .ok (.ifCond .le 5, 3) := by decide +kernel
theorem dL_ranks_131 : decode cL_ranks 131 = .ok (.iconst 0, 1) := by decide +kernel
theorem dL_ranks_132 : decode cL_ranks 132 = .ok (.ireturn, 1) := by decide +kernel
theorem dL_ranks_133 : decode cL_ranks 133 = .ok (.iload 4, 2) := by decide +kernel
theorem dL_ranks_135 : decode cL_ranks 135 = .ok (.istore_n 2, 1) := by decide +kernel
theorem dL_ranks_136 : decode cL_ranks 136 = .ok (.iinc 3 1, 3) := by decide +kernel
theorem dL_ranks_139 : decode cL_ranks 139 = .ok (.goto (-133), 3) := by decide +kernel
theorem dL_ranks_142 : decode cL_ranks 142 = .ok (.aload_n 0, 1) := by decide +kernel
theorem dL_ranks_143 : decode cL_ranks 143 = .ok (.invokevirtual 253, 3) := by decide +kernel
theorem dL_ranks_146 : decode cL_ranks 146 = .ok (.fload_n 1, 1) := by decide +kernel
theorem dL_ranks_147 : decode cL_ranks 147 = .ok (.fcmp .l, 1) := by decide +kernel
theorem dL_ranks_148 : decode cL_ranks 148 = .ok (.ifCond .ne 26, 3) := by decide +kernel
theorem dL_ranks_151 : decode cL_ranks 151 = .ok (.aload_n 0, 1) := by decide +kernel
theorem dL_ranks_152 : decode cL_ranks 152 = .ok (.aload_n 0, 1) := by decide +kernel
theorem dL_ranks_153 : decode cL_ranks 153 = .ok (.invokevirtual 184, 3) := by decide +kernel
theorem dL_ranks_156 : decode cL_ranks 156 = .ok (.invokestatic 353, 3) := by decide +kernel
theorem dL_ranks_159 : decode cL_ranks 159 = .ok (.iconst (-1), 1) := by decide +kernel
theorem dL_ranks_160 : decode cL_ranks 160 = .ok (.if_icmp .ne 14, 3) := by decide +kernel
theorem dL_ranks_163 : decode cL_ranks 163 = .ok (.aload_n 0, 1) := by decide +kernel
theorem dL_ranks_164 : decode cL_ranks 164 = .ok (.invokevirtual 356, 3) := by decide +kernel
theorem dL_ranks_167 : decode cL_ranks 167 = .ok (.ifCond .eq 7, 3) := by decide +kernel
theorem dL_ranks_170 : decode cL_ranks 170 = .ok (.iconst 1, 1) := by decide +kernel
theorem dL_ranks_171 : decode cL_ranks 171 = .ok (.goto 4, 3) := by decide +kernel
theorem dL_ranks_174 : decode cL_ranks 174 = .ok (.iconst 0, 1) := by decide +kernel
theorem dL_ranks_175 : decode cL_ranks 175 = .ok (.ireturn, 1) := by decide +kernel
set_option maxRecDepth 20000 in
theorem ggL_foretold_X12_save : GoodIn wsL_foretold wsX12_save := goodIn_ca (goodIn_r _ [10, 11, 12, 13, 14, 15, 16, 17, 18, 19, 20, 21, 22, 23, 24, 25, 26, 27, 28, 29, 30, 31, 32, 33, 34, 35, 36, 37, 38, 39, 40, 41, 42, 43, 44, 45, 46, 47, 48, 49, 50, 51, 52, 53, 54, 55, 56, 57, 293, 294, 295, 296, 297, 298, 299, 300, 301, 302, 303, 304, 305, 306, 307, 308, 309, 310, 311, 312, 313, 314, 315, 316, 317, 318, 319, 320, 321, 322, 323, 324, 325, 326, 327] rfl (by decide +kernel)) (goodIn_sub (fun _ h => List.mem_cons_of_mem _ (List.mem_append_left _ (List.mem_append_left _ (List.mem_append_left _ (List.mem_append_left _ (List.mem_append_left _ (List.mem_append_left _ (List.mem_append_right _ h)))))))) (by decide +kernel))
set_option maxRecDepth 20000 in
theorem gL_foretold_X12_save : GoodIn wsL_foretold (wsV RL 360 RX12 yX12_save wsX12_save) := goodIn_app (goodIn_of _ (by decide +kernel)) ggL_foretold_X12_save
set_option maxRecDepth 20000 in
theorem ggL_foretold_X12_claimCount : GoodIn wsL_foretold wsX12_claimCount := goodIn_r _ [61, 12, 14, 15, 293, 294, 295, 296, 297, 298, 299, 300, 301, 302, 303, 304, 305, 306, 307, 308, 309, 310, 311, 312, 313, 314, 315, 316, 317, 318, 319, 320, 321] rfl (by decide +kernel)
set_option maxRecDepth 20000 in
theorem gL_foretold_X12_claimCount : GoodIn wsL_foretold (wsV RL 184 RX12 yX12_claimCount wsX12_claimCount) := goodIn_app (goodIn_of _ (by decide +kernel)) ggL_foretold_X12_claimCount
set_option maxRecDepth 20000 in
theorem ggL_foretold_X13_next : GoodIn wsL_foretold wsX13_next := goodIn_ca (goodIn_r _ [66, 67, 68, 328] rfl (by decide +kernel)) (goodIn_sub (fun _ h => List.mem_cons_of_mem _ (List.mem_append_left _ (List.mem_append_left _ (List.mem_append_left _ (List.mem_append_left _ (List.mem_append_left _ (List.mem_append_right _ h))))))) (by decide +kernel))
set_option maxRecDepth 20000 in
theorem gL_foretold_X13_next : GoodIn wsL_foretold (wsV RL 174 RX13 yX13_next wsX13_next) := goodIn_app (goodIn_of _ (by decide +kernel)) ggL_foretold_X13_next
set_option maxRecDepth 20000 in
theorem ggL_foretold_L_setLimit : GoodIn wsL_foretold wsL_setLimit := goodIn_ca (goodIn_ca (goodIn_ca (goodIn_ca (goodIn_ca (goodIn_ca (goodIn_r _ [72, 73, 74, 75, 76, 9, 77, 78, 12, 16, 17, 18, 19, 20, 21, 22, 23, 24, 25, 26, 27, 28, 29, 30, 31, 32, 33, 34, 35, 36, 37, 38, 39, 40, 41, 42, 43, 44, 45, 46, 47, 48, 49, 50, 51, 52, 53, 54, 55, 56, 57, 79, 80, 81, 82, 83, 84, 85, 86, 87, 88, 89, 90, 91, 92, 93, 94, 95, 96, 97, 98, 99, 100, 101, 102, 103, 104, 105, 106, 293, 294, 295, 296, 297, 298, 299, 300, 301, 302, 303, 304, 305, 306, 307, 308, 309, 310, 311, 312, 313, 314, 315, 316, 317, 318, 319, 320, 321, 322, 323, 324, 325, 326, 327] rfl (by decide +kernel)) (goodIn_sub (fun _ h => List.mem_cons_of_mem _ (List.mem_append_left _ (List.mem_append_left _ (List.mem_append_left _ (List.mem_append_left _ (List.mem_append_left _ (List.mem_append_left _ (List.mem_append_right _ h)))))))) (by decide +kernel))) (goodIn_sub (fun _ h => List.mem_cons_of_mem _ (List.mem_append_left _ (List.mem_append_left _ (List.mem_append_left _ (List.mem_append_left _ (List.mem_append_right _ h)))))) (by decide +kernel))) (goodIn_sub (fun _ h => List.mem_cons_of_mem _ (List.mem_append_left _ (List.mem_append_left _ (List.mem_append_left _ (List.mem_append_right _ h))))) (by decide +kernel))) (goodIn_sub (fun _ h => List.mem_cons_of_mem _ (List.mem_append_left _ (List.mem_append_left _ (List.mem_append_right _ h)))) (by decide +kernel))) (goodIn_sub (fun _ h => List.mem_cons_of_mem _ (List.mem_append_left _ (List.mem_append_right _ h))) (by decide +kernel))) (goodIn_sub (fun _ h => List.mem_cons_of_mem _ (List.mem_append_right _ h)) (by decide +kernel))
set_option maxRecDepth 20000 in
theorem gL_foretold_L_setLimit : GoodIn wsL_foretold (va_wsS RL 214 yL_setLimit wsL_setLimit) := goodIn_app (goodIn_of _ (by decide +kernel)) ggL_foretold_L_setLimit
set_option maxRecDepth 20000 in
theorem ggL_foretold_L_shiftsUntilBelow : GoodIn wsL_foretold wsL_shiftsUntilBelow := goodIn_ca (goodIn_ca (goodIn_ca (goodIn_r _ [109, 73, 110, 111, 112, 9, 113, 99, 100, 105, 106, 114, 12, 14, 16, 17, 18, 19, 20, 21, 22, 23, 24, 25, 26, 27, 28, 29, 30, 31, 32, 33, 34, 35, 36, 37, 38, 39, 40, 41, 42, 43, 44, 45, 46, 47, 48, 49, 50, 51, 52, 53, 54, 55, 56, 57, 115, 116, 117, 118, 119, 120, 121, 122, 123, 124, 125, 126, 127, 128, 129, 130, 131, 132, 133, 134, 135, 136, 137, 138, 139, 140, 141, 142, 143, 144, 145, 146, 147, 148, 149, 150, 151, 152, 153, 154, 155, 156, 157, 158, 159, 160, 161, 91, 92, 93, 293, 294, 295, 296, 297, 298, 299, 300, 301, 302, 303, 304, 305, 306, 307, 308, 309, 310, 311, 312, 313, 314, 315, 316, 317, 318, 319, 320, 321, 322, 323, 324, 325, 326, 327] rfl (by decide +kernel)) (goodIn_sub (fun _ h => List.mem_cons_of_mem _ (List.mem_append_left _ (List.mem_append_left _ (List.mem_append_left _ (List.mem_append_right _ h))))) (by decide +kernel))) (goodIn_sub (fun _ h => List.mem_cons_of_mem _ (List.mem_append_right _ h)) (by decide +kernel))) (goodIn_sub (fun _ h => List.mem_cons_of_mem _ (List.mem_append_left _ (List.mem_append_left _ (List.mem_append_left _ (List.mem_append_left _ (List.mem_append_left _ (List.mem_append_left _ (List.mem_append_right _ h)))))))) (by decide +kernel))
set_option maxRecDepth 20000 in
theorem gL_foretold_L_shiftsUntilBelow : GoodIn wsL_foretold (va_wsS RL 263 yL_shiftsUntilBelow wsL_shiftsUntilBelow) := goodIn_app (goodIn_of _ (by decide +kernel)) ggL_foretold_L_shiftsUntilBelow
set_option maxRecDepth 20000 in
theorem ggL_foretold_X12_power : GoodIn wsL_foretold wsX12_power := goodIn_ca (goodIn_r _ [165, 12, 14, 115, 116, 117, 30, 118, 32, 41, 293, 294, 295, 296, 297, 298, 299, 300, 301, 302, 303, 304, 305, 306, 307, 308, 309, 310, 311, 312, 313, 314, 315, 316, 317, 318, 319, 320, 321] rfl (by decide +kernel)) (goodIn_sub (fun _ h => List.mem_cons_of_mem _ (List.mem_append_left _ (List.mem_append_left _ (List.mem_append_left _ (List.mem_append_left _ (List.mem_append_left _ (List.mem_append_left _ (List.mem_append_right _ h)))))))) (by decide +kernel))
set_option maxRecDepth 20000 in
theorem gL_foretold_X12_power : GoodIn wsL_foretold (wsV RL 253 RX12 yX12_power wsX12_power) := goodIn_app (goodIn_of _ (by decide +kernel)) ggL_foretold_X12_power
set_option maxRecDepth 20000 in
theorem ggL_foretold_L_fluxOf : GoodIn wsL_foretold wsL_fluxOf := goodIn_ca (goodIn_ca (goodIn_r _ [168, 169, 170, 171, 172, 173, 9, 174, 12, 14, 175, 176, 177, 178, 179, 97, 98, 180, 181, 182, 30, 183, 32, 293, 294, 295, 296, 297, 298, 299, 300, 301, 302, 303, 304, 305, 306, 307, 308, 309, 310, 311, 312, 313, 314, 315, 316, 317, 318, 319, 320, 321] rfl (by decide +kernel)) (goodIn_sub (fun _ h => List.mem_cons_of_mem _ (List.mem_append_left _ (List.mem_append_left _ (List.mem_append_left _ (List.mem_append_left _ (List.mem_append_left _ (List.mem_append_left _ (List.mem_append_right _ h)))))))) (by decide +kernel))) (goodIn_sub (fun _ h => List.mem_cons_of_mem _ (List.mem_append_left _ (List.mem_append_left _ (List.mem_append_left _ (List.mem_append_left _ (List.mem_append_right _ h)))))) (by decide +kernel))
set_option maxRecDepth 20000 in
theorem gL_foretold_L_fluxOf : GoodIn wsL_foretold (va_wsS RL 240 yL_fluxOf wsL_fluxOf) := goodIn_app (goodIn_of _ (by decide +kernel)) ggL_foretold_L_fluxOf
set_option maxRecDepth 20000 in
theorem ggL_foretold_L_attacks : GoodIn wsL_foretold wsL_attacks := goodIn_ca (goodIn_ca (goodIn_r _ [186, 169, 187, 188, 189, 9, 190, 12, 14, 191, 176, 177, 178, 179, 97, 98, 180, 181, 182, 30, 183, 32, 192, 136, 137, 293, 294, 295, 296, 297, 298, 299, 300, 301, 302, 303, 304, 305, 306, 307, 308, 309, 310, 311, 312, 313, 314, 315, 316, 317, 318, 319, 320, 321] rfl (by decide +kernel)) (goodIn_sub (fun _ h => List.mem_cons_of_mem _ (List.mem_append_left _ (List.mem_append_left _ (List.mem_append_left _ (List.mem_append_left _ (List.mem_append_left _ (List.mem_append_left _ (List.mem_append_right _ h)))))))) (by decide +kernel))) (goodIn_sub (fun _ h => List.mem_cons_of_mem _ (List.mem_append_left _ (List.mem_append_left _ (List.mem_append_left _ (List.mem_append_left _ (List.mem_append_right _ h)))))) (by decide +kernel))
set_option maxRecDepth 20000 in
theorem gL_foretold_L_attacks : GoodIn wsL_foretold (va_wsS RL 268 yL_attacks wsL_attacks) := goodIn_app (goodIn_of _ (by decide +kernel)) ggL_foretold_L_attacks
set_option maxRecDepth 20000 in
theorem ggL_foretold_L_layerOf : GoodIn wsL_foretold wsL_layerOf := goodIn_ca (goodIn_ca (goodIn_r _ [195, 169, 196, 197, 198, 9, 199, 12, 14, 200, 176, 177, 178, 179, 97, 98, 180, 181, 182, 30, 183, 32, 293, 294, 295, 296, 297, 298, 299, 300, 301, 302, 303, 304, 305, 306, 307, 308, 309, 310, 311, 312, 313, 314, 315, 316, 317, 318, 319, 320, 321] rfl (by decide +kernel)) (goodIn_sub (fun _ h => List.mem_cons_of_mem _ (List.mem_append_left _ (List.mem_append_left _ (List.mem_append_left _ (List.mem_append_left _ (List.mem_append_left _ (List.mem_append_left _ (List.mem_append_right _ h)))))))) (by decide +kernel))) (goodIn_sub (fun _ h => List.mem_cons_of_mem _ (List.mem_append_left _ (List.mem_append_left _ (List.mem_append_left _ (List.mem_append_left _ (List.mem_append_right _ h)))))) (by decide +kernel))
set_option maxRecDepth 20000 in
theorem gL_foretold_L_layerOf : GoodIn wsL_foretold (va_wsS RL 238 yL_layerOf wsL_layerOf) := goodIn_app (goodIn_of _ (by decide +kernel)) ggL_foretold_L_layerOf
set_option maxRecDepth 20000 in
theorem ggL_foretold_L_depthOf : GoodIn wsL_foretold wsL_depthOf := goodIn_ca (goodIn_ca (goodIn_r _ [203, 169, 204, 205, 206, 9, 207, 97, 98, 12, 208, 209, 210, 211, 212, 139, 140, 45, 141, 48, 142, 143, 144, 293, 294, 295, 296, 297, 298, 299, 300, 301, 302, 303, 304, 305, 306, 307, 308, 309, 310, 311, 312, 313, 314, 315, 322, 323] rfl (by decide +kernel)) (goodIn_sub (fun _ h => List.mem_cons_of_mem _ (List.mem_append_left _ (List.mem_append_left _ (List.mem_append_left _ (List.mem_append_left _ (List.mem_append_right _ h)))))) (by decide +kernel))) (goodIn_sub (fun _ h => List.mem_cons_of_mem _ (List.mem_append_left _ (List.mem_append_left _ (List.mem_append_left _ (List.mem_append_left _ (List.mem_append_left _ (List.mem_append_left _ (List.mem_append_right _ h)))))))) (by decide +kernel))
set_option maxRecDepth 20000 in
theorem gL_foretold_L_depthOf : GoodIn wsL_foretold (va_wsS RL 345 yL_depthOf wsL_depthOf) := goodIn_app (goodIn_of _ (by decide +kernel)) ggL_foretold_L_depthOf
set_option maxRecDepth 20000 in
theorem ggL_foretold_J9_min_e70c8 : GoodIn wsL_foretold wsJ9_min_e70c8 := goodIn_r _ [216, 217, 218, 219, 220, 221] rfl (by decide +kernel)
set_option maxRecDepth 20000 in
theorem gL_foretold_J9_min_e70c8 : GoodIn wsL_foretold (va_wsS RL 366 yJ9_min_e70c8 wsJ9_min_e70c8) := goodIn_app (goodIn_of _ (by decide +kernel)) ggL_foretold_J9_min_e70c8
set_option maxRecDepth 20000 in
theorem ggL_foretold_L_remarkAt : GoodIn wsL_foretold wsL_remarkAt := goodIn_ca (goodIn_ca (goodIn_r _ [224, 169, 225, 226, 227, 9, 228, 97, 98, 12, 208, 229, 209, 210, 211, 230, 231, 232, 293, 294, 295, 296, 297, 298, 299, 300, 301, 302, 303, 304, 305, 306, 307, 308, 309, 310, 311, 312, 313, 314, 315, 322, 323] rfl (by decide +kernel)) (goodIn_sub (fun _ h => List.mem_cons_of_mem _ (List.mem_append_left _ (List.mem_append_left _ (List.mem_append_left _ (List.mem_append_left _ (List.mem_append_right _ h)))))) (by decide +kernel))) (goodIn_sub (fun _ h => List.mem_cons_of_mem _ (List.mem_append_left _ (List.mem_append_left _ (List.mem_append_left _ (List.mem_append_left _ (List.mem_append_left _ (List.mem_append_left _ (List.mem_append_right _ h)))))))) (by decide +kernel))
set_option maxRecDepth 20000 in
theorem gL_foretold_L_remarkAt : GoodIn wsL_foretold (va_wsS RL 343 yL_remarkAt wsL_remarkAt) := goodIn_app (goodIn_of _ (by decide +kernel)) ggL_foretold_L_remarkAt
set_option maxRecDepth 20000 in
theorem ggL_foretold_X12_scrams : GoodIn wsL_foretold wsX12_scrams := goodIn_r _ [236, 12, 237, 293, 294, 295, 296, 297, 298, 299, 300, 301, 302, 303, 304, 305, 306, 307, 308, 309, 310, 311, 312, 313, 314, 315] rfl (by decide +kernel)
set_option maxRecDepth 20000 in
theorem gL_foretold_X12_scrams : GoodIn wsL_foretold (wsV RL 260 RX12 yX12_scrams wsX12_scrams) := goodIn_app (goodIn_of _ (by decide +kernel)) ggL_foretold_X12_scrams
set_option maxRecDepth 20000 in
theorem ggL_foretold_L_pass : GoodIn wsL_foretold wsL_pass := goodIn_ca (goodIn_ca (goodIn_ca (goodIn_ca (goodIn_ca (goodIn_ca (goodIn_r _ [240, 73, 241, 242, 243, 9, 244, 78, 12, 16, 17, 18, 19, 20, 21, 22, 23, 24, 25, 26, 27, 28, 29, 30, 31, 32, 33, 34, 35, 36, 37, 38, 39, 40, 41, 42, 43, 44, 45, 46, 47, 48, 49, 50, 51, 52, 53, 54, 55, 56, 57, 245, 246, 247, 248, 249, 120, 121, 122, 123, 124, 125, 126, 127, 128, 129, 130, 131, 132, 133, 134, 135, 136, 137, 138, 139, 140, 141, 142, 143, 144, 145, 146, 147, 148, 116, 117, 118, 149, 150, 151, 152, 153, 154, 155, 156, 157, 158, 159, 160, 161, 91, 92, 93, 83, 84, 85, 86, 87, 88, 89, 90, 94, 95, 96, 97, 98, 99, 100, 101, 102, 103, 104, 105, 106, 293, 294, 295, 296, 297, 298, 299, 300, 301, 302, 303, 304, 305, 306, 307, 308, 309, 310, 311, 312, 313, 314, 315, 316, 317, 318, 319, 320, 321, 322, 323, 324, 325, 326, 327] rfl (by decide +kernel)) (goodIn_sub (fun _ h => List.mem_cons_of_mem _ (List.mem_append_left _ (List.mem_append_left _ (List.mem_append_left _ (List.mem_append_left _ (List.mem_append_left _ (List.mem_append_left _ (List.mem_append_right _ h)))))))) (by decide +kernel))) (goodIn_sub (fun _ h => List.mem_cons_of_mem _ (List.mem_append_left _ (List.mem_append_left _ (List.mem_append_left _ (List.mem_append_left _ (List.mem_append_right _ h)))))) (by decide +kernel))) (goodIn_sub (fun _ h => List.mem_cons_of_mem _ (List.mem_append_left _ (List.mem_append_left _ (List.mem_append_left _ (List.mem_append_right _ h))))) (by decide +kernel))) (goodIn_sub (fun _ h => List.mem_cons_of_mem _ (List.mem_append_left _ (List.mem_append_left _ (List.mem_append_right _ h)))) (by decide +kernel))) (goodIn_sub (fun _ h => List.mem_cons_of_mem _ (List.mem_append_left _ (List.mem_append_right _ h))) (by decide +kernel))) (goodIn_sub (fun _ h => List.mem_cons_of_mem _ (List.mem_append_right _ h)) (by decide +kernel))
set_option maxRecDepth 20000 in
theorem gL_foretold_L_pass : GoodIn wsL_foretold (va_wsS RL 216 yL_pass wsL_pass) := goodIn_app (goodIn_of _ (by decide +kernel)) ggL_foretold_L_pass
set_option maxRecDepth 20000 in
theorem ggL_foretold_L_logKind : GoodIn wsL_foretold wsL_logKind := goodIn_ca (goodIn_ca (goodIn_r _ [252, 253, 254, 255, 256, 9, 257, 12, 258, 259, 260, 261, 262, 263, 105, 106, 264, 265, 266, 267, 52, 268, 57, 269, 270, 215, 271, 293, 294, 295, 296, 297, 298, 299, 300, 301, 302, 303, 304, 305, 306, 307, 308, 309, 310, 311, 312, 313, 314, 315, 324, 325, 326, 327] rfl (by decide +kernel)) (goodIn_sub (fun _ h => List.mem_cons_of_mem _ (List.mem_append_left _ (List.mem_append_left _ (List.mem_append_left _ (List.mem_append_left _ (List.mem_append_left _ (List.mem_append_left _ (List.mem_append_right _ h)))))))) (by decide +kernel))) (goodIn_sub (fun _ h => List.mem_cons_of_mem _ (List.mem_append_right _ h)) (by decide +kernel))
set_option maxRecDepth 20000 in
theorem gL_foretold_L_logKind : GoodIn wsL_foretold (va_wsS RL 249 yL_logKind wsL_logKind) := goodIn_app (goodIn_of _ (by decide +kernel)) ggL_foretold_L_logKind
set_option maxRecDepth 20000 in
theorem ggL_foretold_L_logShift : GoodIn wsL_foretold wsL_logShift := goodIn_ca (goodIn_ca (goodIn_r _ [274, 253, 275, 276, 277, 9, 278, 12, 258, 279, 260, 261, 262, 263, 105, 106, 264, 265, 266, 267, 52, 268, 57, 269, 270, 215, 271, 293, 294, 295, 296, 297, 298, 299, 300, 301, 302, 303, 304, 305, 306, 307, 308, 309, 310, 311, 312, 313, 314, 315, 324, 325, 326, 327] rfl (by decide +kernel)) (goodIn_sub (fun _ h => List.mem_cons_of_mem _ (List.mem_append_left _ (List.mem_append_left _ (List.mem_append_left _ (List.mem_append_left _ (List.mem_append_left _ (List.mem_append_left _ (List.mem_append_right _ h)))))))) (by decide +kernel))) (goodIn_sub (fun _ h => List.mem_cons_of_mem _ (List.mem_append_right _ h)) (by decide +kernel))
set_option maxRecDepth 20000 in
theorem gL_foretold_L_logShift : GoodIn wsL_foretold (va_wsS RL 251 yL_logShift wsL_logShift) := goodIn_app (goodIn_of _ (by decide +kernel)) ggL_foretold_L_logShift
set_option maxRecDepth 20000 in
theorem ggL_foretold_X12_shiftCount : GoodIn wsL_foretold wsX12_shiftCount := goodIn_r _ [283, 12, 284, 293, 294, 295, 296, 297, 298, 299, 300, 301, 302, 303, 304, 305, 306, 307, 308, 309, 310, 311, 312, 313, 314, 315] rfl (by decide +kernel)
set_option maxRecDepth 20000 in
theorem gL_foretold_X12_shiftCount : GoodIn wsL_foretold (wsV RL 257 RX12 yX12_shiftCount wsX12_shiftCount) := goodIn_app (goodIn_of _ (by decide +kernel)) ggL_foretold_X12_shiftCount
set_option maxRecDepth 20000 in
theorem ggL_foretold_L_restore : GoodIn wsL_foretold wsL_restore := goodIn_ca (goodIn_ca (goodIn_r _ [287, 288, 289, 290, 291, 9, 292, 101, 102, 13, 12, 11, 89, 14, 15, 16, 17, 18, 19, 20, 21, 22, 23, 24, 25, 26, 27, 28, 29, 30, 31, 32, 33, 34, 35, 36, 37, 38, 39, 40, 41, 42, 43, 44, 45, 46, 47, 48, 49, 50, 51, 52, 53, 54, 55, 56, 57, 293, 294, 295, 296, 297, 298, 299, 300, 301, 302, 303, 304, 305, 306, 307, 308, 309, 310, 311, 312, 313, 314, 315, 316, 317, 318, 319, 320, 321, 322, 323, 324, 325, 326, 327] rfl (by decide +kernel)) (goodIn_sub (fun _ h => List.mem_cons_of_mem _ (List.mem_append_left _ (List.mem_append_left _ (List.mem_append_right _ h)))) (by decide +kernel))) (goodIn_sub (fun _ h => List.mem_cons_of_mem _ (List.mem_append_left _ (List.mem_append_left _ (List.mem_append_left _ (List.mem_append_left _ (List.mem_append_left _ (List.mem_append_left _ (List.mem_append_right _ h)))))))) (by decide +kernel))
set_option maxRecDepth 20000 in
theorem gL_foretold_L_restore : GoodIn wsL_foretold (va_wsS RL 370 yL_restore wsL_restore) := goodIn_app (goodIn_of _ (by decide +kernel)) ggL_foretold_L_restore
theorem dL_foretold_0 : decode cL_foretold 0 = .ok (.aload_n 0, 1) := by decide +kernel
theorem dL_foretold_1 : decode cL_foretold 1 = .ok (.invokevirtual 360, 3) := by decide +kernel
theorem dL_foretold_4 : decode cL_foretold 4 = .ok (.istore_n 2, 1) := by decide +kernel
theorem dL_foretold_5 : decode cL_foretold 5 = .ok (.iload_n 2, 1) := by decide +kernel
theorem dL_foretold_6 : decode cL_foretold 6 = .ok (.aload_n 0, 1) := by decide +kernel
theorem dL_foretold_7 : decode cL_foretold 7 = .ok (.invokevirtual 184, 3) := by decide +kernel
theorem dL_foretold_10 : decode cL_foretold 10 = .ok (.if_icmp .ne 7, 3) := by decide +kernel
theorem dL_foretold_13 : decode cL_foretold 13 = .ok (.iconst 1, 1) := by decide +kernel
theorem dL_foretold_14 : decode cL_foretold 14 = .ok (.goto 4, 3) := by decide +kernel
theorem dL_foretold_17 : decode cL_foretold 17 = .ok (.iconst 0, 1) := by decide +kernel
theorem dL_foretold_18 : decode cL_foretold 18 = .ok (.istore_n 3, 1) := by decide +kernel
theorem dL_foretold_19 : decode cL_foretold 19 = .ok (.iconst 1, 1) := by decide +kernel
theorem dL_foretold_20 : decode cL_foretold 20 = .ok (.aload_n 1, 1) := by decide +kernel
theorem dL_foretold_21 : decode cL_foretold 21 = .ok (.aload_n 1, 1) := by decide +kernel
theorem dL_foretold_22 : decode cL_foretold 22 = .ok (.iconst 2, 1) := by decide +kernel
theorem dL_foretold_23 : decode cL_foretold 23 = .ok (.invokevirtual 174, 3) := by decide +kernel
theorem dL_foretold_26 : decode cL_foretold 26 = .ok (.ifCond .ne 9, 3) := by decide +kernel
theorem dL_foretold_29 : decode cL_foretold 29 = .ok (.sipush 9999, 3) := by decide +kernel
theorem dL_foretold_32 : decode cL_foretold 32 = .ok (.goto 6, 3) := by decide +kernel
theorem dL_foretold_35 : decode cL_foretold 35 = .ok (.sipush 500, 3) := by decide +kernel
theorem dL_foretold_38 : decode cL_foretold 38 = .ok (.invokevirtual 174, 3) := by decide +kernel
theorem dL_foretold_41 : decode cL_foretold 41 = .ok (.iadd, 1) := by decide +kernel
theorem dL_foretold_42 : decode cL_foretold 42 = .ok (.istore 4, 2) := by decide +kernel
theorem dL_foretold_44 : decode cL_foretold 44 = .ok (.aload_n 0, 1) := by decide +kernel
theorem dL_foretold_45 : decode cL_foretold 45 = .ok (.iload 4, 2) := by decide +kernel
theorem dL_foretold_47 : decode cL_foretold 47 = .ok (.invokestatic 214, 3) := by decide +kernel
theorem dL_foretold_50 : decode cL_foretold 50 = .ok (.istore 5, 2) := by decide +kernel
theorem dL_foretold_52 : decode cL_foretold 52 = .ok (.iconst 1, 1) := by decide +kernel
theorem dL_foretold_53 : decode cL_foretold 53 = .ok (.aload_n 1, 1) := by decide +kernel
theorem dL_foretold_54 : decode cL_foretold 54 = .ok (.sipush 600, 3) := by decide +kernel
theorem dL_foretold_57 : decode cL_foretold 57 = .ok (.invokevirtual 174, 3) := by decide +kernel
theorem dL_foretold_60 : decode cL_foretold 60 = .ok (.iadd, 1) := by decide +kernel
theorem dL_foretold_61 : decode cL_foretold 61 = .ok (.istore 6, 2) := by decide +kernel
theorem dL_foretold_63 : decode cL_foretold 63 = .ok (.aload_n 0, 1) := by decide +kernel
theorem dL_foretold_64 : decode cL_foretold 64 = .ok (.iload 6, 2) := by decide +kernel
theorem dL_foretold_66 : decode cL_foretold 66 = .ok (.invokestatic 263, 3) := by decide +kernel
theorem dL_foretold_69 : decode cL_foretold 69 = .ok (.istore 7, 2) := by decide +kernel
theorem dL_foretold_71 : decode cL_foretold 71 = .ok (.iconst 0, 1) := by decide +kernel
theorem dL_foretold_72 : decode cL_foretold 72 = .ok (.istore 8, 2) := by decide +kernel
theorem dL_foretold_74 : decode cL_foretold 74 = .ok (.iload_n 3, 1) := by decide +kernel
theorem dL_foretold_75 : decode cL_foretold 75 = .ok (.iload 5, 2) := by decide +kernel
theorem dL_foretold_77 : decode cL_foretold 77 = .ok (.iconst 1, 1) := by decide +kernel
theorem dL_foretold_78 : decode cL_foretold 78 = .ok (.if_icmp .lt 7, 3) := by decide +kernel
theorem dL_foretold_81 : decode cL_foretold 81 = .ok (.iconst 1, 1) := by decide +kernel
theorem dL_foretold_82 : decode cL_foretold 82 = .ok (.goto 4, 3) := by decide +kernel
theorem dL_foretold_85 : decode cL_foretold 85 = .ok (.iconst 0, 1) := by decide +kernel
theorem dL_foretold_86 : decode cL_foretold 86 = .ok (.iand, 1) := by decide +kernel
theorem dL_foretold_87 : decode cL_foretold 87 = .ok (.istore_n 3, 1) := by decide +kernel
theorem dL_foretold_88 : decode cL_foretold 88 = .ok (.iload_n 3, 1) := by decide +kernel
theorem dL_foretold_89 : decode cL_foretold 89 = .ok (.ifCond .eq 438, 3) := by decide +kernel
theorem dL_foretold_92 : decode cL_foretold 92 = .ok (.iload 8, 2) := by decide +kernel
theorem dL_foretold_94 : decode cL_foretold 94 = .ok (.bipush 6, 2) := by decide +kernel
theorem dL_foretold_96 : decode cL_foretold 96 = .ok (.if_icmp .ge 431, 3) := by decide +kernel
theorem dL_foretold_99 : decode cL_foretold 99 = .ok (.aload_n 0, 1) := by decide +kernel
theorem dL_foretold_100 : decode cL_foretold 100 = .ok (.invokevirtual 253, 3) := by decide +kernel
theorem dL_foretold_103 : decode cL_foretold 103 = .ok (.iload 6, 2) := by decide +kernel
theorem dL_foretold_105 : decode cL_foretold 105 = .ok (.i2f, 1) := by decide +kernel
theorem dL_foretold_106 : decode cL_foretold 106 = .ok (.fcmp .l, 1) := by decide +kernel
theorem dL_foretold_107 : decode cL_foretold 107 = .ok (.ifCond .lt 420, 3) := by decide +kernel
theorem dL_foretold_110 : decode cL_foretold 110 = .ok (.iload_n 2, 1) := by decide +kernel
theorem dL_foretold_111 : decode cL_foretold 111 = .ok (.newarray .float, 2) := by decide +kernel
theorem dL_foretold_113 : decode cL_foretold 113 = .ok (.astore 9, 2) := by decide +kernel
theorem dL_foretold_115 : decode cL_foretold 115 = .ok (.fconst 0, 1) := by decide +kernel
theorem dL_foretold_116 : decode cL_foretold 116 = .ok (.fstore 10, 2) := by decide +kernel
theorem dL_foretold_118 : decode cL_foretold 118 = .ok (.iconst 0, 1) := by decide +kernel
theorem dL_foretold_119 : decode cL_foretold 119 = .ok (.istore 11, 2) := by decide +kernel
theorem dL_foretold_121 : decode cL_foretold 121 = .ok (.iconst 0, 1) := by decide +kernel
theorem dL_foretold_122 : decode cL_foretold 122 = .ok (.istore 12, 2) := by decide +kernel
theorem dL_foretold_124 : decode cL_foretold 124 = .ok (.iload 12, 2) := by decide +kernel
theorem dL_foretold_126 : decode cL_foretold 126 = .ok (.iload_n 2, 1) := by decide +kernel
theorem dL_foretold_127 : decode cL_foretold 127 = .ok (.if_icmp .ge 114, 3) := by decide +kernel
theorem dL_foretold_130 : decode cL_foretold 130 = .ok (.aload_n 0, 1) := by decide +kernel
theorem dL_foretold_131 : decode cL_foretold 131 = .ok (.iload 12, 2) := by decide +kernel
theorem dL_foretold_133 : decode cL_foretold 133 = .ok (.invokestatic 240, 3) := by decide +kernel
theorem dL_foretold_136 : decode cL_foretold 136 = .ok (.ldc_w 363, 3) := by decide +kernel
theorem dL_foretold_139 : decode cL_foretold 139 = .ok (.fmul, 1) := by decide +kernel
theorem dL_foretold_140 : decode cL_foretold 140 = .ok (.fstore 13, 2) := by decide +kernel
theorem dL_foretold_142 : decode cL_foretold 142 = .ok (.iconst 0, 1) := by decide +kernel
theorem dL_foretold_143 : decode cL_foretold 143 = .ok (.istore 14, 2) := by decide +kernel
theorem dL_foretold_145 : decode cL_foretold 145 = .ok (.iload 14, 2) := by decide +kernel
theorem dL_foretold_147 : decode cL_foretold 147 = .ok (.iload_n 2, 1) := by decide +kernel
theorem dL_foretold_148 : decode cL_foretold 148 = .ok (.if_icmp .ge 41, 3) := by decide +kernel
theorem dL_foretold_151 : decode cL_foretold 151 = .ok (.aload_n 0, 1) := by decide +kernel
theorem dL_foretold_152 : decode cL_foretold 152 = .ok (.iload 14, 2) := by decide +kernel
theorem dL_foretold_154 : decode cL_foretold 154 = .ok (.iload 12, 2) := by decide +kernel
theorem dL_foretold_156 : decode cL_foretold 156 = .ok (.invokestatic 268, 3) := by decide +kernel
theorem dL_foretold_159 : decode cL_foretold 159 = .ok (.iconst 1, 1) := by decide +kernel
theorem dL_foretold_160 : decode cL_foretold 160 = .ok (.if_icmp .ne 19, 3) := by decide +kernel
theorem dL_foretold_163 : decode cL_foretold 163 = .ok (.fload 13, 2) := by decide +kernel
theorem dL_foretold_165 : decode cL_foretold 165 = .ok (.aload_n 0, 1) := by decide +kernel
theorem dL_foretold_166 : decode cL_foretold 166 = .ok (.iload 14, 2) := by decide +kernel
theorem dL_foretold_168 : decode cL_foretold 168 = .ok (.invokestatic 240, 3) := by decide +kernel
theorem dL_foretold_171 : decode cL_foretold 171 = .ok (.ldc_w 364, 3) := by decide +kernel
theorem dL_foretold_174 : decode cL_foretold 174 = .ok (.fmul, 1) := by decide +kernel
theorem dL_foretold_175 : decode cL_foretold 175 = .ok (.fadd, 1) := by decide +kernel
theorem dL_foretold_176 : decode cL_foretold 176 = .ok (.goto 5, 3) := by decide +kernel
theorem dL_foretold_179 : decode cL_foretold 179 = .ok (.fload 13, 2) := by decide +kernel
theorem dL_foretold_181 : decode cL_foretold 181 = .ok (.fstore 13, 2) := by decide +kernel
theorem dL_foretold_183 : decode cL_foretold 183 = .ok (.iinc 14 1, 3) := by decide +kernel
theorem dL_foretold_186 : decode cL_foretold 186 = .ok (.goto (-41), 3) := by decide +kernel
theorem dL_foretold_189 : decode cL_foretold 189 = .ok (.fload 13, 2) := by decide +kernel
theorem dL_foretold_191 : decode cL_foretold 191 = .ok (.bipush 10, 2) := by decide +kernel
theorem dL_foretold_193 : decode cL_foretold 193 = .ok (.aload_n 0, 1) := by decide +kernel
theorem dL_foretold_194 : decode cL_foretold 194 = .ok (.aload_n 0, 1) := by decide +kernel
theorem dL_foretold_195 : decode cL_foretold 195 = .ok (.iload 12, 2) := by decide +kernel
theorem dL_foretold_197 : decode cL_foretold 197 = .ok (.invokestatic 238, 3) := by decide +kernel
theorem dL_foretold_200 : decode cL_foretold 200 = .ok (.invokestatic 345, 3) := by decide +kernel
theorem dL_foretold_203 : decode cL_foretold 203 = .ok (.isub, 1) := by decide +kernel
theorem dL_foretold_204 : decode cL_foretold 204 = .ok (.i2f, 1) := by decide +kernel
theorem dL_foretold_205 : decode cL_foretold 205 = .ok (.fmul, 1) := by decide +kernel
theorem dL_foretold_206 : decode cL_foretold 206 = .ok (.ldc_w 365, 3) := by decide +kernel
theorem dL_foretold_209 : decode cL_foretold 209 = .ok (.fdiv, 1) := by decide +kernel
theorem dL_foretold_210 : decode cL_foretold 210 = .ok (.fstore 13, 2) := by decide +kernel
theorem dL_foretold_212 : decode cL_foretold 212 = .ok (.aload 9, 2) := by decide +kernel
theorem dL_foretold_214 : decode cL_foretold 214 = .ok (.iload 12, 2) := by decide +kernel
theorem dL_foretold_216 : decode cL_foretold 216 = .ok (.ldc_w 355, 3) := by decide +kernel
theorem dL_foretold_219 : decode cL_foretold 219 = .ok (.fload 13, 2) := by decide +kernel
theorem dL_foretold_221 : decode cL_foretold 221 = .ok (.invokestatic 366, 3) := by decide +kernel
theorem dL_foretold_224 : decode cL_foretold 224 = .ok (.fastore, 1) := by decide +kernel
theorem dL_foretold_225 : decode cL_foretold 225 = .ok (.fload 10, 2) := by decide +kernel
theorem dL_foretold_227 : decode cL_foretold 227 = .ok (.aload 9, 2) := by decide +kernel
theorem dL_foretold_229 : decode cL_foretold 229 = .ok (.iload 12, 2) := by decide +kernel
theorem dL_foretold_231 : decode cL_foretold 231 = .ok (.faload, 1) := by decide +kernel
theorem dL_foretold_232 : decode cL_foretold 232 = .ok (.fadd, 1) := by decide +kernel
theorem dL_foretold_233 : decode cL_foretold 233 = .ok (.fstore 10, 2) := by decide +kernel
theorem dL_foretold_235 : decode cL_foretold 235 = .ok (.iinc 12 1, 3) := by decide +kernel
theorem dL_foretold_238 : decode cL_foretold 238 = .ok (.goto (-114), 3) := by decide +kernel
theorem dL_foretold_241 : decode cL_foretold 241 = .ok (.iconst 0, 1) := by decide +kernel
theorem dL_foretold_242 : decode cL_foretold 242 = .ok (.istore 12, 2) := by decide +kernel
theorem dL_foretold_244 : decode cL_foretold 244 = .ok (.iload 12, 2) := by decide +kernel
theorem dL_foretold_246 : decode cL_foretold 246 = .ok (.bipush 12, 2) := by decide +kernel
theorem dL_foretold_248 : decode cL_foretold 248 = .ok (.if_icmp .ge 36, 3) := by decide +kernel
theorem dL_foretold_251 : decode cL_foretold 251 = .ok (.iload 11, 2) := by decide +kernel
theorem dL_foretold_253 : decode cL_foretold 253 = .ok (.aload_n 0, 1) := by decide +kernel
theorem dL_foretold_254 : decode cL_foretold 254 = .ok (.iload 12, 2) := by decide +kernel
theorem dL_foretold_256 : decode cL_foretold 256 = .ok (.iconst 3, 1) := by decide +kernel
theorem dL_foretold_257 : decode cL_foretold 257 = .ok (.idiv, 1) := by decide +kernel
theorem dL_foretold_258 : decode cL_foretold 258 = .ok (.iload 12, 2) := by decide +kernel
theorem dL_foretold_260 : decode cL_foretold 260 = .ok (.iconst 3, 1) := by decide +kernel
theorem dL_foretold_261 : decode cL_foretold 261 = .ok (.irem, 1) := by decide +kernel
theorem dL_foretold_262 : decode cL_foretold 262 = .ok (.invokestatic 343, 3) := by decide +kernel
theorem dL_foretold_265 : decode cL_foretold 265 = .ok (.bipush 46, 2) := by decide +kernel
theorem dL_foretold_267 : decode cL_foretold 267 = .ok (.if_icmp .ne 7, 3) := by decide +kernel
theorem dL_foretold_270 : decode cL_foretold 270 = .ok (.iconst 1, 1) := by decide +kernel
theorem dL_foretold_271 : decode cL_foretold 271 = .ok (.goto 4, 3) := by decide +kernel
theorem dL_foretold_274 : decode cL_foretold 274 = .ok (.iconst 0, 1) := by decide +kernel
theorem dL_foretold_275 : decode cL_foretold 275 = .ok (.iadd, 1) := by decide +kernel
theorem dL_foretold_276 : decode cL_foretold 276 = .ok (.istore 11, 2) := by decide +kernel
theorem dL_foretold_278 : decode cL_foretold 278 = .ok (.iinc 12 1, 3) := by decide +kernel
theorem dL_foretold_281 : decode cL_foretold 281 = .ok (.goto (-37), 3) := by decide +kernel
theorem dL_foretold_284 : decode cL_foretold 284 = .ok (.aload_n 0, 1) := by decide +kernel
theorem dL_foretold_285 : decode cL_foretold 285 = .ok (.invokevirtual 260, 3) := by decide +kernel
theorem dL_foretold_288 : decode cL_foretold 288 = .ok (.istore 12, 2) := by decide +kernel
theorem dL_foretold_290 : decode cL_foretold 290 = .ok (.fload 10, 2) := by decide +kernel
theorem dL_foretold_292 : decode cL_foretold 292 = .ok (.iload 4, 2) := by decide +kernel
theorem dL_foretold_294 : decode cL_foretold 294 = .ok (.i2f, 1) := by decide +kernel
theorem dL_foretold_295 : decode cL_foretold 295 = .ok (.fcmp .l, 1) := by decide +kernel
theorem dL_foretold_296 : decode cL_foretold 296 = .ok (.ifCond .le 7, 3) := by decide +kernel
theorem dL_foretold_299 : decode cL_foretold 299 = .ok (.iconst 1, 1) := by decide +kernel
theorem dL_foretold_300 : decode cL_foretold 300 = .ok (.goto 4, 3) := by decide +kernel
theorem dL_foretold_303 : decode cL_foretold 303 = .ok (.iconst 0, 1) := by decide +kernel
theorem dL_foretold_304 : decode cL_foretold 304 = .ok (.istore 13, 2) := by decide +kernel
theorem dL_foretold_306 : decode cL_foretold 306 = .ok (.iload_n 3, 1) := by decide +kernel
theorem dL_foretold_307 : decode cL_foretold 307 = .ok (.aload_n 0, 1) := by decide +kernel
theorem dL_foretold_308 : decode cL_foretold 308 = .ok (.iconst 1, 1) := by decide +kernel
theorem dL_foretold_309 : decode cL_foretold 309 = .ok (.invokestatic 216, 3) := by decide +kernel
theorem dL_foretold_312 : decode cL_foretold 312 = .ok (.iload 13, 2) := by decide +kernel
theorem dL_foretold_314 : decode cL_foretold 314 = .ok (.ifCond .eq 7, 3) := by decide +kernel
theorem dL_foretold_317 : decode cL_foretold 317 = .ok (.iconst 1, 1) := by decide +kernel
theorem dL_foretold_318 : decode cL_foretold 318 = .ok (.goto 4, 3) := by decide +kernel
theorem dL_foretold_321 : decode cL_foretold 321 = .ok (.iconst 0, 1) := by decide +kernel
theorem dL_foretold_322 : decode cL_foretold 322 = .ok (.if_icmp .ne 37, 3) := by decide +kernel
theorem dL_foretold_325 : decode cL_foretold 325 = .ok (.aload_n 0, 1) := by decide +kernel
theorem dL_foretold_326 : decode cL_foretold 326 = .ok (.invokevirtual 260, 3) := by decide +kernel
theorem dL_foretold_329 : decode cL_foretold 329 = .ok (.iload 12, 2) := by decide +kernel
theorem dL_foretold_331 : decode cL_foretold 331 = .ok (.iload 13, 2) := by decide +kernel
theorem dL_foretold_333 : decode cL_foretold 333 = .ok (.ifCond .eq 7, 3) := by decide +kernel
theorem dL_foretold_336 : decode cL_foretold 336 = .ok (.iconst 1, 1) := by decide +kernel
theorem dL_foretold_337 : decode cL_foretold 337 = .ok (.goto 4, 3) := by decide +kernel
theorem dL_foretold_340 : decode cL_foretold 340 = .ok (.iconst 0, 1) := by decide +kernel
theorem dL_foretold_341 : decode cL_foretold 341 = .ok (.iadd, 1) := by decide +kernel
theorem dL_foretold_342 : decode cL_foretold 342 = .ok (.if_icmp .ne 17, 3) := by decide +kernel
theorem dL_foretold_345 : decode cL_foretold 345 = .ok (.aload_n 0, 1) := by decide +kernel
theorem dL_foretold_346 : decode cL_foretold 346 = .ok (.invokevirtual 253, 3) := by decide +kernel
theorem dL_foretold_349 : decode cL_foretold 349 = .ok (.fload 10, 2) := by decide +kernel
theorem dL_foretold_351 : decode cL_foretold 351 = .ok (.fcmp .l, 1) := by decide +kernel
theorem dL_foretold_352 : decode cL_foretold 352 = .ok (.ifCond .ne 7, 3) := by decide +kernel
theorem dL_foretold_355 : decode cL_foretold 355 = .ok (.iconst 1, 1) := by decide +kernel
theorem dL_foretold_356 : decode cL_foretold 356 = .ok (.goto 4, 3) := by decide +kernel
theorem dL_foretold_359 : decode cL_foretold 359 = .ok (.iconst 0, 1) := by decide +kernel
theorem dL_foretold_360 : decode cL_foretold 360 = .ok (.iand, 1) := by decide +kernel
theorem dL_foretold_361 : decode cL_foretold 361 = .ok (.istore_n 3, 1) := by decide +kernel
theorem dL_foretold_362 : decode cL_foretold 362 = .ok (.iconst 0, 1) := by decide +kernel
theorem dL_foretold_363 : decode cL_foretold 363 = .ok (.istore 14, 2) := by decide +kernel
theorem dL_foretold_365 : decode cL_foretold 365 = .ok (.iload 14, 2) := by decide +kernel
theorem dL_foretold_367 : decode cL_foretold 367 = .ok (.iload_n 2, 1) := by decide +kernel
theorem dL_foretold_368 : decode cL_foretold 368 = .ok (.if_icmp .ge 32, 3) := by decide +kernel
theorem dL_foretold_371 : decode cL_foretold 371 = .ok (.iload_n 3, 1) := by decide +kernel
theorem dL_foretold_372 : decode cL_foretold 372 = .ok (.aload_n 0, 1) := by decide +kernel
theorem dL_foretold_373 : decode cL_foretold 373 = .ok (.iload 14, 2) := by decide +kernel
theorem dL_foretold_375 : decode cL_foretold 375 = .ok (.invokestatic 240, 3) := by decide +kernel
theorem dL_foretold_378 : decode cL_foretold 378 = .ok (.aload 9, 2) := by decide +kernel
theorem dL_foretold_380 : decode cL_foretold 380 = .ok (.iload 14, 2) := by decide +kernel
theorem dL_foretold_382 : decode cL_foretold 382 = .ok (.faload, 1) := by decide +kernel
theorem dL_foretold_383 : decode cL_foretold 383 = .ok (.fcmp .l, 1) := by decide +kernel
theorem dL_foretold_384 : decode cL_foretold 384 = .ok (.ifCond .ne 7, 3) := by decide +kernel
theorem dL_foretold_387 : decode cL_foretold 387 = .ok (.iconst 1, 1) := by decide +kernel
theorem dL_foretold_388 : decode cL_foretold 388 = .ok (.goto 4, 3) := by decide +kernel
theorem dL_foretold_391 : decode cL_foretold 391 = .ok (.iconst 0, 1) := by decide +kernel
theorem dL_foretold_392 : decode cL_foretold 392 = .ok (.iand, 1) := by decide +kernel
theorem dL_foretold_393 : decode cL_foretold 393 = .ok (.istore_n 3, 1) := by decide +kernel
theorem dL_foretold_394 : decode cL_foretold 394 = .ok (.iinc 14 1, 3) := by decide +kernel
theorem dL_foretold_397 : decode cL_foretold 397 = .ok (.goto (-32), 3) := by decide +kernel
theorem dL_foretold_400 : decode cL_foretold 400 = .ok (.iconst 0, 1) := by decide +kernel
theorem dL_foretold_401 : decode cL_foretold 401 = .ok (.istore 14, 2) := by decide +kernel
theorem dL_foretold_403 : decode cL_foretold 403 = .ok (.iload 14, 2) := by decide +kernel
theorem dL_foretold_405 : decode cL_foretold 405 = .ok (.bipush 12, 2) := by decide +kernel
theorem dL_foretold_407 : decode cL_foretold 407 = .ok (.if_icmp .ge 66, 3) := by decide +kernel
theorem dL_foretold_410 : decode cL_foretold 410 = .ok (.iload_n 3, 1) := by decide +kernel
theorem dL_foretold_411 : decode cL_foretold 411 = .ok (.iload 13, 2) := by decide +kernel
theorem dL_foretold_413 : decode cL_foretold 413 = .ok (.ifCond .eq 20, 3) := by decide +kernel
theorem dL_foretold_416 : decode cL_foretold 416 = .ok (.aload_n 0, 1) := by decide +kernel
theorem dL_foretold_417 : decode cL_foretold 417 = .ok (.iload 14, 2) := by decide +kernel
theorem dL_foretold_419 : decode cL_foretold 419 = .ok (.iconst 3, 1) := by decide +kernel
theorem dL_foretold_420 : decode cL_foretold 420 = .ok (.idiv, 1) := by decide +kernel
theorem dL_foretold_421 : decode cL_foretold 421 = .ok (.iload 14, 2) := by decide +kernel
theorem dL_foretold_423 : decode cL_foretold 423 = .ok (.iconst 3, 1) := by decide +kernel
theorem dL_foretold_424 : decode cL_foretold 424 = .ok (.irem, 1) := by decide +kernel
theorem dL_foretold_425 : decode cL_foretold 425 = .ok (.invokestatic 343, 3) := by decide +kernel
theorem dL_foretold_428 : decode cL_foretold 428 = .ok (.bipush 46, 2) := by decide +kernel
theorem dL_foretold_430 : decode cL_foretold 430 = .ok (.if_icmp .eq 7, 3) := by decide +kernel
theorem dL_foretold_433 : decode cL_foretold 433 = .ok (.iconst 1, 1) := by decide +kernel
theorem dL_foretold_434 : decode cL_foretold 434 = .ok (.goto 4, 3) := by decide +kernel
theorem dL_foretold_437 : decode cL_foretold 437 = .ok (.iconst 0, 1) := by decide +kernel
theorem dL_foretold_438 : decode cL_foretold 438 = .ok (.iand, 1) := by decide +kernel
theorem dL_foretold_439 : decode cL_foretold 439 = .ok (.istore_n 3, 1) := by decide +kernel
theorem dL_foretold_440 : decode cL_foretold 440 = .ok (.iload 11, 2) := by decide +kernel
theorem dL_foretold_442 : decode cL_foretold 442 = .ok (.aload_n 0, 1) := by decide +kernel
theorem dL_foretold_443 : decode cL_foretold 443 = .ok (.iload 14, 2) := by decide +kernel
theorem dL_foretold_445 : decode cL_foretold 445 = .ok (.iconst 3, 1) := by decide +kernel
theorem dL_foretold_446 : decode cL_foretold 446 = .ok (.idiv, 1) := by decide +kernel
theorem dL_foretold_447 : decode cL_foretold 447 = .ok (.iload 14, 2) := by decide +kernel
theorem dL_foretold_449 : decode cL_foretold 449 = .ok (.iconst 3, 1) := by decide +kernel
theorem dL_foretold_450 : decode cL_foretold 450 = .ok (.irem, 1) := by decide +kernel
theorem dL_foretold_451 : decode cL_foretold 451 = .ok (.invokestatic 343, 3) := by decide +kernel
theorem dL_foretold_454 : decode cL_foretold 454 = .ok (.bipush 46, 2) := by decide +kernel
theorem dL_foretold_456 : decode cL_foretold 456 = .ok (.if_icmp .ne 7, 3) := by decide +kernel
theorem dL_foretold_459 : decode cL_foretold 459 = .ok (.iconst 1, 1) := by decide +kernel
theorem dL_foretold_460 : decode cL_foretold 460 = .ok (.goto 4, 3) := by decide +kernel
theorem dL_foretold_463 : decode cL_foretold 463 = .ok (.iconst 0, 1) := by decide +kernel
theorem dL_foretold_464 : decode cL_foretold 464 = .ok (.isub, 1) := by decide +kernel
theorem dL_foretold_465 : decode cL_foretold 465 = .ok (.istore 11, 2) := by decide +kernel
theorem dL_foretold_467 : decode cL_foretold 467 = .ok (.iinc 14 1, 3) := by decide +kernel
theorem dL_foretold_470 : decode cL_foretold 470 = .ok (.goto (-67), 3) := by decide +kernel
theorem dL_foretold_473 : decode cL_foretold 473 = .ok (.iload_n 3, 1) := by decide +kernel
theorem dL_foretold_474 : decode cL_foretold 474 = .ok (.iload 13, 2) := by decide +kernel
theorem dL_foretold_476 : decode cL_foretold 476 = .ok (.ifCond .eq 33, 3) := by decide +kernel
theorem dL_foretold_479 : decode cL_foretold 479 = .ok (.aload_n 0, 1) := by decide +kernel
theorem dL_foretold_480 : decode cL_foretold 480 = .ok (.iconst 0, 1) := by decide +kernel
theorem dL_foretold_481 : decode cL_foretold 481 = .ok (.invokestatic 249, 3) := by decide +kernel
theorem dL_foretold_484 : decode cL_foretold 484 = .ok (.bipush 115, 2) := by decide +kernel
theorem dL_foretold_486 : decode cL_foretold 486 = .ok (.if_icmp .ne 19, 3) := by decide +kernel
theorem dL_foretold_489 : decode cL_foretold 489 = .ok (.aload_n 0, 1) := by decide +kernel
theorem dL_foretold_490 : decode cL_foretold 490 = .ok (.iconst 0, 1) := by decide +kernel
theorem dL_foretold_491 : decode cL_foretold 491 = .ok (.invokestatic 251, 3) := by decide +kernel
theorem dL_foretold_494 : decode cL_foretold 494 = .ok (.aload_n 0, 1) := by decide +kernel
theorem dL_foretold_495 : decode cL_foretold 495 = .ok (.invokevirtual 257, 3) := by decide +kernel
theorem dL_foretold_498 : decode cL_foretold 498 = .ok (.if_icmp .ne 7, 3) := by decide +kernel
theorem dL_foretold_501 : decode cL_foretold 501 = .ok (.iconst 1, 1) := by decide +kernel
theorem dL_foretold_502 : decode cL_foretold 502 = .ok (.goto 17, 3) := by decide +kernel
theorem dL_foretold_505 : decode cL_foretold 505 = .ok (.iconst 0, 1) := by decide +kernel
theorem dL_foretold_506 : decode cL_foretold 506 = .ok (.goto 13, 3) := by decide +kernel
theorem dL_foretold_509 : decode cL_foretold 509 = .ok (.iload 11, 2) := by decide +kernel
theorem dL_foretold_511 : decode cL_foretold 511 = .ok (.ifCond .ne 7, 3) := by decide +kernel
theorem dL_foretold_514 : decode cL_foretold 514 = .ok (.iconst 1, 1) := by decide +kernel
theorem dL_foretold_515 : decode cL_foretold 515 = .ok (.goto 4, 3) := by decide +kernel
theorem dL_foretold_518 : decode cL_foretold 518 = .ok (.iconst 0, 1) := by decide +kernel
theorem dL_foretold_519 : decode cL_foretold 519 = .ok (.iand, 1) := by decide +kernel
theorem dL_foretold_520 : decode cL_foretold 520 = .ok (.istore_n 3, 1) := by decide +kernel
theorem dL_foretold_521 : decode cL_foretold 521 = .ok (.iinc 8 1, 3) := by decide +kernel
theorem dL_foretold_524 : decode cL_foretold 524 = .ok (.goto (-436), 3) := by decide +kernel
theorem dL_foretold_527 : decode cL_foretold 527 = .ok (.iload_n 3, 1) := by decide +kernel
theorem dL_foretold_528 : decode cL_foretold 528 = .ok (.iload 8, 2) := by decide +kernel
theorem dL_foretold_530 : decode cL_foretold 530 = .ok (.bipush 6, 2) := by decide +kernel
theorem dL_foretold_532 : decode cL_foretold 532 = .ok (.if_icmp .lt 14, 3) := by decide +kernel
theorem dL_foretold_535 : decode cL_foretold 535 = .ok (.aload_n 0, 1) := by decide +kernel
theorem dL_foretold_536 : decode cL_foretold 536 = .ok (.invokevirtual 253, 3) := by decide +kernel
theorem dL_foretold_539 : decode cL_foretold 539 = .ok (.iload 6, 2) := by decide +kernel
theorem dL_foretold_541 : decode cL_foretold 541 = .ok (.i2f, 1) := by decide +kernel
theorem dL_foretold_542 : decode cL_foretold 542 = .ok (.fcmp .g, 1) := by decide +kernel
theorem dL_foretold_543 : decode cL_foretold 543 = .ok (.ifCond .ge 18, 3) := by decide +kernel
theorem dL_foretold_546 : decode cL_foretold 546 = .ok (.iload 7, 2) := by decide +kernel
theorem dL_foretold_548 : decode cL_foretold 548 = .ok (.iload 8, 2) := by decide +kernel
theorem dL_foretold_550 : decode cL_foretold 550 = .ok (.if_icmp .ne 7, 3) := by decide +kernel
theorem dL_foretold_553 : decode cL_foretold 553 = .ok (.iconst 1, 1) := by decide +kernel
theorem dL_foretold_554 : decode cL_foretold 554 = .ok (.goto 26, 3) := by decide +kernel
theorem dL_foretold_557 : decode cL_foretold 557 = .ok (.iconst 0, 1) := by decide +kernel
theorem dL_foretold_558 : decode cL_foretold 558 = .ok (.goto 22, 3) := by decide +kernel
theorem dL_foretold_561 : decode cL_foretold 561 = .ok (.iload 7, 2) := by decide +kernel
theorem dL_foretold_563 : decode cL_foretold 563 = .ok (.bipush (-2), 2) := by decide +kernel
theorem dL_foretold_565 : decode cL_foretold 565 = .ok (.if_icmp .eq 10, 3) := by decide +kernel
theorem dL_foretold_568 : decode cL_foretold 568 = .ok (.iload 7, 2) := by decide +kernel
theorem dL_foretold_570 : decode cL_foretold 570 = .ok (.iload 8, 2) := by decide +kernel
theorem dL_foretold_572 : decode cL_foretold 572 = .ok (.if_icmp .le 7, 3) := by decide +kernel
theorem dL_foretold_575 : decode cL_foretold 575 = .ok (.iconst 1, 1) := by decide +kernel
theorem dL_foretold_576 : decode cL_foretold 576 = .ok (.goto 4, 3) := by decide +kernel
theorem dL_foretold_579 : decode cL_foretold 579 = .ok (.iconst 0, 1) := by decide +kernel
theorem dL_foretold_580 : decode cL_foretold 580 = .ok (.iand, 1) := by decide +kernel
theorem dL_foretold_581 : decode cL_foretold 581 = .ok (.istore_n 3, 1) := by decide +kernel
theorem dL_foretold_582 : decode cL_foretold 582 = .ok (.aload_n 0, 1) := by decide +kernel
theorem dL_foretold_583 : decode cL_foretold 583 = .ok (.invokestatic 370, 3) := by decide +kernel
theorem dL_foretold_586 : decode cL_foretold 586 = .ok (.iload_n 2, 1) := by decide +kernel
theorem dL_foretold_587 : decode cL_foretold 587 = .ok (.if_icmp .ne 11, 3) := by decide +kernel
theorem dL_foretold_590 : decode cL_foretold 590 = .ok (.iload_n 3, 1) := by decide +kernel
theorem dL_foretold_591 : decode cL_foretold 591 = .ok (.ifCond .eq 7, 3) := by decide +kernel
theorem dL_foretold_594 : decode cL_foretold 594 = .ok (.iconst 1, 1) := by decide +kernel
theorem dL_foretold_595 : decode cL_foretold 595 = .ok (.goto 4, 3) := by decide +kernel
theorem dL_foretold_598 : decode cL_foretold 598 = .ok (.iconst 0, 1) := by decide +kernel
theorem dL_foretold_599 : decode cL_foretold 599 = .ok (.ireturn, 1) := by decide +kernel
set_option maxRecDepth 20000 in
theorem ggL_law_X12_init : GoodIn wsL_law wsX12_init := goodIn_ca (goodIn_r _ [10, 11, 12, 13, 14, 15, 16, 17, 18, 19, 20, 21, 22, 23, 24, 25, 26, 27, 28, 29, 30, 31, 32, 33, 34, 35, 36, 37, 38, 39, 40, 41, 42, 43, 44, 45, 46, 47, 48, 49, 50, 51, 52, 53, 54, 55, 56, 57, 58, 59, 60, 61, 62, 63, 64, 65, 66, 67, 68, 69, 70, 71, 72, 73, 74, 75, 76, 77, 78, 79, 80, 81, 82, 83, 84, 85, 86, 87, 88, 89, 90, 91, 92, 93, 94, 95, 96, 97, 98, 99, 100, 101, 102, 103, 104, 105, 106, 107, 108, 109, 110, 111, 112, 113, 114, 115, 116, 117, 118, 119, 120, 121, 122, 123, 124, 1511, 1512, 1513, 1514, 1515, 1516, 1517, 1494, 1495, 1496, 1497, 1498, 1499, 1500, 1501, 1502, 1503, 1504, 1505, 1506, 1507, 1508, 1509, 1518, 1519, 1520, 1521, 1522, 1523, 1524, 1525, 1526, 1527, 1528, 1529, 1530, 1531, 1532, 1533, 1534, 1535, 1536, 1537, 1538, 1539, 1540, 1541, 1542] rfl (by decide +kernel)) (goodIn_sub (fun _ h => List.mem_append_left _ (List.mem_append_left _ (List.mem_append_left _ (List.mem_append_left _ (List.mem_append_left _ (List.mem_append_left _ (List.mem_append_left _ (List.mem_append_right _ h)))))))) (by decide +kernel))
set_option maxRecDepth 20000 in
theorem gL_law_X12_init : GoodIn wsL_law (wsX12_init) := ggL_law_X12_init
set_option maxRecDepth 20000 in
theorem ggL_law_L_undo : GoodIn wsL_law wsL_undo := goodIn_ca (goodIn_r _ [128, 129, 130, 131, 132, 2, 133, 134, 135, 21, 20, 17, 19, 1494, 1495, 1496, 1497, 1498, 1499, 1500, 1501, 1502, 1503, 1504, 1505, 1506, 1507, 1508, 1509] rfl (by decide +kernel)) (goodIn_sub (fun _ h => List.mem_append_left _ (List.mem_append_left _ (List.mem_append_left _ (List.mem_append_left _ (List.mem_append_left _ (List.mem_append_left _ (List.mem_append_right _ h))))))) (by decide +kernel))
set_option maxRecDepth 20000 in
theorem gL_law_L_undo : GoodIn wsL_law (va_wsS RL 374 yL_undo wsL_undo) := goodIn_app (goodIn_of _ (by decide +kernel)) ggL_law_L_undo
set_option maxRecDepth 20000 in
theorem ggL_law_L_restore : GoodIn wsL_law wsL_restore := goodIn_ca (goodIn_ca (goodIn_r _ [138, 129, 139, 140, 141, 2, 142, 134, 135, 23, 17, 22, 21, 143, 144, 145, 146, 147, 16, 148, 53, 57, 61, 62, 63, 64, 149, 150, 151, 52, 152, 71, 73, 153, 154, 155, 156, 74, 75, 76, 77, 157, 158, 159, 56, 160, 82, 83, 161, 162, 163, 60, 164, 88, 89, 90, 91, 1494, 1495, 1496, 1497, 1498, 1499, 1500, 1501, 1502, 1503, 1504, 1505, 1506, 1507, 1508, 1509, 1511, 1512, 1513, 1514, 1515, 1516, 1517, 1531, 1532, 1533, 1534, 1535, 1536, 1537, 1538, 1539, 1540, 1541, 1542] rfl (by decide +kernel)) (goodIn_sub (fun _ h => List.mem_append_left _ (List.mem_append_left _ (List.mem_append_left _ (List.mem_append_left _ (List.mem_append_left _ (List.mem_append_left _ (List.mem_append_right _ h))))))) (by decide +kernel))) (goodIn_sub (fun _ h => List.mem_append_left _ (List.mem_append_left _ (List.mem_append_left _ (List.mem_append_left _ (List.mem_append_left _ (List.mem_append_left _ (List.mem_append_left _ (List.mem_append_right _ h)))))))) (by decide +kernel))
set_option maxRecDepth 20000 in
theorem gL_law_L_restore : GoodIn wsL_law (va_wsS RL 370 yL_restore wsL_restore) := goodIn_app (goodIn_of _ (by decide +kernel)) ggL_law_L_restore
set_option maxRecDepth 20000 in
theorem ggL_law_L_errorPosition : GoodIn wsL_law wsL_errorPosition := goodIn_ca (goodIn_r _ [167, 168, 169, 170, 171, 2, 172, 173, 174, 29, 1494, 1495, 1496, 1497, 1498, 1499, 1500, 1501, 1502, 1503, 1504, 1505, 1506, 1507, 1508, 1509] rfl (by decide +kernel)) (goodIn_sub (fun _ h => List.mem_append_left _ (List.mem_append_left _ (List.mem_append_left _ (List.mem_append_left _ (List.mem_append_left _ (List.mem_append_right _ h)))))) (by decide +kernel))
set_option maxRecDepth 20000 in
theorem gL_law_L_errorPosition : GoodIn wsL_law (va_wsS RL 376 yL_errorPosition wsL_errorPosition) := goodIn_app (goodIn_of _ (by decide +kernel)) ggL_law_L_errorPosition
set_option maxRecDepth 20000 in
theorem ggL_law_L_failedCommand : GoodIn wsL_law wsL_failedCommand := goodIn_ca (goodIn_r _ [177, 168, 178, 179, 180, 2, 181, 173, 174, 30, 1494, 1495, 1496, 1497, 1498, 1499, 1500, 1501, 1502, 1503, 1504, 1505, 1506, 1507, 1508, 1509] rfl (by decide +kernel)) (goodIn_sub (fun _ h => List.mem_append_left _ (List.mem_append_left _ (List.mem_append_left _ (List.mem_append_left _ (List.mem_append_left _ (List.mem_append_right _ h)))))) (by decide +kernel))
set_option maxRecDepth 20000 in
theorem gL_law_L_failedCommand : GoodIn wsL_law (va_wsS RL 378 yL_failedCommand wsL_failedCommand) := goodIn_app (goodIn_of _ (by decide +kernel)) ggL_law_L_failedCommand
set_option maxRecDepth 20000 in
theorem ggL_law_L_run : GoodIn wsL_law wsL_run := goodIn_ca (goodIn_ca (goodIn_ca (goodIn_ca (goodIn_ca (goodIn_ca (goodIn_r _ [184, 185, 186, 187, 188, 2, 189, 190, 191, 134, 135, 28, 192, 29, 18, 17, 193, 194, 195, 30, 196, 197, 198, 27, 199, 102, 104, 99, 97, 96, 200, 201, 202, 203, 204, 205, 206, 207, 208, 209, 210, 211, 103, 212, 213, 214, 215, 216, 217, 218, 219, 220, 221, 222, 223, 224, 225, 226, 227, 228, 229, 230, 231, 232, 233, 234, 235, 236, 237, 238, 239, 240, 241, 242, 243, 244, 245, 246, 247, 248, 249, 250, 251, 252, 253, 254, 255, 256, 257, 258, 259, 260, 261, 262, 263, 264, 265, 266, 267, 268, 269, 270, 271, 272, 273, 274, 275, 276, 277, 101, 278, 279, 280, 281, 282, 283, 284, 285, 286, 287, 288, 289, 290, 291, 292, 293, 294, 295, 296, 297, 298, 299, 300, 301, 302, 303, 304, 305, 306, 307, 308, 309, 310, 311, 312, 313, 314, 315, 316, 317, 318, 319, 320, 321, 322, 323, 324, 325, 326, 327, 328, 329, 330, 331, 332, 333, 334, 335, 336, 337, 338, 339, 340, 341, 342, 343, 344, 345, 346, 347, 145, 146, 147, 16, 148, 53, 57, 61, 62, 63, 64, 149, 150, 151, 52, 152, 71, 73, 153, 154, 155, 156, 74, 75, 76, 77, 157, 158, 159, 56, 160, 82, 83, 161, 162, 163, 60, 164, 88, 89, 90, 91, 348, 349, 350, 351, 352, 143, 353, 354, 355, 356, 357, 358, 359, 360, 361, 362, 363, 364, 365, 366, 367, 368, 369, 370, 371, 372, 373, 374, 375, 376, 377, 378, 379, 380, 381, 382, 383, 384, 385, 386, 387, 388, 389, 390, 391, 392, 393, 394, 395, 396, 397, 398, 399, 400, 401, 402, 403, 404, 405, 406, 407, 408, 409, 410, 411, 412, 413, 414, 415, 416, 417, 418, 419, 420, 421, 422, 423, 424, 425, 426, 427, 428, 429, 430, 431, 432, 433, 434, 435, 436, 437, 438, 439, 440, 441, 442, 66, 443, 444, 445, 446, 447, 448, 449, 450, 451, 452, 453, 454, 455, 456, 457, 458, 459, 460, 461, 462, 463, 464, 465, 19, 20, 21, 466, 467, 468, 469, 470, 471, 472, 473, 173, 174, 1494, 1495, 1496, 1497, 1498, 1499, 1500, 1501, 1502, 1503, 1504, 1505, 1506, 1507, 1508, 1509, 1518, 1519, 1520, 1521, 1522, 1523, 1524, 1543, 1544, 1545, 1546, 1511, 1512, 1513, 1514, 1515, 1516, 1517, 1531, 1532, 1533, 1534, 1535, 1536, 1537, 1538, 1539, 1540, 1541, 1542] rfl (by decide +kernel)) (goodIn_sub (fun _ h => List.mem_append_left _ (List.mem_append_left _ (List.mem_append_left _ (List.mem_append_left _ (List.mem_append_right _ h))))) (by decide +kernel))) (goodIn_sub (fun _ h => List.mem_append_left _ (List.mem_append_left _ (List.mem_append_left _ (List.mem_append_left _ (List.mem_append_left _ (List.mem_append_left _ (List.mem_append_right _ h))))))) (by decide +kernel))) (goodIn_sub (fun _ h => List.mem_append_left _ (List.mem_append_left _ (List.mem_append_left _ (List.mem_append_left _ (List.mem_append_left _ (List.mem_append_left _ (List.mem_append_left _ (List.mem_append_right _ h)))))))) (by decide +kernel))) (goodIn_sub (fun _ h => List.mem_append_left _ (List.mem_append_left _ (List.mem_append_left _ (List.mem_append_right _ h)))) (by decide +kernel))) (goodIn_sub (fun _ h => List.mem_append_left _ (List.mem_append_left _ (List.mem_append_right _ h))) (by decide +kernel))) (goodIn_sub (fun _ h => List.mem_append_left _ (List.mem_append_left _ (List.mem_append_left _ (List.mem_append_left _ (List.mem_append_left _ (List.mem_append_right _ h)))))) (by decide +kernel))
set_option maxRecDepth 20000 in
theorem gL_law_L_run : GoodIn wsL_law (va_wsS RL 380 yL_run wsL_run) := goodIn_app (goodIn_of _ (by decide +kernel)) ggL_law_L_run
set_option maxRecDepth 20000 in
theorem ggL_law_L_lineAt : GoodIn wsL_law wsL_lineAt := goodIn_ca (goodIn_ca (goodIn_r _ [476, 477, 478, 479, 480, 2, 481, 470, 471, 33, 32, 1494, 1495, 1496, 1497, 1498, 1499, 1500, 1501, 1502, 1503, 1504, 1505, 1506, 1507, 1508, 1509] rfl (by decide +kernel)) (goodIn_sub (fun _ h => List.mem_append_left _ (List.mem_append_left _ (List.mem_append_left _ (List.mem_append_right _ h)))) (by decide +kernel))) (goodIn_sub (fun _ h => List.mem_append_left _ (List.mem_append_left _ (List.mem_append_left _ (List.mem_append_left _ (List.mem_append_left _ (List.mem_append_left _ (List.mem_append_left _ (List.mem_append_right _ h)))))))) (by decide +kernel))
set_option maxRecDepth 20000 in
theorem gL_law_L_lineAt : GoodIn wsL_law (va_wsS RL 151 yL_lineAt wsL_lineAt) := goodIn_app (goodIn_of _ (by decide +kernel)) ggL_law_L_lineAt
set_option maxRecDepth 20000 in
theorem ggL_law_L_addClaim : GoodIn wsL_law wsL_addClaim := goodIn_ca (goodIn_ca (goodIn_ca (goodIn_ca (goodIn_ca (goodIn_ca (goodIn_r _ [484, 185, 485, 486, 487, 2, 488, 18, 17, 143, 145, 146, 147, 16, 148, 53, 57, 61, 62, 63, 64, 149, 150, 151, 52, 152, 71, 73, 153, 154, 155, 156, 74, 75, 76, 77, 157, 158, 159, 56, 160, 82, 83, 161, 162, 163, 60, 164, 88, 89, 90, 91, 361, 362, 363, 364, 462, 463, 464, 465, 19, 20, 21, 466, 300, 206, 301, 467, 468, 469, 470, 471, 190, 191, 134, 135, 472, 473, 173, 174, 1494, 1495, 1496, 1497, 1498, 1499, 1500, 1501, 1502, 1503, 1504, 1505, 1506, 1507, 1508, 1509, 1511, 1512, 1513, 1514, 1515, 1516, 1517, 1531, 1532, 1533, 1534, 1535, 1536, 1537, 1538, 1539, 1540, 1541, 1542] rfl (by decide +kernel)) (goodIn_sub (fun _ h => List.mem_append_left _ (List.mem_append_left _ (List.mem_append_left _ (List.mem_append_left _ (List.mem_append_left _ (List.mem_append_left _ (List.mem_append_left _ (List.mem_append_right _ h)))))))) (by decide +kernel))) (goodIn_sub (fun _ h => List.mem_append_left _ (List.mem_append_left _ (List.mem_append_left _ (List.mem_append_right _ h)))) (by decide +kernel))) (goodIn_sub (fun _ h => List.mem_append_left _ (List.mem_append_left _ (List.mem_append_left _ (List.mem_append_left _ (List.mem_append_right _ h))))) (by decide +kernel))) (goodIn_sub (fun _ h => List.mem_append_left _ (List.mem_append_left _ (List.mem_append_left _ (List.mem_append_left _ (List.mem_append_left _ (List.mem_append_left _ (List.mem_append_right _ h))))))) (by decide +kernel))) (goodIn_sub (fun _ h => List.mem_append_left _ (List.mem_append_left _ (List.mem_append_right _ h))) (by decide +kernel))) (goodIn_sub (fun _ h => List.mem_append_left _ (List.mem_append_left _ (List.mem_append_left _ (List.mem_append_left _ (List.mem_append_left _ (List.mem_append_right _ h)))))) (by decide +kernel))
set_option maxRecDepth 20000 in
theorem gL_law_L_addClaim : GoodIn wsL_law (va_wsS RL 191 yL_addClaim wsL_addClaim) := goodIn_app (goodIn_of _ (by decide +kernel)) ggL_law_L_addClaim
set_option maxRecDepth 20000 in
theorem ggL_law_L_setAttack : GoodIn wsL_law wsL_setAttack := goodIn_ca (goodIn_ca (goodIn_ca (goodIn_ca (goodIn_ca (goodIn_ca (goodIn_r _ [491, 477, 492, 493, 494, 2, 495, 18, 17, 143, 145, 146, 147, 16, 148, 53, 57, 61, 62, 63, 64, 149, 150, 151, 52, 152, 71, 73, 153, 154, 155, 156, 74, 75, 76, 77, 157, 158, 159, 56, 160, 82, 83, 161, 162, 163, 60, 164, 88, 89, 90, 91, 365, 366, 367, 368, 369, 370, 371, 372, 373, 374, 375, 376, 462, 463, 464, 465, 19, 20, 21, 466, 300, 206, 301, 467, 468, 469, 470, 471, 190, 191, 134, 135, 472, 473, 173, 174, 1494, 1495, 1496, 1497, 1498, 1499, 1500, 1501, 1502, 1503, 1504, 1505, 1506, 1507, 1508, 1509, 1511, 1512, 1513, 1514, 1515, 1516, 1517, 1531, 1532, 1533, 1534, 1535, 1536, 1537, 1538, 1539, 1540, 1541, 1542] rfl (by decide +kernel)) (goodIn_sub (fun _ h => List.mem_append_left _ (List.mem_append_left _ (List.mem_append_left _ (List.mem_append_left _ (List.mem_append_left _ (List.mem_append_left _ (List.mem_append_left _ (List.mem_append_right _ h)))))))) (by decide +kernel))) (goodIn_sub (fun _ h => List.mem_append_left _ (List.mem_append_left _ (List.mem_append_left _ (List.mem_append_right _ h)))) (by decide +kernel))) (goodIn_sub (fun _ h => List.mem_append_left _ (List.mem_append_left _ (List.mem_append_left _ (List.mem_append_left _ (List.mem_append_right _ h))))) (by decide +kernel))) (goodIn_sub (fun _ h => List.mem_append_left _ (List.mem_append_left _ (List.mem_append_left _ (List.mem_append_left _ (List.mem_append_left _ (List.mem_append_left _ (List.mem_append_right _ h))))))) (by decide +kernel))) (goodIn_sub (fun _ h => List.mem_append_left _ (List.mem_append_left _ (List.mem_append_right _ h))) (by decide +kernel))) (goodIn_sub (fun _ h => List.mem_append_left _ (List.mem_append_left _ (List.mem_append_left _ (List.mem_append_left _ (List.mem_append_left _ (List.mem_append_right _ h)))))) (by decide +kernel))
set_option maxRecDepth 20000 in
theorem gL_law_L_setAttack : GoodIn wsL_law (va_wsS RL 193 yL_setAttack wsL_setAttack) := goodIn_app (goodIn_of _ (by decide +kernel)) ggL_law_L_setAttack
set_option maxRecDepth 20000 in
theorem ggL_law_L_setLayer : GoodIn wsL_law wsL_setLayer := goodIn_ca (goodIn_ca (goodIn_ca (goodIn_ca (goodIn_ca (goodIn_ca (goodIn_r _ [498, 477, 499, 500, 501, 2, 502, 18, 17, 143, 145, 146, 147, 16, 148, 53, 57, 61, 62, 63, 64, 149, 150, 151, 52, 152, 71, 73, 153, 154, 155, 156, 74, 75, 76, 77, 157, 158, 159, 56, 160, 82, 83, 161, 162, 163, 60, 164, 88, 89, 90, 91, 377, 378, 379, 380, 369, 370, 371, 372, 381, 382, 462, 463, 464, 465, 19, 20, 21, 466, 300, 206, 301, 467, 468, 469, 470, 471, 190, 191, 134, 135, 472, 473, 173, 174, 1494, 1495, 1496, 1497, 1498, 1499, 1500, 1501, 1502, 1503, 1504, 1505, 1506, 1507, 1508, 1509, 1511, 1512, 1513, 1514, 1515, 1516, 1517, 1531, 1532, 1533, 1534, 1535, 1536, 1537, 1538, 1539, 1540, 1541, 1542] rfl (by decide +kernel)) (goodIn_sub (fun _ h => List.mem_append_left _ (List.mem_append_left _ (List.mem_append_left _ (List.mem_append_left _ (List.mem_append_left _ (List.mem_append_left _ (List.mem_append_left _ (List.mem_append_right _ h)))))))) (by decide +kernel))) (goodIn_sub (fun _ h => List.mem_append_left _ (List.mem_append_left _ (List.mem_append_left _ (List.mem_append_right _ h)))) (by decide +kernel))) (goodIn_sub (fun _ h => List.mem_append_left _ (List.mem_append_left _ (List.mem_append_left _ (List.mem_append_left _ (List.mem_append_right _ h))))) (by decide +kernel))) (goodIn_sub (fun _ h => List.mem_append_left _ (List.mem_append_left _ (List.mem_append_left _ (List.mem_append_left _ (List.mem_append_left _ (List.mem_append_left _ (List.mem_append_right _ h))))))) (by decide +kernel))) (goodIn_sub (fun _ h => List.mem_append_left _ (List.mem_append_left _ (List.mem_append_right _ h))) (by decide +kernel))) (goodIn_sub (fun _ h => List.mem_append_left _ (List.mem_append_left _ (List.mem_append_left _ (List.mem_append_left _ (List.mem_append_left _ (List.mem_append_right _ h)))))) (by decide +kernel))
set_option maxRecDepth 20000 in
theorem gL_law_L_setLayer : GoodIn wsL_law (va_wsS RL 196 yL_setLayer wsL_setLayer) := goodIn_app (goodIn_of _ (by decide +kernel)) ggL_law_L_setLayer
set_option maxRecDepth 20000 in
theorem ggL_law_L_setRack : GoodIn wsL_law wsL_setRack := goodIn_ca (goodIn_ca (goodIn_ca (goodIn_ca (goodIn_ca (goodIn_ca (goodIn_r _ [505, 477, 506, 507, 508, 2, 509, 18, 17, 353, 145, 146, 147, 16, 148, 53, 57, 61, 62, 63, 64, 149, 150, 151, 52, 152, 71, 73, 153, 154, 155, 156, 74, 75, 76, 77, 157, 158, 159, 56, 160, 82, 83, 161, 162, 163, 60, 164, 88, 89, 90, 91, 383, 384, 385, 386, 381, 382, 387, 388, 389, 390, 391, 392, 393, 462, 463, 464, 465, 19, 20, 21, 466, 300, 206, 301, 467, 468, 469, 470, 471, 190, 191, 134, 135, 472, 473, 173, 174, 1494, 1495, 1496, 1497, 1498, 1499, 1500, 1501, 1502, 1503, 1504, 1505, 1506, 1507, 1508, 1509, 1511, 1512, 1513, 1514, 1515, 1516, 1517, 1531, 1532, 1533, 1534, 1535, 1536, 1537, 1538, 1539, 1540, 1541, 1542] rfl (by decide +kernel)) (goodIn_sub (fun _ h => List.mem_append_left _ (List.mem_append_left _ (List.mem_append_left _ (List.mem_append_left _ (List.mem_append_left _ (List.mem_append_left _ (List.mem_append_left _ (List.mem_append_right _ h)))))))) (by decide +kernel))) (goodIn_sub (fun _ h => List.mem_append_left _ (List.mem_append_left _ (List.mem_append_left _ (List.mem_append_right _ h)))) (by decide +kernel))) (goodIn_sub (fun _ h => List.mem_append_left _ (List.mem_append_left _ (List.mem_append_left _ (List.mem_append_left _ (List.mem_append_right _ h))))) (by decide +kernel))) (goodIn_sub (fun _ h => List.mem_append_left _ (List.mem_append_left _ (List.mem_append_left _ (List.mem_append_left _ (List.mem_append_left _ (List.mem_append_left _ (List.mem_append_right _ h))))))) (by decide +kernel))) (goodIn_sub (fun _ h => List.mem_append_left _ (List.mem_append_left _ (List.mem_append_right _ h))) (by decide +kernel))) (goodIn_sub (fun _ h => List.mem_append_left _ (List.mem_append_left _ (List.mem_append_left _ (List.mem_append_left _ (List.mem_append_left _ (List.mem_append_right _ h)))))) (by decide +kernel))
set_option maxRecDepth 20000 in
theorem gL_law_L_setRack : GoodIn wsL_law (va_wsS RL 203 yL_setRack wsL_setRack) := goodIn_app (goodIn_of _ (by decide +kernel)) ggL_law_L_setRack
set_option maxRecDepth 20000 in
theorem ggL_law_L_insert : GoodIn wsL_law wsL_insert := goodIn_ca (goodIn_ca (goodIn_ca (goodIn_ca (goodIn_ca (goodIn_ca (goodIn_r _ [512, 477, 513, 514, 515, 2, 516, 18, 17, 145, 146, 147, 16, 148, 53, 57, 61, 62, 63, 64, 149, 150, 151, 52, 152, 71, 73, 153, 154, 155, 156, 74, 75, 76, 77, 157, 158, 159, 56, 160, 82, 83, 161, 162, 163, 60, 164, 88, 89, 90, 91, 394, 395, 396, 397, 398, 399, 400, 401, 381, 382, 402, 403, 404, 405, 406, 407, 387, 388, 389, 390, 391, 392, 393, 408, 409, 410, 411, 412, 300, 206, 301, 462, 463, 464, 465, 19, 20, 21, 466, 467, 468, 469, 470, 471, 190, 191, 134, 135, 472, 473, 173, 174, 1494, 1495, 1496, 1497, 1498, 1499, 1500, 1501, 1502, 1503, 1504, 1505, 1506, 1507, 1508, 1509, 1511, 1512, 1513, 1514, 1515, 1516, 1517, 1531, 1532, 1533, 1534, 1535, 1536, 1537, 1538, 1539, 1540, 1541, 1542] rfl (by decide +kernel)) (goodIn_sub (fun _ h => List.mem_append_left _ (List.mem_append_left _ (List.mem_append_left _ (List.mem_append_left _ (List.mem_append_left _ (List.mem_append_left _ (List.mem_append_left _ (List.mem_append_right _ h)))))))) (by decide +kernel))) (goodIn_sub (fun _ h => List.mem_append_left _ (List.mem_append_left _ (List.mem_append_left _ (List.mem_append_right _ h)))) (by decide +kernel))) (goodIn_sub (fun _ h => List.mem_append_left _ (List.mem_append_left _ (List.mem_append_left _ (List.mem_append_left _ (List.mem_append_right _ h))))) (by decide +kernel))) (goodIn_sub (fun _ h => List.mem_append_left _ (List.mem_append_left _ (List.mem_append_left _ (List.mem_append_left _ (List.mem_append_left _ (List.mem_append_left _ (List.mem_append_right _ h))))))) (by decide +kernel))) (goodIn_sub (fun _ h => List.mem_append_left _ (List.mem_append_left _ (List.mem_append_right _ h))) (by decide +kernel))) (goodIn_sub (fun _ h => List.mem_append_left _ (List.mem_append_left _ (List.mem_append_left _ (List.mem_append_left _ (List.mem_append_left _ (List.mem_append_right _ h)))))) (by decide +kernel))
set_option maxRecDepth 20000 in
theorem gL_law_L_insert : GoodIn wsL_law (va_wsS RL 206 yL_insert wsL_insert) := goodIn_app (goodIn_of _ (by decide +kernel)) ggL_law_L_insert
set_option maxRecDepth 20000 in
theorem ggL_law_L_withdraw : GoodIn wsL_law wsL_withdraw := goodIn_ca (goodIn_ca (goodIn_ca (goodIn_ca (goodIn_ca (goodIn_ca (goodIn_r _ [519, 477, 520, 521, 522, 2, 523, 18, 17, 145, 146, 147, 16, 148, 53, 57, 61, 62, 63, 64, 149, 150, 151, 52, 152, 71, 73, 153, 154, 155, 156, 74, 75, 76, 77, 157, 158, 159, 56, 160, 82, 83, 161, 162, 163, 60, 164, 88, 89, 90, 91, 413, 414, 415, 416, 417, 418, 419, 420, 381, 382, 402, 403, 408, 409, 410, 411, 412, 300, 206, 301, 462, 463, 464, 465, 19, 20, 21, 466, 467, 468, 469, 470, 471, 190, 191, 134, 135, 472, 473, 173, 174, 1494, 1495, 1496, 1497, 1498, 1499, 1500, 1501, 1502, 1503, 1504, 1505, 1506, 1507, 1508, 1509, 1511, 1512, 1513, 1514, 1515, 1516, 1517, 1531, 1532, 1533, 1534, 1535, 1536, 1537, 1538, 1539, 1540, 1541, 1542] rfl (by decide +kernel)) (goodIn_sub (fun _ h => List.mem_append_left _ (List.mem_append_left _ (List.mem_append_left _ (List.mem_append_left _ (List.mem_append_left _ (List.mem_append_left _ (List.mem_append_left _ (List.mem_append_right _ h)))))))) (by decide +kernel))) (goodIn_sub (fun _ h => List.mem_append_left _ (List.mem_append_left _ (List.mem_append_left _ (List.mem_append_right _ h)))) (by decide +kernel))) (goodIn_sub (fun _ h => List.mem_append_left _ (List.mem_append_left _ (List.mem_append_left _ (List.mem_append_left _ (List.mem_append_right _ h))))) (by decide +kernel))) (goodIn_sub (fun _ h => List.mem_append_left _ (List.mem_append_left _ (List.mem_append_left _ (List.mem_append_left _ (List.mem_append_left _ (List.mem_append_left _ (List.mem_append_right _ h))))))) (by decide +kernel))) (goodIn_sub (fun _ h => List.mem_append_left _ (List.mem_append_left _ (List.mem_append_right _ h))) (by decide +kernel))) (goodIn_sub (fun _ h => List.mem_append_left _ (List.mem_append_left _ (List.mem_append_left _ (List.mem_append_left _ (List.mem_append_left _ (List.mem_append_right _ h)))))) (by decide +kernel))
set_option maxRecDepth 20000 in
theorem gL_law_L_withdraw : GoodIn wsL_law (va_wsS RL 209 yL_withdraw wsL_withdraw) := goodIn_app (goodIn_of _ (by decide +kernel)) ggL_law_L_withdraw
set_option maxRecDepth 20000 in
theorem ggL_law_L_excite : GoodIn wsL_law wsL_excite := goodIn_ca (goodIn_ca (goodIn_ca (goodIn_ca (goodIn_ca (goodIn_ca (goodIn_r _ [526, 477, 3, 527, 528, 529, 530, 2, 531, 18, 17, 143, 532, 145, 146, 147, 16, 148, 53, 57, 61, 62, 63, 64, 149, 150, 151, 52, 152, 71, 73, 153, 154, 155, 156, 74, 75, 76, 77, 157, 158, 159, 56, 160, 82, 83, 161, 162, 163, 60, 164, 88, 89, 90, 91, 421, 422, 423, 424, 425, 426, 370, 371, 372, 427, 428, 429, 408, 409, 410, 411, 412, 300, 206, 301, 462, 463, 464, 465, 19, 20, 21, 466, 467, 468, 469, 470, 471, 190, 191, 134, 135, 472, 473, 173, 174, 1494, 1495, 1496, 1497, 1498, 1499, 1500, 1501, 1502, 1503, 1504, 1505, 1506, 1507, 1508, 1509, 1511, 1512, 1513, 1514, 1515, 1516, 1517, 1531, 1532, 1533, 1534, 1535, 1536, 1537, 1538, 1539, 1540, 1541, 1542] rfl (by decide +kernel)) (goodIn_sub (fun _ h => List.mem_append_left _ (List.mem_append_left _ (List.mem_append_left _ (List.mem_append_left _ (List.mem_append_left _ (List.mem_append_left _ (List.mem_append_left _ (List.mem_append_right _ h)))))))) (by decide +kernel))) (goodIn_sub (fun _ h => List.mem_append_left _ (List.mem_append_left _ (List.mem_append_left _ (List.mem_append_right _ h)))) (by decide +kernel))) (goodIn_sub (fun _ h => List.mem_append_left _ (List.mem_append_left _ (List.mem_append_left _ (List.mem_append_left _ (List.mem_append_right _ h))))) (by decide +kernel))) (goodIn_sub (fun _ h => List.mem_append_left _ (List.mem_append_left _ (List.mem_append_left _ (List.mem_append_left _ (List.mem_append_left _ (List.mem_append_left _ (List.mem_append_right _ h))))))) (by decide +kernel))) (goodIn_sub (fun _ h => List.mem_append_left _ (List.mem_append_left _ (List.mem_append_right _ h))) (by decide +kernel))) (goodIn_sub (fun _ h => List.mem_append_left _ (List.mem_append_left _ (List.mem_append_left _ (List.mem_append_left _ (List.mem_append_left _ (List.mem_append_right _ h)))))) (by decide +kernel))
set_option maxRecDepth 20000 in
theorem gL_law_L_excite : GoodIn wsL_law (va_wsS RL 211 yL_excite wsL_excite) := goodIn_app (goodIn_of _ (by decide +kernel)) ggL_law_L_excite
set_option maxRecDepth 20000 in
theorem ggL_law_L_pass : GoodIn wsL_law wsL_pass := goodIn_ca (goodIn_ca (goodIn_ca (goodIn_ca (goodIn_ca (goodIn_ca (goodIn_r _ [535, 185, 536, 537, 538, 2, 539, 18, 17, 145, 146, 147, 16, 148, 53, 57, 61, 62, 63, 64, 149, 150, 151, 52, 152, 71, 73, 153, 154, 155, 156, 74, 75, 76, 77, 157, 158, 159, 56, 160, 82, 83, 161, 162, 163, 60, 164, 88, 89, 90, 91, 434, 435, 436, 437, 438, 439, 440, 441, 442, 66, 425, 443, 444, 445, 446, 447, 448, 449, 450, 451, 452, 373, 374, 453, 388, 389, 390, 391, 392, 393, 427, 428, 429, 454, 455, 456, 457, 458, 459, 460, 461, 404, 405, 406, 407, 408, 409, 410, 411, 412, 300, 206, 301, 462, 463, 464, 465, 19, 20, 21, 466, 467, 468, 469, 470, 471, 190, 191, 134, 135, 472, 473, 173, 174, 1494, 1495, 1496, 1497, 1498, 1499, 1500, 1501, 1502, 1503, 1504, 1505, 1506, 1507, 1508, 1509, 1511, 1512, 1513, 1514, 1515, 1516, 1517, 1531, 1532, 1533, 1534, 1535, 1536, 1537, 1538, 1539, 1540, 1541, 1542] rfl (by decide +kernel)) (goodIn_sub (fun _ h => List.mem_append_left _ (List.mem_append_left _ (List.mem_append_left _ (List.mem_append_left _ (List.mem_append_left _ (List.mem_append_left _ (List.mem_append_left _ (List.mem_append_right _ h)))))))) (by decide +kernel))) (goodIn_sub (fun _ h => List.mem_append_left _ (List.mem_append_left _ (List.mem_append_left _ (List.mem_append_right _ h)))) (by decide +kernel))) (goodIn_sub (fun _ h => List.mem_append_left _ (List.mem_append_left _ (List.mem_append_left _ (List.mem_append_left _ (List.mem_append_right _ h))))) (by decide +kernel))) (goodIn_sub (fun _ h => List.mem_append_left _ (List.mem_append_left _ (List.mem_append_left _ (List.mem_append_left _ (List.mem_append_left _ (List.mem_append_left _ (List.mem_append_right _ h))))))) (by decide +kernel))) (goodIn_sub (fun _ h => List.mem_append_left _ (List.mem_append_left _ (List.mem_append_right _ h))) (by decide +kernel))) (goodIn_sub (fun _ h => List.mem_append_left _ (List.mem_append_left _ (List.mem_append_left _ (List.mem_append_left _ (List.mem_append_left _ (List.mem_append_right _ h)))))) (by decide +kernel))
set_option maxRecDepth 20000 in
theorem gL_law_L_pass : GoodIn wsL_law (va_wsS RL 216 yL_pass wsL_pass) := goodIn_app (goodIn_of _ (by decide +kernel)) ggL_law_L_pass
set_option maxRecDepth 20000 in
theorem ggL_law_L_setLimit : GoodIn wsL_law wsL_setLimit := goodIn_ca (goodIn_ca (goodIn_ca (goodIn_ca (goodIn_ca (goodIn_ca (goodIn_r _ [542, 185, 543, 544, 545, 2, 546, 18, 17, 145, 146, 147, 16, 148, 53, 57, 61, 62, 63, 64, 149, 150, 151, 52, 152, 71, 73, 153, 154, 155, 156, 74, 75, 76, 77, 157, 158, 159, 56, 160, 82, 83, 161, 162, 163, 60, 164, 88, 89, 90, 91, 430, 431, 432, 433, 462, 463, 464, 465, 19, 20, 21, 466, 300, 206, 301, 467, 468, 469, 470, 471, 190, 191, 134, 135, 472, 473, 173, 174, 1494, 1495, 1496, 1497, 1498, 1499, 1500, 1501, 1502, 1503, 1504, 1505, 1506, 1507, 1508, 1509, 1511, 1512, 1513, 1514, 1515, 1516, 1517, 1531, 1532, 1533, 1534, 1535, 1536, 1537, 1538, 1539, 1540, 1541, 1542] rfl (by decide +kernel)) (goodIn_sub (fun _ h => List.mem_append_left _ (List.mem_append_left _ (List.mem_append_left _ (List.mem_append_left _ (List.mem_append_left _ (List.mem_append_left _ (List.mem_append_left _ (List.mem_append_right _ h)))))))) (by decide +kernel))) (goodIn_sub (fun _ h => List.mem_append_left _ (List.mem_append_left _ (List.mem_append_left _ (List.mem_append_right _ h)))) (by decide +kernel))) (goodIn_sub (fun _ h => List.mem_append_left _ (List.mem_append_left _ (List.mem_append_left _ (List.mem_append_left _ (List.mem_append_right _ h))))) (by decide +kernel))) (goodIn_sub (fun _ h => List.mem_append_left _ (List.mem_append_left _ (List.mem_append_left _ (List.mem_append_left _ (List.mem_append_left _ (List.mem_append_left _ (List.mem_append_right _ h))))))) (by decide +kernel))) (goodIn_sub (fun _ h => List.mem_append_left _ (List.mem_append_left _ (List.mem_append_right _ h))) (by decide +kernel))) (goodIn_sub (fun _ h => List.mem_append_left _ (List.mem_append_left _ (List.mem_append_left _ (List.mem_append_left _ (List.mem_append_left _ (List.mem_append_right _ h)))))) (by decide +kernel))
set_option maxRecDepth 20000 in
theorem gL_law_L_setLimit : GoodIn wsL_law (va_wsS RL 214 yL_setLimit wsL_setLimit) := goodIn_app (goodIn_of _ (by decide +kernel)) ggL_law_L_setLimit
set_option maxRecDepth 20000 in
theorem ggL_law_L_shiftsUntilBelow : GoodIn wsL_law wsL_shiftsUntilBelow := goodIn_ca (goodIn_ca (goodIn_ca (goodIn_r _ [549, 185, 550, 551, 552, 2, 553, 190, 191, 173, 174, 24, 17, 143, 145, 146, 147, 16, 148, 53, 57, 61, 62, 63, 64, 149, 150, 151, 52, 152, 71, 73, 153, 154, 155, 156, 74, 75, 76, 77, 157, 158, 159, 56, 160, 82, 83, 161, 162, 163, 60, 164, 88, 89, 90, 91, 554, 455, 456, 457, 555, 439, 440, 441, 442, 66, 425, 443, 444, 445, 446, 447, 448, 449, 450, 451, 452, 373, 374, 453, 388, 389, 390, 391, 392, 393, 427, 428, 429, 454, 458, 459, 460, 461, 404, 405, 406, 407, 408, 409, 410, 411, 412, 300, 206, 301, 1494, 1495, 1496, 1497, 1498, 1499, 1500, 1501, 1502, 1503, 1504, 1505, 1506, 1507, 1508, 1509, 1511, 1512, 1513, 1514, 1515, 1516, 1517, 1531, 1532, 1533, 1534, 1535, 1536, 1537, 1538, 1539, 1540, 1541, 1542] rfl (by decide +kernel)) (goodIn_sub (fun _ h => List.mem_append_left _ (List.mem_append_left _ (List.mem_append_left _ (List.mem_append_left _ (List.mem_append_right _ h))))) (by decide +kernel))) (goodIn_sub (fun _ h => List.mem_append_left _ (List.mem_append_left _ (List.mem_append_left _ (List.mem_append_left _ (List.mem_append_left _ (List.mem_append_right _ h)))))) (by decide +kernel))) (goodIn_sub (fun _ h => List.mem_append_left _ (List.mem_append_left _ (List.mem_append_left _ (List.mem_append_left _ (List.mem_append_left _ (List.mem_append_left _ (List.mem_append_left _ (List.mem_append_right _ h)))))))) (by decide +kernel))
set_option maxRecDepth 20000 in
theorem gL_law_L_shiftsUntilBelow : GoodIn wsL_law (va_wsS RL 263 yL_shiftsUntilBelow wsL_shiftsUntilBelow) := goodIn_app (goodIn_of _ (by decide +kernel)) ggL_law_L_shiftsUntilBelow
set_option maxRecDepth 20000 in
theorem ggL_law_L_claimAtRank : GoodIn wsL_law wsL_claimAtRank := goodIn_ca (goodIn_ca (goodIn_r _ [558, 168, 559, 560, 561, 2, 562, 173, 174, 17, 143, 144, 563, 564, 565, 52, 566, 71, 567, 568, 569, 570, 77, 73, 1494, 1495, 1496, 1497, 1498, 1499, 1500, 1501, 1502, 1503, 1504, 1505, 1506, 1507, 1508, 1509, 1511, 1512, 1513, 1514, 1515, 1516, 1517, 1531, 1532, 1533, 1534, 1535, 1536] rfl (by decide +kernel)) (goodIn_sub (fun _ h => List.mem_append_left _ (List.mem_append_left _ (List.mem_append_left _ (List.mem_append_left _ (List.mem_append_left _ (List.mem_append_right _ h)))))) (by decide +kernel))) (goodIn_sub (fun _ h => List.mem_append_left _ (List.mem_append_left _ (List.mem_append_left _ (List.mem_append_left _ (List.mem_append_left _ (List.mem_append_left _ (List.mem_append_left _ (List.mem_append_right _ h)))))))) (by decide +kernel))
set_option maxRecDepth 20000 in
theorem gL_law_L_claimAtRank : GoodIn wsL_law (va_wsS RL 353 yL_claimAtRank wsL_claimAtRank) := goodIn_app (goodIn_of _ (by decide +kernel)) ggL_law_L_claimAtRank
set_option maxRecDepth 20000 in
theorem ggL_law_L_logKind : GoodIn wsL_law wsL_logKind := goodIn_ca (goodIn_ca (goodIn_r _ [573, 168, 574, 575, 576, 2, 577, 17, 578, 579, 580, 581, 582, 583, 173, 174, 584, 585, 586, 587, 60, 588, 91, 589, 590, 591, 592, 1494, 1495, 1496, 1497, 1498, 1499, 1500, 1501, 1502, 1503, 1504, 1505, 1506, 1507, 1508, 1509, 1511, 1512, 1513, 1514, 1515, 1516, 1517, 1539, 1540, 1541, 1542] rfl (by decide +kernel)) (goodIn_sub (fun _ h => List.mem_append_left _ (List.mem_append_left _ (List.mem_append_left _ (List.mem_append_left _ (List.mem_append_left _ (List.mem_append_left _ (List.mem_append_left _ (List.mem_append_right _ h)))))))) (by decide +kernel))) (goodIn_sub (fun _ h => List.mem_append_left _ (List.mem_append_left _ (List.mem_append_left _ (List.mem_append_left _ (List.mem_append_left _ (List.mem_append_right _ h)))))) (by decide +kernel))
set_option maxRecDepth 20000 in
theorem gL_law_L_logKind : GoodIn wsL_law (va_wsS RL 249 yL_logKind wsL_logKind) := goodIn_app (goodIn_of _ (by decide +kernel)) ggL_law_L_logKind
set_option maxRecDepth 20000 in
theorem ggL_law_L_meanWeight : GoodIn wsL_law wsL_meanWeight := goodIn_ca (goodIn_ca (goodIn_r _ [595, 596, 4, 597, 598, 599, 2, 600, 601, 602, 17, 143, 144, 603, 604, 605, 52, 606, 71, 375, 376, 607, 608, 609, 610, 73, 373, 374, 1494, 1495, 1496, 1497, 1498, 1499, 1500, 1501, 1502, 1503, 1504, 1505, 1506, 1507, 1508, 1509, 1511, 1512, 1513, 1514, 1515, 1516, 1517, 1531, 1532, 1533, 1534, 1535, 1536] rfl (by decide +kernel)) (goodIn_sub (fun _ h => List.mem_append_left _ (List.mem_append_right _ h)) (by decide +kernel))) (goodIn_sub (fun _ h => List.mem_append_left _ (List.mem_append_left _ (List.mem_append_left _ (List.mem_append_left _ (List.mem_append_left _ (List.mem_append_left _ (List.mem_append_left _ (List.mem_append_right _ h)))))))) (by decide +kernel))
set_option maxRecDepth 20000 in
theorem gL_law_L_meanWeight : GoodIn wsL_law (va_wsS RL 308 yL_meanWeight wsL_meanWeight) := goodIn_app (goodIn_of _ (by decide +kernel)) ggL_law_L_meanWeight
set_option maxRecDepth 20000 in
theorem ggL_law_L_append : GoodIn wsL_law wsL_append := goodIn_ca (goodIn_ca (goodIn_ca (goodIn_r _ [613, 185, 614, 615, 616, 2, 617, 190, 191, 134, 135, 28, 192, 618, 1494, 1495, 1496, 1497, 1498, 1499, 1500, 1501, 1502, 1503, 1504, 1505, 1506, 1507, 1508, 1509, 1518, 1519, 1520, 1521, 1522, 1523, 1524] rfl (by decide +kernel)) (goodIn_sub (fun _ h => List.mem_append_left _ (List.mem_append_left _ (List.mem_append_left _ (List.mem_append_left _ (List.mem_append_right _ h))))) (by decide +kernel))) (goodIn_sub (fun _ h => List.mem_append_left _ (List.mem_append_left _ (List.mem_append_left _ (List.mem_append_left _ (List.mem_append_left _ (List.mem_append_left _ (List.mem_append_right _ h))))))) (by decide +kernel))) (goodIn_sub (fun _ h => List.mem_append_left _ (List.mem_append_left _ (List.mem_append_left _ (List.mem_append_left _ (List.mem_append_left _ (List.mem_append_left _ (List.mem_append_left _ (List.mem_append_right _ h)))))))) (by decide +kernel))
set_option maxRecDepth 20000 in
theorem gL_law_L_append : GoodIn wsL_law (va_wsS RL 171 yL_append wsL_append) := goodIn_app (goodIn_of _ (by decide +kernel)) ggL_law_L_append
set_option maxRecDepth 20000 in
theorem ggL_law_X12_positions : GoodIn wsL_law wsX12_positions := goodIn_ca (goodIn_r _ [622, 17, 143, 623, 624, 625, 626, 627, 604, 605, 52, 606, 71, 375, 2, 376, 628, 629, 630, 631, 632, 633, 634, 75, 373, 374, 635, 636, 637, 638, 76, 1494, 1495, 1496, 1497, 1498, 1499, 1500, 1501, 1502, 1503, 1504, 1505, 1506, 1507, 1508, 1509, 1511, 1512, 1513, 1514, 1515, 1516, 1517, 1531, 1532, 1533, 1534, 1535, 1536] rfl (by decide +kernel)) (goodIn_sub (fun _ h => List.mem_append_left _ (List.mem_append_left _ (List.mem_append_left _ (List.mem_append_left _ (List.mem_append_left _ (List.mem_append_left _ (List.mem_append_left _ (List.mem_append_right _ h)))))))) (by decide +kernel))
set_option maxRecDepth 20000 in
theorem gL_law_X12_positions : GoodIn wsL_law (wsV RL 314 RX12 yX12_positions wsX12_positions) := goodIn_app (goodIn_of _ (by decide +kernel)) ggL_law_X12_positions
set_option maxRecDepth 20000 in
theorem ggL_law_X12_circles : GoodIn wsL_law wsX12_circles := goodIn_ca (goodIn_r _ [642, 17, 143, 643, 644, 40, 645, 646, 373, 2, 374, 647, 648, 649, 650, 651, 652, 375, 376, 653, 632, 633, 52, 634, 71, 75, 654, 636, 637, 638, 76, 1494, 1495, 1496, 1497, 1498, 1499, 1500, 1501, 1502, 1503, 1504, 1505, 1506, 1507, 1508, 1509, 1511, 1512, 1513, 1514, 1515, 1516, 1517, 1531, 1532, 1533, 1534, 1535, 1536] rfl (by decide +kernel)) (goodIn_sub (fun _ h => List.mem_append_left _ (List.mem_append_left _ (List.mem_append_left _ (List.mem_append_left _ (List.mem_append_left _ (List.mem_append_left _ (List.mem_append_left _ (List.mem_append_right _ h)))))))) (by decide +kernel))
set_option maxRecDepth 20000 in
theorem gL_law_X12_circles : GoodIn wsL_law (wsV RL 337 RX12 yX12_circles wsX12_circles) := goodIn_app (goodIn_of _ (by decide +kernel)) ggL_law_X12_circles
set_option maxRecDepth 20000 in
theorem ggL_law_X12_heaviestBits : GoodIn wsL_law wsX12_heaviestBits := goodIn_ca (goodIn_r _ [658, 17, 143, 659, 660, 625, 661, 627, 604, 605, 52, 606, 71, 375, 2, 376, 628, 629, 630, 631, 632, 633, 634, 75, 373, 374, 635, 636, 637, 638, 76, 662, 663, 664, 665, 608, 609, 610, 73, 1494, 1495, 1496, 1497, 1498, 1499, 1500, 1501, 1502, 1503, 1504, 1505, 1506, 1507, 1508, 1509, 1511, 1512, 1513, 1514, 1515, 1516, 1517, 1531, 1532, 1533, 1534, 1535, 1536] rfl (by decide +kernel)) (goodIn_sub (fun _ h => List.mem_append_left _ (List.mem_append_left _ (List.mem_append_left _ (List.mem_append_left _ (List.mem_append_left _ (List.mem_append_left _ (List.mem_append_left _ (List.mem_append_right _ h)))))))) (by decide +kernel))
set_option maxRecDepth 20000 in
theorem gL_law_X12_heaviestBits : GoodIn wsL_law (wsV RL 311 RX12 yX12_heaviestBits wsX12_heaviestBits) := goodIn_app (goodIn_of _ (by decide +kernel)) ggL_law_X12_heaviestBits
set_option maxRecDepth 20000 in
theorem ggL_law_X12_power : GoodIn wsL_law wsX12_power := goodIn_ca (goodIn_r _ [669, 17, 143, 554, 455, 456, 52, 457, 71, 77, 1494, 1495, 1496, 1497, 1498, 1499, 1500, 1501, 1502, 1503, 1504, 1505, 1506, 1507, 1508, 1509, 1511, 1512, 1513, 1514, 1515, 1516, 1517, 1531, 1532, 1533, 1534, 1535, 1536] rfl (by decide +kernel)) (goodIn_sub (fun _ h => List.mem_append_left _ (List.mem_append_left _ (List.mem_append_left _ (List.mem_append_left _ (List.mem_append_left _ (List.mem_append_left _ (List.mem_append_left _ (List.mem_append_right _ h)))))))) (by decide +kernel))
set_option maxRecDepth 20000 in
theorem gL_law_X12_power : GoodIn wsL_law (wsV RL 253 RX12 yX12_power wsX12_power) := goodIn_app (goodIn_of _ (by decide +kernel)) ggL_law_X12_power
set_option maxRecDepth 20000 in
theorem ggL_law_X12_isConsistent : GoodIn wsL_law wsX12_isConsistent := goodIn_ca (goodIn_ca (goodIn_ca (goodIn_r _ [673, 17, 143, 674, 675, 676, 2, 677, 678, 679, 36, 680, 681, 682, 683, 684, 685, 686, 632, 633, 52, 634, 71, 75, 373, 374, 375, 376, 687, 688, 689, 690, 37, 691, 692, 693, 694, 109, 695, 696, 697, 698, 699, 700, 701, 702, 703, 704, 705, 706, 707, 708, 709, 710, 711, 620, 621, 622, 623, 624, 625, 626, 627, 604, 605, 606, 628, 629, 630, 631, 635, 636, 637, 638, 76, 712, 713, 714, 715, 716, 717, 718, 719, 720, 721, 722, 723, 724, 725, 640, 641, 642, 643, 644, 40, 645, 646, 647, 648, 649, 650, 651, 652, 653, 654, 726, 727, 728, 729, 41, 730, 731, 732, 733, 734, 735, 736, 737, 114, 738, 739, 740, 741, 742, 743, 744, 745, 746, 144, 747, 748, 749, 750, 45, 751, 752, 753, 754, 190, 191, 755, 756, 757, 758, 470, 471, 759, 370, 371, 372, 760, 761, 762, 44, 763, 764, 123, 765, 766, 767, 768, 121, 769, 770, 771, 772, 773, 774, 775, 776, 777, 124, 778, 779, 780, 781, 782, 783, 784, 785, 786, 787, 788, 789, 790, 122, 791, 792, 793, 794, 795, 796, 797, 798, 799, 800, 801, 802, 803, 804, 805, 667, 668, 669, 554, 455, 456, 457, 77, 1494, 1495, 1496, 1497, 1498, 1499, 1500, 1501, 1502, 1503, 1504, 1505, 1506, 1507, 1508, 1509, 1511, 1512, 1513, 1514, 1515, 1516, 1517, 1531, 1532, 1533, 1534, 1535, 1536, 1525, 1526, 1527, 1528, 1529, 1530] rfl (by decide +kernel)) (goodIn_sub (fun _ h => List.mem_append_left _ (List.mem_append_left _ (List.mem_append_left _ (List.mem_append_left _ (List.mem_append_left _ (List.mem_append_left _ (List.mem_append_left _ (List.mem_append_right _ h)))))))) (by decide +kernel))) (goodIn_sub (fun _ h => List.mem_append_left _ (List.mem_append_left _ (List.mem_append_left _ (List.mem_append_left _ (List.mem_append_right _ h))))) (by decide +kernel))) (goodIn_sub (fun _ h => List.mem_append_left _ (List.mem_append_left _ (List.mem_append_left _ (List.mem_append_right _ h)))) (by decide +kernel))
set_option maxRecDepth 20000 in
theorem gL_law_X12_isConsistent : GoodIn wsL_law (wsV RL 356 RX12 yX12_isConsistent wsX12_isConsistent) := goodIn_app (goodIn_of _ (by decide +kernel)) ggL_law_X12_isConsistent
set_option maxRecDepth 20000 in
theorem ggL_law_L_stock : GoodIn wsL_law wsL_stock := goodIn_ca (goodIn_ca (goodIn_ca (goodIn_ca (goodIn_ca (goodIn_ca (goodIn_r _ [808, 482, 483, 127, 484, 185, 485, 486, 487, 2, 488, 18, 17, 143, 145, 146, 147, 16, 148, 53, 57, 61, 62, 63, 64, 149, 150, 151, 52, 152, 71, 73, 153, 154, 155, 156, 74, 75, 76, 77, 157, 158, 159, 56, 160, 82, 83, 161, 162, 163, 60, 164, 88, 89, 90, 91, 361, 362, 363, 364, 462, 463, 464, 465, 19, 20, 21, 466, 300, 206, 301, 467, 468, 469, 470, 471, 190, 191, 134, 135, 472, 473, 173, 174, 489, 490, 491, 477, 492, 493, 494, 495, 365, 366, 367, 368, 369, 370, 371, 372, 373, 374, 375, 376, 496, 497, 498, 499, 500, 501, 502, 377, 378, 379, 380, 381, 382, 510, 511, 512, 513, 514, 515, 516, 394, 395, 396, 397, 398, 399, 400, 401, 402, 403, 404, 405, 406, 407, 387, 388, 389, 390, 391, 392, 393, 408, 409, 410, 411, 412, 503, 504, 505, 506, 507, 508, 509, 353, 383, 384, 385, 386, 524, 525, 526, 3, 527, 528, 529, 530, 531, 532, 421, 422, 423, 424, 425, 426, 427, 428, 429, 540, 541, 542, 543, 544, 545, 546, 430, 431, 432, 433, 533, 534, 535, 536, 537, 538, 539, 434, 435, 436, 437, 438, 439, 440, 441, 442, 66, 443, 444, 445, 446, 447, 448, 449, 450, 451, 452, 453, 454, 455, 456, 457, 458, 459, 460, 461, 517, 518, 519, 520, 521, 522, 523, 413, 414, 415, 416, 417, 418, 419, 420, 1494, 1495, 1496, 1497, 1498, 1499, 1500, 1501, 1502, 1503, 1504, 1505, 1506, 1507, 1508, 1509, 1511, 1512, 1513, 1514, 1515, 1516, 1517, 1531, 1532, 1533, 1534, 1535, 1536, 1537, 1538, 1539, 1540, 1541, 1542] rfl (by decide +kernel)) (goodIn_sub (fun _ h => List.mem_append_left _ (List.mem_append_left _ (List.mem_append_left _ (List.mem_append_left _ (List.mem_append_left _ (List.mem_append_left _ (List.mem_append_left _ (List.mem_append_right _ h)))))))) (by decide +kernel))) (goodIn_sub (fun _ h => List.mem_append_left _ (List.mem_append_left _ (List.mem_append_left _ (List.mem_append_right _ h)))) (by decide +kernel))) (goodIn_sub (fun _ h => List.mem_append_left _ (List.mem_append_left _ (List.mem_append_left _ (List.mem_append_left _ (List.mem_append_right _ h))))) (by decide +kernel))) (goodIn_sub (fun _ h => List.mem_append_left _ (List.mem_append_left _ (List.mem_append_left _ (List.mem_append_left _ (List.mem_append_left _ (List.mem_append_left _ (List.mem_append_right _ h))))))) (by decide +kernel))) (goodIn_sub (fun _ h => List.mem_append_left _ (List.mem_append_left _ (List.mem_append_right _ h))) (by decide +kernel))) (goodIn_sub (fun _ h => List.mem_append_left _ (List.mem_append_left _ (List.mem_append_left _ (List.mem_append_left _ (List.mem_append_left _ (List.mem_append_right _ h)))))) (by decide +kernel))
set_option maxRecDepth 20000 in
theorem gL_law_L_stock : GoodIn wsL_law (va_wsS RL 382 yL_stock wsL_stock) := goodIn_app (goodIn_of _ (by decide +kernel)) ggL_law_L_stock
set_option maxRecDepth 20000 in
theorem ggL_law_L_cell : GoodIn wsL_law wsL_cell := goodIn_ca (goodIn_ca (goodIn_r _ [811] rfl (by decide +kernel)) (goodIn_sub (fun _ h => List.mem_append_right _ h) (by decide +kernel))) (goodIn_sub (fun _ h => List.mem_append_left _ (List.mem_append_left _ (List.mem_append_left _ (List.mem_append_left _ (List.mem_append_left _ (List.mem_append_left _ (List.mem_append_left _ (List.mem_append_right _ h)))))))) (by decide +kernel))
set_option maxRecDepth 20000 in
theorem gL_law_L_cell : GoodIn wsL_law (va_wsS RL 385 yL_cell wsL_cell) := goodIn_app (goodIn_of _ (by decide +kernel)) ggL_law_L_cell
set_option maxRecDepth 20000 in
theorem ggL_law_X13_init : GoodIn wsL_law wsX13_init := goodIn_r _ [814, 815, 12, 13, 816, 1510] rfl (by decide +kernel)
set_option maxRecDepth 20000 in
theorem gL_law_X13_init : GoodIn wsL_law (wsX13_init) := ggL_law_X13_init
set_option maxRecDepth 20000 in
theorem ggL_law_L_told : GoodIn wsL_law wsL_told := goodIn_ca (goodIn_ca (goodIn_ca (goodIn_ca (goodIn_r _ [819, 820, 821, 822, 823, 824, 825, 2, 826, 33, 17, 353, 827, 828, 829, 830, 831, 832, 32, 833, 834, 127, 835, 836, 837, 838, 839, 840, 841, 842, 843, 12, 13, 844, 845, 846, 847, 848, 849, 247, 850, 851, 852, 853, 854, 474, 475, 476, 477, 478, 479, 480, 481, 470, 471, 855, 856, 857, 858, 859, 860, 861, 862, 863, 864, 865, 866, 867, 868, 869, 870, 871, 872, 873, 874, 875, 876, 877, 878, 879, 880, 205, 206, 207, 881, 882, 883, 884, 885, 886, 887, 888, 889, 890, 891, 892, 893, 894, 895, 300, 301, 896, 154, 155, 156, 897, 898, 899, 900, 901, 902, 903, 235, 904, 905, 906, 907, 908, 909, 910, 911, 912, 913, 914, 915, 916, 917, 918, 252, 253, 254, 919, 920, 216, 921, 240, 922, 923, 243, 924, 925, 926, 927, 259, 260, 261, 928, 929, 930, 249, 250, 251, 255, 238, 239, 241, 242, 244, 931, 932, 933, 934, 935, 936, 937, 938, 939, 940, 941, 942, 943, 224, 218, 223, 944, 945, 946, 947, 948, 949, 950, 951, 952, 953, 954, 955, 956, 957, 958, 959, 960, 961, 962, 963, 964, 965, 966, 967, 968, 969, 970, 971, 972, 973, 974, 975, 256, 257, 258, 976, 977, 978, 979, 980, 981, 982, 983, 984, 985, 986, 987, 214, 215, 217, 219, 220, 221, 222, 988, 989, 990, 991, 992, 993, 994, 995, 996, 997, 998, 999, 1000, 1001, 1002, 1003, 1004, 1005, 1006, 1007, 1008, 1009, 317, 318, 319, 320, 321, 322, 323, 324, 325, 1010, 1011, 1012, 1013, 1014, 1015, 1016, 1017, 1018, 1019, 1020, 1021, 1022, 1023, 1024, 1025, 1026, 1027, 1028, 1029, 143, 144, 1030, 1031, 1032, 1033, 1034, 1035, 1036, 1037, 755, 756, 757, 758, 759, 370, 371, 52, 372, 71, 1038, 1039, 1040, 1041, 1042, 1043, 1044, 674, 675, 676, 677, 678, 679, 36, 680, 681, 682, 683, 684, 685, 686, 632, 633, 634, 75, 373, 374, 375, 376, 1045, 1046, 1047, 1048, 1049, 1050, 1051, 1052, 1053, 1054, 1055, 1056, 1057, 1058, 1059, 1060, 1061, 1062, 1063, 1064, 1065, 1066, 1067, 1068, 1069, 698, 1070, 1071, 1072, 1073, 1074, 1075, 1076, 1077, 1078, 1079, 1080, 1081, 1082, 1083, 1084, 1085, 1086, 1087, 1088, 1089, 1090, 1091, 1092, 1093, 1094, 3, 1095, 1096, 1097, 1098, 532, 1099, 1100, 1101, 1102, 1103, 1104, 1105, 1106, 1107, 1108, 1109, 1110, 1111, 1112, 1113, 1114, 1115, 1116, 1117, 1118, 1119, 1120, 1121, 1122, 31, 1123, 1124, 1125, 1126, 1127, 1128, 1129, 1130, 1131, 1132, 1133, 1134, 1135, 1136, 1137, 1138, 1139, 1140, 1141, 1142, 1143, 1144, 1145, 1146, 1147, 1148, 1149, 1150, 1151, 1152, 1153, 1154, 1155, 1156, 1157, 1158, 1159, 1160, 1161, 1162, 1163, 1164, 1165, 1166, 1167, 1168, 1169, 1170, 1171, 1172, 1173, 591, 1174, 1175, 1176, 1177, 1178, 1179, 1180, 1181, 1182, 1183, 1184, 1185, 1186, 1187, 1188, 1189, 1190, 1191, 1192, 1193, 1194, 1195, 1196, 1197, 1198, 1199, 1200, 1201, 1202, 1203, 1204, 1205, 1206, 1207, 1208, 1209, 1210, 1211, 1212, 1213, 1214, 1215, 1216, 1217, 1218, 1219, 1220, 1221, 1222, 1223, 1224, 1225, 1226, 1227, 1228, 1229, 1230, 1231, 1232, 1233, 1234, 1235, 1236, 1237, 1238, 1239, 1240, 1241, 1242, 1243, 1244, 1245, 1246, 1247, 1248, 1249, 1250, 1251, 1252, 1253, 1254, 1255, 1256, 1257, 1258, 1259, 1260, 1261, 1262, 1263, 1264, 1265, 1266, 1267, 1268, 1269, 1270, 1271, 1272, 1273, 1274, 1275, 1276, 1277, 1278, 1279, 1280, 1281, 1282, 1283, 1284, 1285, 1286, 1287, 1288, 1289, 1290, 1291, 1292, 1293, 1294, 1295, 1296, 1297, 1298, 1299, 1300, 1301, 1302, 230, 231, 232, 1303, 1304, 1305, 1306, 1307, 226, 227, 228, 229, 233, 234, 236, 237, 245, 246, 248, 1308, 1309, 1310, 1311, 1312, 1313, 1314, 1315, 1316, 1317, 1318, 1319, 1320, 1321, 1322, 1323, 1324, 1325, 1326, 1327, 1328, 1329, 1330, 1331, 1332, 578, 584, 571, 572, 573, 168, 574, 575, 576, 577, 579, 580, 581, 582, 583, 173, 174, 585, 586, 587, 60, 588, 91, 589, 590, 592, 1333, 1334, 1335, 1336, 1337, 1338, 1339, 1340, 666, 667, 668, 669, 554, 455, 456, 457, 77, 1341, 1342, 1343, 1344, 1345, 1346, 1347, 1348, 1349, 1350, 547, 548, 549, 185, 550, 551, 552, 553, 190, 191, 24, 145, 146, 147, 16, 148, 53, 57, 61, 62, 63, 64, 149, 150, 151, 152, 73, 153, 74, 76, 157, 158, 159, 56, 160, 82, 83, 161, 162, 163, 164, 88, 89, 90, 555, 439, 440, 441, 442, 66, 425, 443, 444, 445, 446, 447, 448, 449, 450, 451, 452, 453, 388, 389, 390, 391, 392, 393, 427, 428, 429, 454, 458, 459, 460, 461, 404, 405, 406, 407, 408, 409, 410, 411, 412, 1547, 1548, 1549, 1550, 1494, 1495, 1496, 1497, 1498, 1499, 1500, 1501, 1502, 1503, 1504, 1505, 1506, 1507, 1508, 1509, 1511, 1512, 1513, 1514, 1515, 1516, 1517, 1537, 1538, 1543, 1544, 1545, 1546, 1531, 1532, 1533, 1534, 1535, 1536, 1551, 1552, 1539, 1540, 1541, 1542] rfl (by decide +kernel)) (goodIn_sub (fun _ h => List.mem_append_left _ (List.mem_append_left _ (List.mem_append_left _ (List.mem_append_left _ (List.mem_append_left _ (List.mem_append_left _ (List.mem_append_left _ (List.mem_append_right _ h)))))))) (by decide +kernel))) (goodIn_sub (fun _ h => List.mem_append_left _ (List.mem_append_left _ (List.mem_append_left _ (List.mem_append_right _ h)))) (by decide +kernel))) (goodIn_sub (fun _ h => List.mem_append_left _ (List.mem_append_left _ (List.mem_append_left _ (List.mem_append_left _ (List.mem_append_left _ (List.mem_append_right _ h)))))) (by decide +kernel))) (goodIn_sub (fun _ h => List.mem_append_left _ (List.mem_append_left _ (List.mem_append_left _ (List.mem_append_left _ (List.mem_append_right _ h))))) (by decide +kernel))
set_option maxRecDepth 20000 in
theorem gL_law_L_told : GoodIn wsL_law (va_wsS RL 392 yL_told wsL_told) := goodIn_app (goodIn_of _ (by decide +kernel)) ggL_law_L_told
set_option maxRecDepth 20000 in
theorem ggL_law_L_acts : GoodIn wsL_law wsL_acts := goodIn_ca (goodIn_ca (goodIn_ca (goodIn_ca (goodIn_ca (goodIn_ca (goodIn_ca (goodIn_r _ [1353, 1026, 1027, 1028, 2, 1029, 17, 143, 144, 1354, 1355, 127, 1356, 1357, 205, 206, 207, 1358, 1359, 1360, 7, 1361, 816, 1362, 482, 483, 484, 185, 485, 486, 487, 488, 18, 145, 146, 147, 16, 148, 53, 57, 61, 62, 63, 64, 149, 150, 151, 52, 152, 71, 73, 153, 154, 155, 156, 74, 75, 76, 77, 157, 158, 159, 56, 160, 82, 83, 161, 162, 163, 60, 164, 88, 89, 90, 91, 361, 362, 363, 364, 462, 463, 464, 465, 19, 20, 21, 466, 300, 301, 467, 468, 469, 470, 471, 190, 191, 134, 135, 472, 473, 173, 174, 489, 490, 491, 477, 492, 493, 494, 495, 365, 366, 367, 368, 369, 370, 371, 372, 373, 374, 375, 376, 496, 497, 498, 499, 500, 501, 502, 377, 378, 379, 380, 381, 382, 1363, 1364, 1365, 503, 504, 505, 506, 507, 508, 509, 353, 383, 384, 385, 386, 387, 388, 389, 390, 391, 392, 393, 510, 511, 512, 513, 514, 515, 516, 394, 395, 396, 397, 398, 399, 400, 401, 402, 403, 404, 405, 406, 407, 408, 409, 410, 411, 412, 517, 518, 519, 520, 521, 522, 523, 413, 414, 415, 416, 417, 418, 419, 420, 524, 525, 526, 3, 527, 528, 529, 530, 531, 532, 421, 422, 423, 424, 425, 426, 427, 428, 429, 540, 541, 542, 543, 544, 545, 546, 430, 431, 432, 433, 533, 534, 535, 536, 537, 538, 539, 434, 435, 436, 437, 438, 439, 440, 441, 442, 66, 443, 444, 445, 446, 447, 448, 449, 450, 451, 452, 453, 454, 455, 456, 457, 458, 459, 460, 461, 1494, 1495, 1496, 1497, 1498, 1499, 1500, 1501, 1502, 1503, 1504, 1505, 1506, 1507, 1508, 1509, 1511, 1512, 1513, 1514, 1515, 1516, 1517, 1531, 1532, 1533, 1534, 1535, 1536, 1510, 1537, 1538, 1539, 1540, 1541, 1542] rfl (by decide +kernel)) (goodIn_sub (fun _ h => List.mem_append_right _ h) (by decide +kernel))) (goodIn_sub (fun _ h => List.mem_append_left _ (List.mem_append_left _ (List.mem_append_left _ (List.mem_append_left _ (List.mem_append_left _ (List.mem_append_left _ (List.mem_append_left _ (List.mem_append_right _ h)))))))) (by decide +kernel))) (goodIn_sub (fun _ h => List.mem_append_left _ (List.mem_append_left _ (List.mem_append_left _ (List.mem_append_right _ h)))) (by decide +kernel))) (goodIn_sub (fun _ h => List.mem_append_left _ (List.mem_append_left _ (List.mem_append_left _ (List.mem_append_left _ (List.mem_append_right _ h))))) (by decide +kernel))) (goodIn_sub (fun _ h => List.mem_append_left _ (List.mem_append_left _ (List.mem_append_left _ (List.mem_append_left _ (List.mem_append_left _ (List.mem_append_left _ (List.mem_append_right _ h))))))) (by decide +kernel))) (goodIn_sub (fun _ h => List.mem_append_left _ (List.mem_append_left _ (List.mem_append_right _ h))) (by decide +kernel))) (goodIn_sub (fun _ h => List.mem_append_left _ (List.mem_append_left _ (List.mem_append_left _ (List.mem_append_left _ (List.mem_append_left _ (List.mem_append_right _ h)))))) (by decide +kernel))
set_option maxRecDepth 20000 in
theorem gL_law_L_acts : GoodIn wsL_law (va_wsS RL 396 yL_acts wsL_acts) := goodIn_app (goodIn_of _ (by decide +kernel)) ggL_law_L_acts
set_option maxRecDepth 20000 in
theorem ggL_law_J0_equals_9ea2d : GoodIn wsL_law wsJ0_equals_9ea2d := goodIn_r _ [1369, 1370, 223, 224, 218, 1371, 1372, 235, 1373, 1543, 1544, 1545, 1546] rfl (by decide +kernel)
set_option maxRecDepth 20000 in
theorem gL_law_J0_equals_9ea2d : GoodIn wsL_law (wsV RL 304 RJ0 yJ0_equals_9ea2d wsJ0_equals_9ea2d) := goodIn_app (goodIn_of _ (by decide +kernel)) ggL_law_J0_equals_9ea2d
set_option maxRecDepth 20000 in
theorem ggL_law_X13_next : GoodIn wsL_law wsX13_next := goodIn_ca (goodIn_r _ [1361, 816, 1362, 1510] rfl (by decide +kernel)) (goodIn_sub (fun _ h => List.mem_append_right _ h) (by decide +kernel))
set_option maxRecDepth 20000 in
theorem gL_law_X13_next : GoodIn wsL_law (wsV RL 174 RX13 yX13_next wsX13_next) := goodIn_app (goodIn_of _ (by decide +kernel)) ggL_law_X13_next
set_option maxRecDepth 20000 in
theorem ggL_law_L_claims : GoodIn wsL_law wsL_claims := goodIn_ca (goodIn_ca (goodIn_ca (goodIn_r _ [1376, 820, 821, 822, 4, 1026, 1027, 1028, 2, 1029, 17, 143, 144, 1377, 675, 676, 677, 678, 679, 36, 680, 681, 682, 683, 684, 685, 686, 632, 633, 52, 634, 71, 75, 373, 374, 375, 376, 1378, 1379, 127, 1380, 1381, 1382, 1383, 1384, 1385, 1386, 477, 1387, 1388, 1389, 1390, 1037, 755, 756, 757, 758, 470, 471, 759, 370, 371, 372, 1045, 1391, 688, 689, 690, 37, 691, 692, 693, 694, 109, 695, 696, 697, 698, 699, 700, 701, 702, 703, 704, 705, 706, 707, 708, 709, 710, 1392, 1393, 1394, 1395, 1396, 1397, 1398, 1399, 1400, 1401, 603, 604, 605, 606, 674, 1046, 1047, 1048, 1049, 1050, 1402, 1403, 1052, 1053, 1054, 1055, 1056, 1057, 1058, 1059, 836, 837, 838, 839, 840, 841, 842, 843, 12, 13, 844, 845, 846, 847, 848, 849, 247, 850, 851, 852, 853, 854, 1060, 1061, 1062, 1063, 1064, 1065, 861, 1066, 1067, 864, 1068, 1069, 1070, 865, 866, 867, 868, 869, 870, 871, 872, 873, 874, 875, 876, 877, 878, 879, 880, 205, 206, 207, 881, 882, 883, 884, 885, 886, 887, 888, 889, 890, 891, 892, 893, 894, 895, 300, 301, 896, 154, 155, 156, 897, 898, 899, 900, 901, 1071, 1072, 1073, 1074, 1075, 1076, 1077, 1078, 259, 317, 318, 319, 252, 253, 254, 320, 321, 216, 322, 240, 323, 324, 243, 325, 1079, 1080, 1081, 1082, 1083, 925, 926, 927, 260, 261, 1051, 996, 997, 998, 999, 990, 1000, 1001, 1002, 1003, 1004, 1005, 1006, 1007, 1008, 1009, 987, 214, 215, 217, 218, 219, 220, 221, 222, 223, 224, 1010, 1011, 1012, 1013, 1014, 1015, 1016, 1017, 1018, 1019, 988, 905, 906, 907, 908, 909, 910, 911, 235, 912, 913, 914, 915, 916, 917, 918, 919, 920, 921, 922, 923, 924, 1020, 1021, 1022, 1023, 1024, 1025, 931, 932, 933, 934, 935, 936, 937, 938, 939, 940, 941, 942, 943, 944, 945, 946, 947, 948, 949, 950, 951, 952, 953, 954, 955, 956, 957, 958, 959, 960, 961, 962, 963, 964, 965, 966, 967, 968, 969, 970, 971, 972, 973, 974, 975, 256, 257, 258, 976, 977, 978, 979, 980, 981, 982, 983, 984, 985, 986, 989, 991, 992, 993, 994, 995, 1404, 1405, 1406, 1407, 1408, 1409, 1410, 1030, 1031, 1032, 1033, 1034, 1035, 1036, 33, 1038, 1039, 1040, 829, 830, 831, 832, 32, 1041, 1042, 1043, 1044, 833, 834, 835, 474, 475, 476, 478, 479, 480, 481, 855, 856, 857, 858, 859, 860, 862, 863, 902, 903, 904, 928, 929, 930, 249, 250, 251, 255, 238, 239, 241, 242, 244, 1366, 1367, 1368, 1369, 1370, 1371, 1372, 1373, 593, 594, 595, 596, 597, 598, 599, 600, 601, 602, 607, 608, 609, 610, 73, 1547, 1548, 1549, 1550, 1494, 1495, 1496, 1497, 1498, 1499, 1500, 1501, 1502, 1503, 1504, 1505, 1506, 1507, 1508, 1509, 1511, 1512, 1513, 1514, 1515, 1516, 1517, 1531, 1532, 1533, 1534, 1535, 1536, 1525, 1543, 1544, 1545, 1546] rfl (by decide +kernel)) (goodIn_sub (fun _ h => List.mem_append_left _ (List.mem_append_left _ (List.mem_append_left _ (List.mem_append_left _ (List.mem_append_left _ (List.mem_append_left _ (List.mem_append_left _ (List.mem_append_right _ h)))))))) (by decide +kernel))) (goodIn_sub (fun _ h => List.mem_append_left _ (List.mem_append_left _ (List.mem_append_left _ (List.mem_append_right _ h)))) (by decide +kernel))) (goodIn_sub (fun _ h => List.mem_append_left _ (List.mem_append_right _ h)) (by decide +kernel))
set_option maxRecDepth 20000 in
theorem gL_law_L_claims : GoodIn wsL_law (va_wsS RL 400 yL_claims wsL_claims) := goodIn_app (goodIn_of _ (by decide +kernel)) ggL_law_L_claims
set_option maxRecDepth 20000 in
theorem ggL_law_L_racks : GoodIn wsL_law wsL_racks := goodIn_ca (goodIn_ca (goodIn_ca (goodIn_r _ [1413, 1414, 823, 824, 825, 2, 826, 33, 17, 353, 827, 828, 829, 830, 831, 832, 32, 833, 834, 127, 835, 820, 821, 822, 836, 837, 838, 839, 840, 841, 842, 843, 12, 13, 844, 845, 846, 847, 848, 849, 247, 850, 851, 852, 853, 854, 474, 475, 476, 477, 478, 479, 480, 481, 470, 471, 855, 856, 857, 858, 859, 860, 861, 862, 863, 864, 865, 866, 867, 868, 869, 870, 871, 872, 873, 874, 875, 876, 877, 878, 879, 880, 205, 206, 207, 881, 882, 883, 884, 885, 886, 887, 888, 889, 890, 891, 892, 893, 894, 895, 300, 301, 896, 154, 155, 156, 897, 898, 899, 900, 901, 902, 903, 235, 904, 905, 906, 907, 908, 909, 910, 911, 912, 913, 914, 915, 916, 917, 918, 252, 253, 254, 919, 920, 216, 921, 240, 922, 923, 243, 924, 925, 926, 927, 259, 260, 261, 928, 929, 930, 249, 250, 251, 255, 238, 239, 241, 242, 244, 931, 932, 933, 934, 935, 936, 937, 938, 939, 940, 941, 942, 943, 224, 218, 223, 944, 945, 946, 947, 948, 949, 950, 951, 952, 953, 954, 955, 956, 957, 958, 959, 960, 961, 962, 963, 964, 965, 966, 967, 968, 969, 970, 971, 972, 973, 974, 975, 256, 257, 258, 976, 977, 978, 979, 1415, 226, 227, 228, 229, 230, 231, 232, 233, 234, 236, 237, 245, 246, 248, 1416, 1417, 1418, 1419, 1420, 1421, 1422, 1423, 381, 382, 1424, 402, 403, 1425, 1426, 1427, 1428, 1429, 1430, 1431, 1432, 388, 389, 56, 390, 83, 391, 392, 393, 1329, 1330, 1331, 1332, 578, 584, 1333, 1334, 1335, 168, 1336, 1337, 1338, 1339, 1340, 580, 581, 582, 583, 173, 174, 585, 586, 587, 60, 588, 91, 589, 590, 591, 592, 1341, 1342, 1343, 1344, 1345, 571, 572, 573, 574, 575, 576, 577, 579, 1433, 287, 288, 289, 290, 291, 292, 293, 294, 214, 215, 217, 219, 220, 221, 222, 295, 296, 297, 298, 299, 302, 303, 304, 305, 306, 307, 308, 309, 310, 311, 312, 313, 314, 315, 316, 317, 318, 319, 320, 321, 322, 323, 324, 325, 326, 327, 328, 329, 330, 331, 332, 333, 334, 335, 336, 337, 338, 339, 340, 341, 342, 343, 1434, 1494, 1495, 1496, 1497, 1498, 1499, 1500, 1501, 1502, 1503, 1504, 1505, 1506, 1507, 1508, 1509, 1511, 1512, 1513, 1514, 1515, 1516, 1517, 1537, 1538, 1547, 1548, 1549, 1550, 1543, 1544, 1545, 1546, 1539, 1540, 1541, 1542] rfl (by decide +kernel)) (goodIn_sub (fun _ h => List.mem_append_left _ (List.mem_append_left _ (List.mem_append_left _ (List.mem_append_left _ (List.mem_append_left _ (List.mem_append_left _ (List.mem_append_left _ (List.mem_append_right _ h)))))))) (by decide +kernel))) (goodIn_sub (fun _ h => List.mem_append_left _ (List.mem_append_left _ (List.mem_append_left _ (List.mem_append_right _ h)))) (by decide +kernel))) (goodIn_sub (fun _ h => List.mem_append_left _ (List.mem_append_left _ (List.mem_append_left _ (List.mem_append_left _ (List.mem_append_left _ (List.mem_append_right _ h)))))) (by decide +kernel))
set_option maxRecDepth 20000 in
theorem gL_law_L_racks : GoodIn wsL_law (va_wsS RL 404 yL_racks wsL_racks) := goodIn_app (goodIn_of _ (by decide +kernel)) ggL_law_L_racks
set_option maxRecDepth 20000 in
theorem ggL_law_L_ranks : GoodIn wsL_law wsL_ranks := goodIn_ca (goodIn_ca (goodIn_ca (goodIn_ca (goodIn_r _ [1437, 1438, 1026, 1027, 1028, 2, 1029, 17, 143, 144, 1092, 1093, 127, 1094, 477, 3, 1095, 1096, 1097, 1098, 532, 755, 756, 757, 758, 470, 471, 759, 370, 371, 52, 372, 71, 556, 557, 558, 168, 559, 560, 561, 562, 173, 174, 563, 564, 565, 566, 567, 568, 569, 570, 77, 73, 1052, 1053, 1054, 1055, 1056, 1057, 1058, 1059, 666, 667, 668, 669, 554, 455, 456, 457, 670, 671, 672, 673, 674, 675, 676, 677, 678, 679, 36, 680, 681, 682, 683, 684, 685, 686, 632, 633, 634, 75, 373, 374, 375, 376, 687, 688, 689, 690, 37, 691, 692, 693, 694, 109, 695, 696, 697, 698, 699, 700, 701, 702, 703, 704, 705, 706, 707, 708, 709, 710, 711, 620, 621, 622, 623, 624, 625, 626, 627, 604, 605, 606, 628, 629, 630, 631, 635, 636, 637, 638, 76, 712, 713, 714, 715, 716, 717, 718, 719, 720, 721, 722, 723, 724, 725, 640, 641, 642, 643, 644, 40, 645, 646, 647, 648, 649, 650, 651, 652, 653, 654, 726, 727, 728, 729, 41, 730, 731, 732, 733, 734, 735, 736, 737, 114, 738, 739, 740, 741, 742, 743, 744, 745, 746, 747, 748, 749, 750, 45, 751, 752, 753, 754, 190, 191, 760, 761, 762, 44, 763, 764, 123, 765, 766, 767, 768, 121, 769, 770, 771, 772, 773, 774, 775, 776, 777, 124, 778, 779, 780, 781, 782, 783, 784, 785, 786, 787, 788, 789, 790, 122, 791, 792, 793, 794, 795, 796, 797, 798, 799, 800, 801, 802, 803, 804, 805, 1494, 1495, 1496, 1497, 1498, 1499, 1500, 1501, 1502, 1503, 1504, 1505, 1506, 1507, 1508, 1509, 1511, 1512, 1513, 1514, 1515, 1516, 1517, 1531, 1532, 1533, 1534, 1535, 1536, 1525, 1526, 1527, 1528, 1529, 1530] rfl (by decide +kernel)) (goodIn_sub (fun _ h => List.mem_append_left _ (List.mem_append_left _ (List.mem_append_left _ (List.mem_append_left _ (List.mem_append_left _ (List.mem_append_left _ (List.mem_append_left _ (List.mem_append_right _ h)))))))) (by decide +kernel))) (goodIn_sub (fun _ h => List.mem_append_left _ (List.mem_append_left _ (List.mem_append_left _ (List.mem_append_right _ h)))) (by decide +kernel))) (goodIn_sub (fun _ h => List.mem_append_left _ (List.mem_append_left _ (List.mem_append_left _ (List.mem_append_left _ (List.mem_append_left _ (List.mem_append_right _ h)))))) (by decide +kernel))) (goodIn_sub (fun _ h => List.mem_append_left _ (List.mem_append_left _ (List.mem_append_left _ (List.mem_append_left _ (List.mem_append_right _ h))))) (by decide +kernel))
set_option maxRecDepth 20000 in
theorem gL_law_L_ranks : GoodIn wsL_law (va_wsS RL 407 yL_ranks wsL_ranks) := goodIn_app (goodIn_of _ (by decide +kernel)) ggL_law_L_ranks
set_option maxRecDepth 20000 in
theorem ggL_law_L_positions : GoodIn wsL_law wsL_positions := goodIn_ca (goodIn_ca (goodIn_ca (goodIn_r _ [1441, 72, 1357, 205, 206, 207, 1026, 1027, 1028, 2, 1029, 17, 143, 144, 1377, 675, 676, 677, 678, 679, 36, 680, 681, 682, 683, 684, 685, 686, 632, 633, 52, 634, 71, 75, 373, 374, 375, 376, 655, 656, 657, 658, 659, 660, 625, 661, 627, 604, 605, 606, 628, 629, 630, 631, 635, 636, 637, 638, 76, 662, 663, 664, 665, 608, 609, 610, 73, 1378, 1379, 127, 1380, 1381, 1382, 1383, 1384, 1385, 1386, 477, 1387, 1388, 1389, 1390, 1037, 755, 756, 757, 758, 470, 471, 759, 370, 371, 372, 1045, 1395, 1396, 1397, 1052, 1053, 1054, 1055, 1056, 1057, 1058, 1059, 619, 620, 621, 622, 623, 624, 626, 1442, 713, 714, 715, 716, 717, 718, 719, 720, 721, 722, 723, 724, 1443, 1444, 1445, 1446, 1447, 607, 1448, 1449, 1450, 185, 1451, 1452, 1453, 1454, 190, 191, 603, 804, 1494, 1495, 1496, 1497, 1498, 1499, 1500, 1501, 1502, 1503, 1504, 1505, 1506, 1507, 1508, 1509, 1511, 1512, 1513, 1514, 1515, 1516, 1517, 1531, 1532, 1533, 1534, 1535, 1536] rfl (by decide +kernel)) (goodIn_sub (fun _ h => List.mem_append_left _ (List.mem_append_left _ (List.mem_append_left _ (List.mem_append_left _ (List.mem_append_left _ (List.mem_append_left _ (List.mem_append_left _ (List.mem_append_right _ h)))))))) (by decide +kernel))) (goodIn_sub (fun _ h => List.mem_append_left _ (List.mem_append_left _ (List.mem_append_left _ (List.mem_append_right _ h)))) (by decide +kernel))) (goodIn_sub (fun _ h => List.mem_append_left _ (List.mem_append_left _ (List.mem_append_left _ (List.mem_append_left _ (List.mem_append_right _ h))))) (by decide +kernel))
set_option maxRecDepth 20000 in
theorem gL_law_L_positions : GoodIn wsL_law (va_wsS RL 410 yL_positions wsL_positions) := goodIn_app (goodIn_of _ (by decide +kernel)) ggL_law_L_positions
set_option maxRecDepth 20000 in
theorem ggL_law_L_circles : GoodIn wsL_law wsL_circles := goodIn_ca (goodIn_ca (goodIn_ca (goodIn_ca (goodIn_r _ [1457, 72, 1458, 1026, 1027, 1028, 2, 1029, 17, 143, 144, 1459, 1460, 127, 1461, 1384, 1385, 1386, 477, 1387, 1388, 1389, 1390, 1037, 755, 756, 757, 758, 470, 471, 759, 370, 371, 52, 372, 71, 1045, 373, 374, 1381, 1382, 1383, 1462, 1463, 1464, 1465, 1466, 1467, 1468, 1469, 648, 40, 649, 650, 651, 652, 646, 375, 376, 653, 632, 633, 634, 75, 654, 636, 637, 638, 76, 1402, 697, 698, 699, 700, 701, 702, 1358, 1359, 1360, 7, 1361, 816, 1362, 1470, 1471, 1472, 1473, 748, 749, 750, 45, 751, 752, 753, 754, 190, 191, 760, 761, 762, 44, 763, 764, 123, 765, 766, 767, 768, 121, 769, 770, 771, 772, 773, 774, 775, 776, 777, 124, 778, 779, 780, 781, 782, 783, 784, 785, 786, 787, 788, 789, 790, 122, 1474, 1475, 1476, 1477, 792, 793, 794, 795, 796, 797, 798, 799, 800, 801, 802, 803, 639, 640, 641, 642, 643, 644, 645, 647, 1478, 727, 728, 729, 41, 730, 731, 732, 733, 734, 735, 736, 737, 114, 738, 739, 740, 741, 742, 1494, 1495, 1496, 1497, 1498, 1499, 1500, 1501, 1502, 1503, 1504, 1505, 1506, 1507, 1508, 1509, 1511, 1512, 1513, 1514, 1515, 1516, 1517, 1531, 1532, 1533, 1534, 1535, 1536, 1510, 1527, 1528, 1529, 1530, 1526] rfl (by decide +kernel)) (goodIn_sub (fun _ h => List.mem_append_left _ (List.mem_append_left _ (List.mem_append_left _ (List.mem_append_left _ (List.mem_append_left _ (List.mem_append_left _ (List.mem_append_left _ (List.mem_append_right _ h)))))))) (by decide +kernel))) (goodIn_sub (fun _ h => List.mem_append_left _ (List.mem_append_left _ (List.mem_append_left _ (List.mem_append_right _ h)))) (by decide +kernel))) (goodIn_sub (fun _ h => List.mem_append_right _ h) (by decide +kernel))) (goodIn_sub (fun _ h => List.mem_append_left _ (List.mem_append_left _ (List.mem_append_left _ (List.mem_append_left _ (List.mem_append_right _ h))))) (by decide +kernel))
set_option maxRecDepth 20000 in
theorem gL_law_L_circles : GoodIn wsL_law (va_wsS RL 412 yL_circles wsL_circles) := goodIn_app (goodIn_of _ (by decide +kernel)) ggL_law_L_circles
set_option maxRecDepth 20000 in
theorem ggL_law_L_foretold : GoodIn wsL_law wsL_foretold := goodIn_ca (goodIn_ca (goodIn_ca (goodIn_ca (goodIn_ca (goodIn_ca (goodIn_ca (goodIn_r _ [1481, 65, 1482, 1483, 1484, 1438, 1485, 1486, 1487, 2, 1488, 22, 17, 23, 143, 144, 145, 146, 147, 16, 148, 53, 57, 61, 62, 63, 64, 149, 150, 151, 52, 152, 71, 73, 153, 154, 155, 156, 74, 75, 76, 77, 157, 158, 159, 56, 160, 82, 83, 161, 162, 163, 60, 164, 88, 89, 90, 91, 1026, 1027, 1028, 1029, 1358, 1359, 1360, 7, 1361, 816, 1362, 540, 541, 127, 542, 185, 543, 544, 545, 546, 18, 430, 431, 432, 433, 462, 463, 464, 465, 19, 20, 21, 466, 300, 206, 301, 467, 468, 469, 470, 471, 190, 191, 134, 135, 472, 473, 173, 174, 547, 548, 549, 550, 551, 552, 553, 24, 554, 455, 456, 457, 555, 439, 440, 441, 442, 66, 425, 443, 444, 445, 446, 447, 448, 449, 450, 451, 452, 373, 374, 453, 388, 389, 390, 391, 392, 393, 427, 428, 429, 454, 458, 459, 460, 461, 404, 405, 406, 407, 408, 409, 410, 411, 412, 666, 667, 668, 669, 1092, 1093, 1094, 477, 3, 1095, 1096, 1097, 1098, 532, 755, 756, 757, 758, 759, 370, 371, 372, 1384, 1385, 1386, 1387, 1388, 1389, 1390, 1037, 1045, 1084, 1085, 1086, 1087, 1088, 1089, 1090, 1091, 1425, 1426, 1427, 1428, 1429, 1430, 1431, 353, 1423, 381, 382, 1432, 1489, 1490, 591, 1491, 1492, 1130, 1131, 1132, 1493, 1416, 1417, 1418, 1419, 1420, 1421, 1422, 828, 1424, 402, 403, 1346, 1347, 1348, 1349, 1350, 533, 534, 535, 536, 537, 538, 539, 434, 435, 436, 437, 438, 571, 572, 573, 168, 574, 575, 576, 577, 578, 579, 580, 581, 582, 583, 584, 585, 586, 587, 588, 589, 590, 592, 1333, 1334, 1335, 1336, 1337, 1338, 1339, 1340, 1341, 1342, 1343, 1344, 1345, 136, 137, 138, 129, 139, 140, 141, 142, 1494, 1495, 1496, 1497, 1498, 1499, 1500, 1501, 1502, 1503, 1504, 1505, 1506, 1507, 1508, 1509, 1511, 1512, 1513, 1514, 1515, 1516, 1517, 1531, 1532, 1533, 1534, 1535, 1536, 1537, 1538, 1539, 1540, 1541, 1542, 1510] rfl (by decide +kernel)) (goodIn_sub (fun _ h => List.mem_append_left _ (List.mem_append_left _ (List.mem_append_left _ (List.mem_append_left _ (List.mem_append_left _ (List.mem_append_left _ (List.mem_append_left _ (List.mem_append_right _ h)))))))) (by decide +kernel))) (goodIn_sub (fun _ h => List.mem_append_right _ h) (by decide +kernel))) (goodIn_sub (fun _ h => List.mem_append_left _ (List.mem_append_left _ (List.mem_append_left _ (List.mem_append_right _ h)))) (by decide +kernel))) (goodIn_sub (fun _ h => List.mem_append_left _ (List.mem_append_left _ (List.mem_append_left _ (List.mem_append_left _ (List.mem_append_right _ h))))) (by decide +kernel))) (goodIn_sub (fun _ h => List.mem_append_left _ (List.mem_append_left _ (List.mem_append_left _ (List.mem_append_left _ (List.mem_append_left _ (List.mem_append_left _ (List.mem_append_right _ h))))))) (by decide +kernel))) (goodIn_sub (fun _ h => List.mem_append_left _ (List.mem_append_left _ (List.mem_append_right _ h))) (by decide +kernel))) (goodIn_sub (fun _ h => List.mem_append_left _ (List.mem_append_left _ (List.mem_append_left _ (List.mem_append_left _ (List.mem_append_left _ (List.mem_append_right _ h)))))) (by decide +kernel))
set_option maxRecDepth 20000 in
theorem gL_law_L_foretold : GoodIn wsL_law (va_wsS RL 415 yL_foretold wsL_foretold) := goodIn_app (goodIn_of _ (by decide +kernel)) ggL_law_L_foretold
theorem dL_law_0 : decode cL_law 0 = .ok (.new 8, 3) := by decide +kernel
theorem dL_law_3 : decode cL_law 3 = .ok (.dup, 1) := by decide +kernel
theorem dL_law_4 : decode cL_law 4 = .ok (.invokespecial 373, 3) := by decide +kernel
theorem dL_law_7 : decode cL_law 7 = .ok (.astore_n 1, 1) := by decide +kernel
theorem dL_law_8 : decode cL_law 8 = .ok (.iconst 0, 1) := by decide +kernel
theorem dL_law_9 : decode cL_law 9 = .ok (.istore_n 2, 1) := by decide +kernel
theorem dL_law_10 : decode cL_law 10 = .ok (.aload_n 1, 1) := by decide +kernel
theorem dL_law_11 : decode cL_law 11 = .ok (.invokestatic 374, 3) := by decide +kernel
theorem dL_law_14 : decode cL_law 14 = .ok (.iconst (-1), 1) := by decide +kernel
theorem dL_law_15 : decode cL_law 15 = .ok (.if_icmp .ne 270, 3) := by decide +kernel
theorem dL_law_18 : decode cL_law 18 = .ok (.aload_n 1, 1) := by decide +kernel
theorem dL_law_19 : decode cL_law 19 = .ok (.invokestatic 370, 3) := by decide +kernel
theorem dL_law_22 : decode cL_law 22 = .ok (.iconst (-1), 1) := by decide +kernel
theorem dL_law_23 : decode cL_law 23 = .ok (.if_icmp .ne 262, 3) := by decide +kernel
theorem dL_law_26 : decode cL_law 26 = .ok (.aload_n 1, 1) := by decide +kernel
theorem dL_law_27 : decode cL_law 27 = .ok (.invokestatic 376, 3) := by decide +kernel
theorem dL_law_30 : decode cL_law 30 = .ok (.iconst (-1), 1) := by decide +kernel
theorem dL_law_31 : decode cL_law 31 = .ok (.if_icmp .ne 254, 3) := by decide +kernel
theorem dL_law_34 : decode cL_law 34 = .ok (.aload_n 1, 1) := by decide +kernel
theorem dL_law_35 : decode cL_law 35 = .ok (.invokestatic 378, 3) := by decide +kernel
theorem dL_law_38 : decode cL_law 38 = .ok (.iconst (-1), 1) := by decide +kernel
theorem dL_law_39 : decode cL_law 39 = .ok (.if_icmp .ne 246, 3) := by decide +kernel
theorem dL_law_42 : decode cL_law 42 = .ok (.aload_n 1, 1) := by decide +kernel
theorem dL_law_43 : decode cL_law 43 = .ok (.invokestatic 380, 3) := by decide +kernel
theorem dL_law_46 : decode cL_law 46 = .ok (.iconst (-1), 1) := by decide +kernel
theorem dL_law_47 : decode cL_law 47 = .ok (.if_icmp .ne 238, 3) := by decide +kernel
theorem dL_law_50 : decode cL_law 50 = .ok (.aload_n 1, 1) := by decide +kernel
theorem dL_law_51 : decode cL_law 51 = .ok (.invokestatic 376, 3) := by decide +kernel
theorem dL_law_54 : decode cL_law 54 = .ok (.ifCond .ne 231, 3) := by decide +kernel
theorem dL_law_57 : decode cL_law 57 = .ok (.aload_n 1, 1) := by decide +kernel
theorem dL_law_58 : decode cL_law 58 = .ok (.iconst 0, 1) := by decide +kernel
theorem dL_law_59 : decode cL_law 59 = .ok (.invokestatic 151, 3) := by decide +kernel
theorem dL_law_62 : decode cL_law 62 = .ok (.iconst (-1), 1) := by decide +kernel
theorem dL_law_63 : decode cL_law 63 = .ok (.if_icmp .ne 222, 3) := by decide +kernel
theorem dL_law_66 : decode cL_law 66 = .ok (.aload_n 1, 1) := by decide +kernel
theorem dL_law_67 : decode cL_law 67 = .ok (.bipush 100, 2) := by decide +kernel
theorem dL_law_69 : decode cL_law 69 = .ok (.invokestatic 191, 3) := by decide +kernel
theorem dL_law_72 : decode cL_law 72 = .ok (.iconst (-1), 1) := by decide +kernel
theorem dL_law_73 : decode cL_law 73 = .ok (.if_icmp .ne 212, 3) := by decide +kernel
theorem dL_law_76 : decode cL_law 76 = .ok (.aload_n 1, 1) := by decide +kernel
theorem dL_law_77 : decode cL_law 77 = .ok (.iconst 0, 1) := by decide +kernel
theorem dL_law_78 : decode cL_law 78 = .ok (.iconst 0, 1) := by decide +kernel
theorem dL_law_79 : decode cL_law 79 = .ok (.iconst 1, 1) := by decide +kernel
theorem dL_law_80 : decode cL_law 80 = .ok (.invokestatic 193, 3) := by decide +kernel
theorem dL_law_83 : decode cL_law 83 = .ok (.iconst (-1), 1) := by decide +kernel
theorem dL_law_84 : decode cL_law 84 = .ok (.if_icmp .ne 201, 3) := by decide +kernel
theorem dL_law_87 : decode cL_law 87 = .ok (.aload_n 1, 1) := by decide +kernel
theorem dL_law_88 : decode cL_law 88 = .ok (.iconst 0, 1) := by decide +kernel
theorem dL_law_89 : decode cL_law 89 = .ok (.iconst 0, 1) := by decide +kernel
theorem dL_law_90 : decode cL_law 90 = .ok (.invokestatic 196, 3) := by decide +kernel
theorem dL_law_93 : decode cL_law 93 = .ok (.iconst (-1), 1) := by decide +kernel
theorem dL_law_94 : decode cL_law 94 = .ok (.if_icmp .ne 191, 3) := by decide +kernel
theorem dL_law_97 : decode cL_law 97 = .ok (.aload_n 1, 1) := by decide +kernel
theorem dL_law_98 : decode cL_law 98 = .ok (.iconst 4, 1) := by decide +kernel
theorem dL_law_99 : decode cL_law 99 = .ok (.bipush 97, 2) := by decide +kernel
theorem dL_law_101 : decode cL_law 101 = .ok (.invokestatic 203, 3) := by decide +kernel
theorem dL_law_104 : decode cL_law 104 = .ok (.iconst (-1), 1) := by decide +kernel
theorem dL_law_105 : decode cL_law 105 = .ok (.if_icmp .ne 180, 3) := by decide +kernel
theorem dL_law_108 : decode cL_law 108 = .ok (.aload_n 1, 1) := by decide +kernel
theorem dL_law_109 : decode cL_law 109 = .ok (.iconst 0, 1) := by decide +kernel
theorem dL_law_110 : decode cL_law 110 = .ok (.bipush 120, 2) := by decide +kernel
theorem dL_law_112 : decode cL_law 112 = .ok (.invokestatic 203, 3) := by decide +kernel
theorem dL_law_115 : decode cL_law 115 = .ok (.bipush (-2), 2) := by decide +kernel
theorem dL_law_117 : decode cL_law 117 = .ok (.if_icmp .ne 168, 3) := by decide +kernel
theorem dL_law_120 : decode cL_law 120 = .ok (.aload_n 1, 1) := by decide +kernel
theorem dL_law_121 : decode cL_law 121 = .ok (.iconst 0, 1) := by decide +kernel
theorem dL_law_122 : decode cL_law 122 = .ok (.iconst 3, 1) := by decide +kernel
theorem dL_law_123 : decode cL_law 123 = .ok (.bipush 113, 2) := by decide +kernel
theorem dL_law_125 : decode cL_law 125 = .ok (.invokestatic 206, 3) := by decide +kernel
theorem dL_law_128 : decode cL_law 128 = .ok (.iconst (-1), 1) := by decide +kernel
theorem dL_law_129 : decode cL_law 129 = .ok (.if_icmp .ne 156, 3) := by decide +kernel
theorem dL_law_132 : decode cL_law 132 = .ok (.aload_n 1, 1) := by decide +kernel
theorem dL_law_133 : decode cL_law 133 = .ok (.iconst 0, 1) := by decide +kernel
theorem dL_law_134 : decode cL_law 134 = .ok (.iconst 0, 1) := by decide +kernel
theorem dL_law_135 : decode cL_law 135 = .ok (.bipush 120, 2) := by decide +kernel
theorem dL_law_137 : decode cL_law 137 = .ok (.invokestatic 206, 3) := by decide +kernel
theorem dL_law_140 : decode cL_law 140 = .ok (.bipush (-2), 2) := by decide +kernel
theorem dL_law_142 : decode cL_law 142 = .ok (.if_icmp .ne 143, 3) := by decide +kernel
theorem dL_law_145 : decode cL_law 145 = .ok (.aload_n 1, 1) := by decide +kernel
theorem dL_law_146 : decode cL_law 146 = .ok (.iconst 0, 1) := by decide +kernel
theorem dL_law_147 : decode cL_law 147 = .ok (.iconst 0, 1) := by decide +kernel
theorem dL_law_148 : decode cL_law 148 = .ok (.invokestatic 209, 3) := by decide +kernel
theorem dL_law_151 : decode cL_law 151 = .ok (.bipush (-2), 2) := by decide +kernel
theorem dL_law_153 : decode cL_law 153 = .ok (.if_icmp .ne 132, 3) := by decide +kernel
theorem dL_law_156 : decode cL_law 156 = .ok (.aload_n 1, 1) := by decide +kernel
theorem dL_law_157 : decode cL_law 157 = .ok (.iconst 0, 1) := by decide +kernel
theorem dL_law_158 : decode cL_law 158 = .ok (.iconst 1, 1) := by decide +kernel
theorem dL_law_159 : decode cL_law 159 = .ok (.invokestatic 211, 3) := by decide +kernel
theorem dL_law_162 : decode cL_law 162 = .ok (.ldc 80, 2) := by decide +kernel
theorem dL_law_164 : decode cL_law 164 = .ok (.fcmp .l, 1) := by decide +kernel
theorem dL_law_165 : decode cL_law 165 = .ok (.ifCond .ne 120, 3) := by decide +kernel
theorem dL_law_168 : decode cL_law 168 = .ok (.aload_n 1, 1) := by decide +kernel
theorem dL_law_169 : decode cL_law 169 = .ok (.bipush 21, 2) := by decide +kernel
theorem dL_law_171 : decode cL_law 171 = .ok (.invokestatic 216, 3) := by decide +kernel
theorem dL_law_174 : decode cL_law 174 = .ok (.iconst (-1), 1) := by decide +kernel
theorem dL_law_175 : decode cL_law 175 = .ok (.if_icmp .ne 110, 3) := by decide +kernel
theorem dL_law_178 : decode cL_law 178 = .ok (.aload_n 1, 1) := by decide +kernel
theorem dL_law_179 : decode cL_law 179 = .ok (.sipush 10000, 3) := by decide +kernel
theorem dL_law_182 : decode cL_law 182 = .ok (.invokestatic 214, 3) := by decide +kernel
theorem dL_law_185 : decode cL_law 185 = .ok (.iconst (-1), 1) := by decide +kernel
theorem dL_law_186 : decode cL_law 186 = .ok (.if_icmp .ne 99, 3) := by decide +kernel
theorem dL_law_189 : decode cL_law 189 = .ok (.aload_n 1, 1) := by decide +kernel
theorem dL_law_190 : decode cL_law 190 = .ok (.sipush 10000, 3) := by decide +kernel
theorem dL_law_193 : decode cL_law 193 = .ok (.invokestatic 263, 3) := by decide +kernel
theorem dL_law_196 : decode cL_law 196 = .ok (.iconst (-1), 1) := by decide +kernel
theorem dL_law_197 : decode cL_law 197 = .ok (.if_icmp .ne 88, 3) := by decide +kernel
theorem dL_law_200 : decode cL_law 200 = .ok (.aload_n 1, 1) := by decide +kernel
theorem dL_law_201 : decode cL_law 201 = .ok (.iconst 1, 1) := by decide +kernel
theorem dL_law_202 : decode cL_law 202 = .ok (.invokestatic 263, 3) := by decide +kernel
theorem dL_law_205 : decode cL_law 205 = .ok (.ifCond .ne 80, 3) := by decide +kernel
theorem dL_law_208 : decode cL_law 208 = .ok (.aload_n 1, 1) := by decide +kernel
theorem dL_law_209 : decode cL_law 209 = .ok (.iconst 0, 1) := by decide +kernel
theorem dL_law_210 : decode cL_law 210 = .ok (.invokestatic 353, 3) := by decide +kernel
theorem dL_law_213 : decode cL_law 213 = .ok (.iconst (-1), 1) := by decide +kernel
theorem dL_law_214 : decode cL_law 214 = .ok (.if_icmp .ne 71, 3) := by decide +kernel
theorem dL_law_217 : decode cL_law 217 = .ok (.aload_n 1, 1) := by decide +kernel
theorem dL_law_218 : decode cL_law 218 = .ok (.iconst 0, 1) := by decide +kernel
theorem dL_law_219 : decode cL_law 219 = .ok (.invokestatic 249, 3) := by decide +kernel
theorem dL_law_222 : decode cL_law 222 = .ok (.iconst (-1), 1) := by decide +kernel
theorem dL_law_223 : decode cL_law 223 = .ok (.if_icmp .ne 62, 3) := by decide +kernel
theorem dL_law_226 : decode cL_law 226 = .ok (.aload_n 1, 1) := by decide +kernel
theorem dL_law_227 : decode cL_law 227 = .ok (.invokestatic 308, 3) := by decide +kernel
theorem dL_law_230 : decode cL_law 230 = .ok (.ldc2_w 134, 3) := by decide +kernel
theorem dL_law_233 : decode cL_law 233 = .ok (.dcmp .l, 1) := by decide +kernel
theorem dL_law_234 : decode cL_law 234 = .ok (.ifCond .ne 51, 3) := by decide +kernel
theorem dL_law_237 : decode cL_law 237 = .ok (.aload_n 1, 1) := by decide +kernel
theorem dL_law_238 : decode cL_law 238 = .ok (.bipush 127, 2) := by decide +kernel
theorem dL_law_240 : decode cL_law 240 = .ok (.invokestatic 171, 3) := by decide +kernel
theorem dL_law_243 : decode cL_law 243 = .ok (.iconst (-1), 1) := by decide +kernel
theorem dL_law_244 : decode cL_law 244 = .ok (.if_icmp .ne 41, 3) := by decide +kernel
theorem dL_law_247 : decode cL_law 247 = .ok (.aload_n 1, 1) := by decide +kernel
theorem dL_law_248 : decode cL_law 248 = .ok (.invokevirtual 314, 3) := by decide +kernel
theorem dL_law_251 : decode cL_law 251 = .ok (.iconst 1, 1) := by decide +kernel
theorem dL_law_252 : decode cL_law 252 = .ok (.if_icmp .ne 33, 3) := by decide +kernel
theorem dL_law_255 : decode cL_law 255 = .ok (.aload_n 1, 1) := by decide +kernel
theorem dL_law_256 : decode cL_law 256 = .ok (.invokevirtual 337, 3) := by decide +kernel
theorem dL_law_259 : decode cL_law 259 = .ok (.ifCond .ne 26, 3) := by decide +kernel
theorem dL_law_262 : decode cL_law 262 = .ok (.aload_n 1, 1) := by decide +kernel
theorem dL_law_263 : decode cL_law 263 = .ok (.invokevirtual 311, 3) := by decide +kernel
theorem dL_law_266 : decode cL_law 266 = .ok (.ifCond .ne 19, 3) := by decide +kernel
theorem dL_law_269 : decode cL_law 269 = .ok (.aload_n 1, 1) := by decide +kernel
theorem dL_law_270 : decode cL_law 270 = .ok (.invokevirtual 253, 3) := by decide +kernel
theorem dL_law_273 : decode cL_law 273 = .ok (.fconst 0, 1) := by decide +kernel
theorem dL_law_274 : decode cL_law 274 = .ok (.fcmp .l, 1) := by decide +kernel
theorem dL_law_275 : decode cL_law 275 = .ok (.ifCond .ne 10, 3) := by decide +kernel
theorem dL_law_278 : decode cL_law 278 = .ok (.aload_n 1, 1) := by decide +kernel
theorem dL_law_279 : decode cL_law 279 = .ok (.invokevirtual 356, 3) := by decide +kernel
theorem dL_law_282 : decode cL_law 282 = .ok (.ifCond .ne 5, 3) := by decide +kernel
theorem dL_law_285 : decode cL_law 285 = .ok (.iconst 0, 1) := by decide +kernel
theorem dL_law_286 : decode cL_law 286 = .ok (.ireturn, 1) := by decide +kernel
theorem dL_law_287 : decode cL_law 287 = .ok (.aload_n 1, 1) := by decide +kernel
theorem dL_law_288 : decode cL_law 288 = .ok (.invokestatic 382, 3) := by decide +kernel
theorem dL_law_291 : decode cL_law 291 = .ok (.istore_n 3, 1) := by decide +kernel
theorem dL_law_292 : decode cL_law 292 = .ok (.iconst 0, 1) := by decide +kernel
theorem dL_law_293 : decode cL_law 293 = .ok (.istore 4, 2) := by decide +kernel
theorem dL_law_295 : decode cL_law 295 = .ok (.iload 4, 2) := by decide +kernel
theorem dL_law_297 : decode cL_law 297 = .ok (.bipush 18, 2) := by decide +kernel
theorem dL_law_299 : decode cL_law 299 = .ok (.if_icmp .ge 193, 3) := by decide +kernel
theorem dL_law_302 : decode cL_law 302 = .ok (.aload_n 0, 1) := by decide +kernel
theorem dL_law_303 : decode cL_law 303 = .ok (.iload_n 2, 1) := by decide +kernel
theorem dL_law_304 : decode cL_law 304 = .ok (.invokestatic 385, 3) := by decide +kernel
theorem dL_law_307 : decode cL_law 307 = .ok (.sipush 255, 3) := by decide +kernel
theorem dL_law_310 : decode cL_law 310 = .ok (.iand, 1) := by decide +kernel
theorem dL_law_311 : decode cL_law 311 = .ok (.istore 5, 2) := by decide +kernel
theorem dL_law_313 : decode cL_law 313 = .ok (.new 175, 3) := by decide +kernel
theorem dL_law_316 : decode cL_law 316 = .ok (.dup, 1) := by decide +kernel
theorem dL_law_317 : decode cL_law 317 = .ok (.aload_n 0, 1) := by decide +kernel
theorem dL_law_318 : decode cL_law 318 = .ok (.iload_n 2, 1) := by decide +kernel
theorem dL_law_319 : decode cL_law 319 = .ok (.iconst 1, 1) := by decide +kernel
theorem dL_law_320 : decode cL_law 320 = .ok (.iadd, 1) := by decide +kernel
theorem dL_law_321 : decode cL_law 321 = .ok (.invokestatic 385, 3) := by decide +kernel
theorem dL_law_324 : decode cL_law 324 = .ok (.invokespecial 389, 3) := by decide +kernel
theorem dL_law_327 : decode cL_law 327 = .ok (.astore 6, 2) := by decide +kernel
theorem dL_law_329 : decode cL_law 329 = .ok (.iinc 2 2, 3) := by decide +kernel
theorem dL_law_332 : decode cL_law 332 = .ok (.aload_n 1, 1) := by decide +kernel
theorem dL_law_333 : decode cL_law 333 = .ok (.invokestatic 392, 3) := by decide +kernel
theorem dL_law_336 : decode cL_law 336 = .ok (.astore 7, 2) := by decide +kernel
theorem dL_law_338 : decode cL_law 338 = .ok (.aload_n 1, 1) := by decide +kernel
theorem dL_law_339 : decode cL_law 339 = .ok (.iload 5, 2) := by decide +kernel
theorem dL_law_341 : decode cL_law 341 = .ok (.aload 6, 2) := by decide +kernel
theorem dL_law_343 : decode cL_law 343 = .ok (.invokestatic 396, 3) := by decide +kernel
theorem dL_law_346 : decode cL_law 346 = .ok (.istore 8, 2) := by decide +kernel
theorem dL_law_348 : decode cL_law 348 = .ok (.iload 8, 2) := by decide +kernel
theorem dL_law_350 : decode cL_law 350 = .ok (.ifCond .ge 17, 3) := by decide +kernel
theorem dL_law_353 : decode cL_law 353 = .ok (.aload 7, 2) := by decide +kernel
theorem dL_law_355 : decode cL_law 355 = .ok (.aload_n 1, 1) := by decide +kernel
theorem dL_law_356 : decode cL_law 356 = .ok (.invokestatic 392, 3) := by decide +kernel
theorem dL_law_359 : decode cL_law 359 = .ok (.invokevirtual 304, 3) := by decide +kernel
theorem dL_law_362 : decode cL_law 362 = .ok (.ifCond .ne 5, 3) := by decide +kernel
theorem dL_law_365 : decode cL_law 365 = .ok (.iconst 0, 1) := by decide +kernel
theorem dL_law_366 : decode cL_law 366 = .ok (.ireturn, 1) := by decide +kernel
theorem dL_law_367 : decode cL_law 367 = .ok (.iload 8, 2) := by decide +kernel
theorem dL_law_369 : decode cL_law 369 = .ok (.ifCond .lt 33, 3) := by decide +kernel
theorem dL_law_372 : decode cL_law 372 = .ok (.aload 6, 2) := by decide +kernel
theorem dL_law_374 : decode cL_law 374 = .ok (.iconst 4, 1) := by decide +kernel
theorem dL_law_375 : decode cL_law 375 = .ok (.invokevirtual 174, 3) := by decide +kernel
theorem dL_law_378 : decode cL_law 378 = .ok (.ifCond .ne 24, 3) := by decide +kernel
theorem dL_law_381 : decode cL_law 381 = .ok (.aload_n 1, 1) := by decide +kernel
theorem dL_law_382 : decode cL_law 382 = .ok (.invokestatic 374, 3) := by decide +kernel
theorem dL_law_385 : decode cL_law 385 = .ok (.ifCond .lt 15, 3) := by decide +kernel
theorem dL_law_388 : decode cL_law 388 = .ok (.aload 7, 2) := by decide +kernel
theorem dL_law_390 : decode cL_law 390 = .ok (.aload_n 1, 1) := by decide +kernel
theorem dL_law_391 : decode cL_law 391 = .ok (.invokestatic 392, 3) := by decide +kernel
theorem dL_law_394 : decode cL_law 394 = .ok (.invokevirtual 304, 3) := by decide +kernel
theorem dL_law_397 : decode cL_law 397 = .ok (.ifCond .ne 5, 3) := by decide +kernel
theorem dL_law_400 : decode cL_law 400 = .ok (.iconst 0, 1) := by decide +kernel
theorem dL_law_401 : decode cL_law 401 = .ok (.ireturn, 1) := by decide +kernel
theorem dL_law_402 : decode cL_law 402 = .ok (.aload_n 1, 1) := by decide +kernel
theorem dL_law_403 : decode cL_law 403 = .ok (.invokestatic 400, 3) := by decide +kernel
theorem dL_law_406 : decode cL_law 406 = .ok (.ifCond .eq 17, 3) := by decide +kernel
theorem dL_law_409 : decode cL_law 409 = .ok (.aload_n 1, 1) := by decide +kernel
theorem dL_law_410 : decode cL_law 410 = .ok (.invokestatic 404, 3) := by decide +kernel
theorem dL_law_413 : decode cL_law 413 = .ok (.ifCond .eq 10, 3) := by decide +kernel
theorem dL_law_416 : decode cL_law 416 = .ok (.aload_n 1, 1) := by decide +kernel
theorem dL_law_417 : decode cL_law 417 = .ok (.invokestatic 407, 3) := by decide +kernel
theorem dL_law_420 : decode cL_law 420 = .ok (.ifCond .ne 5, 3) := by decide +kernel
theorem dL_law_423 : decode cL_law 423 = .ok (.iconst 0, 1) := by decide +kernel
theorem dL_law_424 : decode cL_law 424 = .ok (.ireturn, 1) := by decide +kernel
theorem dL_law_425 : decode cL_law 425 = .ok (.iload 4, 2) := by decide +kernel
theorem dL_law_427 : decode cL_law 427 = .ok (.iconst 3, 1) := by decide +kernel
theorem dL_law_428 : decode cL_law 428 = .ok (.irem, 1) := by decide +kernel
theorem dL_law_429 : decode cL_law 429 = .ok (.iconst 2, 1) := by decide +kernel
theorem dL_law_430 : decode cL_law 430 = .ok (.if_icmp .ne 56, 3) := by decide +kernel
theorem dL_law_433 : decode cL_law 433 = .ok (.aload_n 1, 1) := by decide +kernel
theorem dL_law_434 : decode cL_law 434 = .ok (.invokestatic 392, 3) := by decide +kernel
theorem dL_law_437 : decode cL_law 437 = .ok (.astore 7, 2) := by decide +kernel
theorem dL_law_439 : decode cL_law 439 = .ok (.aload_n 1, 1) := by decide +kernel
theorem dL_law_440 : decode cL_law 440 = .ok (.invokestatic 410, 3) := by decide +kernel
theorem dL_law_443 : decode cL_law 443 = .ok (.ifCond .eq 41, 3) := by decide +kernel
theorem dL_law_446 : decode cL_law 446 = .ok (.aload_n 1, 1) := by decide +kernel
theorem dL_law_447 : decode cL_law 447 = .ok (.aload 6, 2) := by decide +kernel
theorem dL_law_449 : decode cL_law 449 = .ok (.invokestatic 412, 3) := by decide +kernel
theorem dL_law_452 : decode cL_law 452 = .ok (.ifCond .eq 32, 3) := by decide +kernel
theorem dL_law_455 : decode cL_law 455 = .ok (.aload_n 1, 1) := by decide +kernel
theorem dL_law_456 : decode cL_law 456 = .ok (.aload 6, 2) := by decide +kernel
theorem dL_law_458 : decode cL_law 458 = .ok (.invokestatic 415, 3) := by decide +kernel
theorem dL_law_461 : decode cL_law 461 = .ok (.ifCond .eq 23, 3) := by decide +kernel
theorem dL_law_464 : decode cL_law 464 = .ok (.aload 7, 2) := by decide +kernel
theorem dL_law_466 : decode cL_law 466 = .ok (.aload_n 1, 1) := by decide +kernel
theorem dL_law_467 : decode cL_law 467 = .ok (.invokestatic 392, 3) := by decide +kernel
theorem dL_law_470 : decode cL_law 470 = .ok (.invokevirtual 304, 3) := by decide +kernel
theorem dL_law_473 : decode cL_law 473 = .ok (.ifCond .eq 11, 3) := by decide +kernel
theorem dL_law_476 : decode cL_law 476 = .ok (.aload_n 1, 1) := by decide +kernel
theorem dL_law_477 : decode cL_law 477 = .ok (.invokestatic 374, 3) := by decide +kernel
theorem dL_law_480 : decode cL_law 480 = .ok (.iconst (-1), 1) := by decide +kernel
theorem dL_law_481 : decode cL_law 481 = .ok (.if_icmp .eq 5, 3) := by decide +kernel
theorem dL_law_484 : decode cL_law 484 = .ok (.iconst 0, 1) := by decide +kernel
theorem dL_law_485 : decode cL_law 485 = .ok (.ireturn, 1) := by decide +kernel
theorem dL_law_486 : decode cL_law 486 = .ok (.iinc 4 1, 3) := by decide +kernel
theorem dL_law_489 : decode cL_law 489 = .ok (.goto (-194), 3) := by decide +kernel
theorem dL_law_492 : decode cL_law 492 = .ok (.iload_n 3, 1) := by decide +kernel
theorem dL_law_493 : decode cL_law 493 = .ok (.ifCond .le 7, 3) := by decide +kernel
theorem dL_law_496 : decode cL_law 496 = .ok (.iconst 1, 1) := by decide +kernel
theorem dL_law_497 : decode cL_law 497 = .ok (.goto 4, 3) := by decide +kernel
theorem dL_law_500 : decode cL_law 500 = .ok (.iconst 0, 1) := by decide +kernel
theorem dL_law_501 : decode cL_law 501 = .ok (.ireturn, 1) := by decide +kernel
