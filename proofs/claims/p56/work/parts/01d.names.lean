set_option maxRecDepth 20000 in
theorem ggX12_init_X11_init : GoodIn wsX12_init wsX11_init := goodIn_ca (goodIn_r _ [38, 39, 2, 3, 40, 41, 42, 43, 44, 45, 46, 47, 48, 49, 50, 51, 52, 53, 54, 55, 56, 57, 58, 59, 60, 61, 62, 63, 64, 65, 66, 67, 68, 69, 70, 71, 21, 72, 73, 74, 75, 76, 77, 78, 79, 80, 81, 151, 152, 153, 154, 155, 156, 115, 116, 117, 118, 119, 120, 121, 157, 158, 159, 160, 161, 162] rfl (by decide +kernel)) (goodIn_sub (fun _ h => List.mem_cons_of_mem _ (List.mem_append_right _ h)) (by decide +kernel))
set_option maxRecDepth 20000 in
theorem gX12_init_X11_init : GoodIn wsX12_init (wsX11_init) := ggX12_init_X11_init
set_option maxRecDepth 20000 in
theorem ggX12_init_X6_init : GoodIn wsX12_init wsX6_init := goodIn_r _ [84, 85, 2, 3, 21, 86, 87, 88, 89, 90, 62, 91, 92, 93, 94, 138, 139, 140, 141, 142, 143, 144] rfl (by decide +kernel)
set_option maxRecDepth 20000 in
theorem gX12_init_X6_init : GoodIn wsX12_init (wsX6_init) := ggX12_init_X6_init
set_option maxRecDepth 20000 in
theorem ggX12_init_X1_init : GoodIn wsX12_init wsX1_init := goodIn_r _ [97, 98, 2, 3, 62, 99, 145] rfl (by decide +kernel)
set_option maxRecDepth 20000 in
theorem gX12_init_X1_init : GoodIn wsX12_init (wsX1_init) := ggX12_init_X1_init
set_option maxRecDepth 20000 in
theorem ggX12_init_X4_init : GoodIn wsX12_init wsX4_init := goodIn_r _ [102, 103, 2, 3, 62, 104, 146] rfl (by decide +kernel)
set_option maxRecDepth 20000 in
theorem gX12_init_X4_init : GoodIn wsX12_init (wsX4_init) := ggX12_init_X4_init
set_option maxRecDepth 20000 in
theorem ggX12_init_X3_init : GoodIn wsX12_init wsX3_init := goodIn_r _ [107, 108, 2, 3, 109, 110, 111, 112, 113, 114, 147, 148, 149, 150] rfl (by decide +kernel)
set_option maxRecDepth 20000 in
theorem gX12_init_X3_init : GoodIn wsX12_init (wsX3_init) := ggX12_init_X3_init
theorem dX12_init_0 : decode cX12_init 0 = .ok (.aload_n 0, 1) := by decide +kernel
theorem dX12_init_1 : decode cX12_init 1 = .ok (.invokespecial 1, 3) := by decide +kernel
theorem dX12_init_4 : decode cX12_init 4 = .ok (.aload_n 0, 1) := by decide +kernel
theorem dX12_init_5 : decode cX12_init 5 = .ok (.new 7, 3) := by decide +kernel
theorem dX12_init_8 : decode cX12_init 8 = .ok (.dup, 1) := by decide +kernel
theorem dX12_init_9 : decode cX12_init 9 = .ok (.invokespecial 9, 3) := by decide +kernel
theorem dX12_init_12 : decode cX12_init 12 = .ok (.putfield 10, 3) := by decide +kernel
theorem dX12_init_15 : decode cX12_init 15 = .ok (.aload_n 0, 1) := by decide +kernel
theorem dX12_init_16 : decode cX12_init 16 = .ok (.new 7, 3) := by decide +kernel
theorem dX12_init_19 : decode cX12_init 19 = .ok (.dup, 1) := by decide +kernel
theorem dX12_init_20 : decode cX12_init 20 = .ok (.invokespecial 9, 3) := by decide +kernel
theorem dX12_init_23 : decode cX12_init 23 = .ok (.putfield 16, 3) := by decide +kernel
theorem dX12_init_26 : decode cX12_init 26 = .ok (.aload_n 0, 1) := by decide +kernel
theorem dX12_init_27 : decode cX12_init 27 = .ok (.bipush 8, 2) := by decide +kernel
theorem dX12_init_29 : decode cX12_init 29 = .ok (.anewarray 7, 3) := by decide +kernel
theorem dX12_init_32 : decode cX12_init 32 = .ok (.putfield 19, 3) := by decide +kernel
theorem dX12_init_35 : decode cX12_init 35 = .ok (.aload_n 0, 1) := by decide +kernel
theorem dX12_init_36 : decode cX12_init 36 = .ok (.iconst 0, 1) := by decide +kernel
theorem dX12_init_37 : decode cX12_init 37 = .ok (.putfield 23, 3) := by decide +kernel
theorem dX12_init_40 : decode cX12_init 40 = .ok (.aload_n 0, 1) := by decide +kernel
theorem dX12_init_41 : decode cX12_init 41 = .ok (.iconst 0, 1) := by decide +kernel
theorem dX12_init_42 : decode cX12_init 42 = .ok (.putfield 27, 3) := by decide +kernel
theorem dX12_init_45 : decode cX12_init 45 = .ok (.aload_n 0, 1) := by decide +kernel
theorem dX12_init_46 : decode cX12_init 46 = .ok (.new 7, 3) := by decide +kernel
theorem dX12_init_49 : decode cX12_init 49 = .ok (.dup, 1) := by decide +kernel
theorem dX12_init_50 : decode cX12_init 50 = .ok (.invokespecial 9, 3) := by decide +kernel
theorem dX12_init_53 : decode cX12_init 53 = .ok (.putfield 30, 3) := by decide +kernel
theorem dX12_init_56 : decode cX12_init 56 = .ok (.aload_n 0, 1) := by decide +kernel
theorem dX12_init_57 : decode cX12_init 57 = .ok (.iconst 0, 1) := by decide +kernel
theorem dX12_init_58 : decode cX12_init 58 = .ok (.putfield 33, 3) := by decide +kernel
theorem dX12_init_61 : decode cX12_init 61 = .ok (.aload_n 0, 1) := by decide +kernel
theorem dX12_init_62 : decode cX12_init 62 = .ok (.new 7, 3) := by decide +kernel
theorem dX12_init_65 : decode cX12_init 65 = .ok (.dup, 1) := by decide +kernel
theorem dX12_init_66 : decode cX12_init 66 = .ok (.invokespecial 9, 3) := by decide +kernel
theorem dX12_init_69 : decode cX12_init 69 = .ok (.putfield 37, 3) := by decide +kernel
theorem dX12_init_72 : decode cX12_init 72 = .ok (.aload_n 0, 1) := by decide +kernel
theorem dX12_init_73 : decode cX12_init 73 = .ok (.new 40, 3) := by decide +kernel
theorem dX12_init_76 : decode cX12_init 76 = .ok (.dup, 1) := by decide +kernel
theorem dX12_init_77 : decode cX12_init 77 = .ok (.invokespecial 42, 3) := by decide +kernel
theorem dX12_init_80 : decode cX12_init 80 = .ok (.putfield 43, 3) := by decide +kernel
theorem dX12_init_83 : decode cX12_init 83 = .ok (.aload_n 0, 1) := by decide +kernel
theorem dX12_init_84 : decode cX12_init 84 = .ok (.iconst (-1), 1) := by decide +kernel
theorem dX12_init_85 : decode cX12_init 85 = .ok (.putfield 47, 3) := by decide +kernel
theorem dX12_init_88 : decode cX12_init 88 = .ok (.aload_n 0, 1) := by decide +kernel
theorem dX12_init_89 : decode cX12_init 89 = .ok (.iconst (-1), 1) := by decide +kernel
theorem dX12_init_90 : decode cX12_init 90 = .ok (.putfield 50, 3) := by decide +kernel
theorem dX12_init_93 : decode cX12_init 93 = .ok (.aload_n 0, 1) := by decide +kernel
theorem dX12_init_94 : decode cX12_init 94 = .ok (.bipush 19, 2) := by decide +kernel
theorem dX12_init_96 : decode cX12_init 96 = .ok (.newarray .char, 2) := by decide +kernel
theorem dX12_init_98 : decode cX12_init 98 = .ok (.putfield 53, 3) := by decide +kernel
theorem dX12_init_101 : decode cX12_init 101 = .ok (.aload_n 0, 1) := by decide +kernel
theorem dX12_init_102 : decode cX12_init 102 = .ok (.iconst 0, 1) := by decide +kernel
theorem dX12_init_103 : decode cX12_init 103 = .ok (.putfield 57, 3) := by decide +kernel
theorem dX12_init_106 : decode cX12_init 106 = .ok (.aload_n 0, 1) := by decide +kernel
theorem dX12_init_107 : decode cX12_init 107 = .ok (.new 60, 3) := by decide +kernel
theorem dX12_init_110 : decode cX12_init 110 = .ok (.dup, 1) := by decide +kernel
theorem dX12_init_111 : decode cX12_init 111 = .ok (.invokespecial 62, 3) := by decide +kernel
theorem dX12_init_114 : decode cX12_init 114 = .ok (.putfield 63, 3) := by decide +kernel
theorem dX12_init_117 : decode cX12_init 117 = .ok (.aload_n 0, 1) := by decide +kernel
theorem dX12_init_118 : decode cX12_init 118 = .ok (.new 67, 3) := by decide +kernel
theorem dX12_init_121 : decode cX12_init 121 = .ok (.dup, 1) := by decide +kernel
theorem dX12_init_122 : decode cX12_init 122 = .ok (.invokespecial 69, 3) := by decide +kernel
theorem dX12_init_125 : decode cX12_init 125 = .ok (.putfield 70, 3) := by decide +kernel
theorem dX12_init_128 : decode cX12_init 128 = .ok (.aload_n 0, 1) := by decide +kernel
theorem dX12_init_129 : decode cX12_init 129 = .ok (.new 74, 3) := by decide +kernel
theorem dX12_init_132 : decode cX12_init 132 = .ok (.dup, 1) := by decide +kernel
theorem dX12_init_133 : decode cX12_init 133 = .ok (.invokespecial 76, 3) := by decide +kernel
theorem dX12_init_136 : decode cX12_init 136 = .ok (.putfield 77, 3) := by decide +kernel
theorem dX12_init_139 : decode cX12_init 139 = .ok (.iconst 0, 1) := by decide +kernel
theorem dX12_init_140 : decode cX12_init 140 = .ok (.istore_n 1, 1) := by decide +kernel
theorem dX12_init_141 : decode cX12_init 141 = .ok (.iload_n 1, 1) := by decide +kernel
theorem dX12_init_142 : decode cX12_init 142 = .ok (.aload_n 0, 1) := by decide +kernel
theorem dX12_init_143 : decode cX12_init 143 = .ok (.getfield 19, 3) := by decide +kernel
theorem dX12_init_146 : decode cX12_init 146 = .ok (.arraylength, 1) := by decide +kernel
theorem dX12_init_147 : decode cX12_init 147 = .ok (.if_icmp .ge 22, 3) := by decide +kernel
theorem dX12_init_150 : decode cX12_init 150 = .ok (.aload_n 0, 1) := by decide +kernel
theorem dX12_init_151 : decode cX12_init 151 = .ok (.getfield 19, 3) := by decide +kernel
theorem dX12_init_154 : decode cX12_init 154 = .ok (.iload_n 1, 1) := by decide +kernel
theorem dX12_init_155 : decode cX12_init 155 = .ok (.new 7, 3) := by decide +kernel
theorem dX12_init_158 : decode cX12_init 158 = .ok (.dup, 1) := by decide +kernel
theorem dX12_init_159 : decode cX12_init 159 = .ok (.invokespecial 9, 3) := by decide +kernel
theorem dX12_init_162 : decode cX12_init 162 = .ok (.aastore, 1) := by decide +kernel
theorem dX12_init_163 : decode cX12_init 163 = .ok (.iinc 1 1, 3) := by decide +kernel
theorem dX12_init_166 : decode cX12_init 166 = .ok (.goto (-25), 3) := by decide +kernel
theorem dX12_init_169 : decode cX12_init 169 = .ok (.return_, 1) := by decide +kernel
set_option maxRecDepth 20000 in
theorem ggX12_addClaim_X11_copyFrom : GoodIn wsX12_addClaim wsX11_copyFrom := goodIn_ca (goodIn_r _ [8, 9, 10, 11, 12, 13, 14, 15, 16, 17, 18, 19, 20, 21, 22, 23, 24, 25, 26, 27, 28, 29, 30, 31, 32, 33, 34, 35, 36, 37, 38, 39, 40, 41, 42, 43, 44, 45, 91, 92, 93, 94, 95, 96, 97, 98, 99, 100, 101, 102, 103, 104, 105, 106, 107, 108, 109] rfl (by decide +kernel)) (goodIn_sub (fun _ h => List.mem_cons_of_mem _ (List.mem_append_left _ (List.mem_append_left _ (List.mem_append_left _ (List.mem_append_left _ (List.mem_append_left _ (List.mem_append_right _ h))))))) (by decide +kernel))
set_option maxRecDepth 20000 in
theorem gX12_addClaim_X11_copyFrom : GoodIn wsX12_addClaim (wsV RX12 81 RX11 yX11_copyFrom wsX11_copyFrom) := goodIn_app (goodIn_of _ (by decide +kernel)) ggX12_addClaim_X11_copyFrom
set_option maxRecDepth 20000 in
theorem ggX12_addClaim_X5_enter : GoodIn wsX12_addClaim wsX5_enter := goodIn_ca (goodIn_r _ [49, 20, 21, 98, 99, 100, 101, 102, 103] rfl (by decide +kernel)) (goodIn_sub (fun _ h => List.mem_cons_of_mem _ (List.mem_append_left _ (List.mem_append_left _ (List.mem_append_left _ (List.mem_append_left _ (List.mem_append_left _ (List.mem_append_right _ h))))))) (by decide +kernel))
set_option maxRecDepth 20000 in
theorem gX12_addClaim_X5_enter : GoodIn wsX12_addClaim (wsV RX12 89 RX5 yX5_enter wsX5_enter) := goodIn_app (goodIn_of _ (by decide +kernel)) ggX12_addClaim_X5_enter
set_option maxRecDepth 20000 in
theorem ggX12_addClaim_X12_settled : GoodIn wsX12_addClaim wsX12_settled := goodIn_ca (goodIn_ca (goodIn_ca (goodIn_ca (goodIn_ca (goodIn_r _ [54, 55, 56, 1, 57, 58, 59, 60, 61, 62, 63, 53, 64, 65, 66, 67, 68, 69, 70, 71, 72, 73, 74, 75, 76, 77, 78, 79, 80, 81, 82, 83, 84, 85, 86, 87, 88, 89, 90] rfl (by decide +kernel)) (goodIn_sub (fun _ h => List.mem_cons_of_mem _ (List.mem_append_left _ (List.mem_append_left _ (List.mem_append_left _ (List.mem_append_left _ (List.mem_append_right _ h)))))) (by decide +kernel))) (goodIn_sub (fun _ h => List.mem_cons_of_mem _ (List.mem_append_left _ (List.mem_append_left _ (List.mem_append_left _ (List.mem_append_right _ h))))) (by decide +kernel))) (goodIn_sub (fun _ h => List.mem_cons_of_mem _ (List.mem_append_left _ (List.mem_append_left _ (List.mem_append_right _ h)))) (by decide +kernel))) (goodIn_sub (fun _ h => List.mem_cons_of_mem _ (List.mem_append_left _ (List.mem_append_right _ h))) (by decide +kernel))) (goodIn_sub (fun _ h => List.mem_cons_of_mem _ (List.mem_append_right _ h)) (by decide +kernel))
set_option maxRecDepth 20000 in
theorem gX12_addClaim_X12_settled : GoodIn wsX12_addClaim (wsV RX12 95 RX12 yX12_settled wsX12_settled) := goodIn_app (goodIn_of _ (by decide +kernel)) ggX12_addClaim_X12_settled
theorem dX12_addClaim_0 : decode cX12_addClaim 0 = .ok (.aload_n 0, 1) := by decide +kernel
theorem dX12_addClaim_1 : decode cX12_addClaim 1 = .ok (.getfield 16, 3) := by decide +kernel
theorem dX12_addClaim_4 : decode cX12_addClaim 4 = .ok (.aload_n 0, 1) := by decide +kernel
theorem dX12_addClaim_5 : decode cX12_addClaim 5 = .ok (.getfield 10, 3) := by decide +kernel
theorem dX12_addClaim_8 : decode cX12_addClaim 8 = .ok (.invokevirtual 81, 3) := by decide +kernel
theorem dX12_addClaim_11 : decode cX12_addClaim 11 = .ok (.aload_n 0, 1) := by decide +kernel
theorem dX12_addClaim_12 : decode cX12_addClaim 12 = .ok (.aload_n 0, 1) := by decide +kernel
theorem dX12_addClaim_13 : decode cX12_addClaim 13 = .ok (.getfield 10, 3) := by decide +kernel
theorem dX12_addClaim_16 : decode cX12_addClaim 16 = .ok (.getfield 85, 3) := by decide +kernel
theorem dX12_addClaim_19 : decode cX12_addClaim 19 = .ok (.iload_n 1, 1) := by decide +kernel
theorem dX12_addClaim_20 : decode cX12_addClaim 20 = .ok (.invokevirtual 89, 3) := by decide +kernel
theorem dX12_addClaim_23 : decode cX12_addClaim 23 = .ok (.invokevirtual 95, 3) := by decide +kernel
theorem dX12_addClaim_26 : decode cX12_addClaim 26 = .ok (.ireturn, 1) := by decide +kernel
set_option maxRecDepth 20000 in
theorem ggX12_setAttack_X11_copyFrom : GoodIn wsX12_setAttack wsX11_copyFrom := goodIn_ca (goodIn_r _ [8, 9, 10, 11, 12, 13, 14, 15, 16, 17, 18, 19, 20, 21, 22, 23, 24, 25, 26, 27, 28, 29, 30, 31, 32, 33, 34, 35, 36, 37, 38, 39, 40, 41, 42, 43, 44, 45, 99, 100, 101, 102, 103, 104, 105, 106, 107, 108, 109, 110, 111, 112, 113, 114, 115, 116, 117] rfl (by decide +kernel)) (goodIn_sub (fun _ h => List.mem_cons_of_mem _ (List.mem_append_left _ (List.mem_append_left _ (List.mem_append_left _ (List.mem_append_left _ (List.mem_append_left _ (List.mem_append_right _ h))))))) (by decide +kernel))
set_option maxRecDepth 20000 in
theorem gX12_setAttack_X11_copyFrom : GoodIn wsX12_setAttack (wsV RX12 81 RX11 yX11_copyFrom wsX11_copyFrom) := goodIn_app (goodIn_of _ (by decide +kernel)) ggX12_setAttack_X11_copyFrom
set_option maxRecDepth 20000 in
theorem ggX12_setAttack_X5_direct : GoodIn wsX12_setAttack wsX5_direct := goodIn_ca (goodIn_r _ [49, 27, 28, 50, 51, 52, 18, 53, 20, 54, 55, 56, 57, 58, 106, 107, 108, 109, 110, 111] rfl (by decide +kernel)) (goodIn_sub (fun _ h => List.mem_cons_of_mem _ (List.mem_append_left _ (List.mem_append_left _ (List.mem_append_left _ (List.mem_append_left _ (List.mem_append_left _ (List.mem_append_right _ h))))))) (by decide +kernel))
set_option maxRecDepth 20000 in
theorem gX12_setAttack_X5_direct : GoodIn wsX12_setAttack (wsV RX12 98 RX5 yX5_direct wsX5_direct) := goodIn_app (goodIn_of _ (by decide +kernel)) ggX12_setAttack_X5_direct
set_option maxRecDepth 20000 in
theorem ggX12_setAttack_X12_settled : GoodIn wsX12_setAttack wsX12_settled := goodIn_ca (goodIn_ca (goodIn_ca (goodIn_ca (goodIn_ca (goodIn_r _ [62, 63, 64, 1, 65, 66, 67, 68, 69, 70, 71, 55, 72, 73, 74, 75, 76, 77, 78, 79, 80, 81, 82, 83, 84, 85, 86, 87, 88, 89, 90, 91, 92, 93, 94, 95, 96, 97, 98] rfl (by decide +kernel)) (goodIn_sub (fun _ h => List.mem_cons_of_mem _ (List.mem_append_left _ (List.mem_append_left _ (List.mem_append_left _ (List.mem_append_left _ (List.mem_append_right _ h)))))) (by decide +kernel))) (goodIn_sub (fun _ h => List.mem_cons_of_mem _ (List.mem_append_left _ (List.mem_append_left _ (List.mem_append_left _ (List.mem_append_right _ h))))) (by decide +kernel))) (goodIn_sub (fun _ h => List.mem_cons_of_mem _ (List.mem_append_left _ (List.mem_append_left _ (List.mem_append_right _ h)))) (by decide +kernel))) (goodIn_sub (fun _ h => List.mem_cons_of_mem _ (List.mem_append_left _ (List.mem_append_right _ h))) (by decide +kernel))) (goodIn_sub (fun _ h => List.mem_cons_of_mem _ (List.mem_append_right _ h)) (by decide +kernel))
set_option maxRecDepth 20000 in
theorem gX12_setAttack_X12_settled : GoodIn wsX12_setAttack (wsV RX12 95 RX12 yX12_settled wsX12_settled) := goodIn_app (goodIn_of _ (by decide +kernel)) ggX12_setAttack_X12_settled
theorem dX12_setAttack_0 : decode cX12_setAttack 0 = .ok (.aload_n 0, 1) := by decide +kernel
theorem dX12_setAttack_1 : decode cX12_setAttack 1 = .ok (.getfield 16, 3) := by decide +kernel
theorem dX12_setAttack_4 : decode cX12_setAttack 4 = .ok (.aload_n 0, 1) := by decide +kernel
theorem dX12_setAttack_5 : decode cX12_setAttack 5 = .ok (.getfield 10, 3) := by decide +kernel
theorem dX12_setAttack_8 : decode cX12_setAttack 8 = .ok (.invokevirtual 81, 3) := by decide +kernel
theorem dX12_setAttack_11 : decode cX12_setAttack 11 = .ok (.aload_n 0, 1) := by decide +kernel
theorem dX12_setAttack_12 : decode cX12_setAttack 12 = .ok (.aload_n 0, 1) := by decide +kernel
theorem dX12_setAttack_13 : decode cX12_setAttack 13 = .ok (.getfield 10, 3) := by decide +kernel
theorem dX12_setAttack_16 : decode cX12_setAttack 16 = .ok (.getfield 85, 3) := by decide +kernel
theorem dX12_setAttack_19 : decode cX12_setAttack 19 = .ok (.iload_n 1, 1) := by decide +kernel
theorem dX12_setAttack_20 : decode cX12_setAttack 20 = .ok (.iload_n 2, 1) := by decide +kernel
theorem dX12_setAttack_21 : decode cX12_setAttack 21 = .ok (.iload_n 3, 1) := by decide +kernel
theorem dX12_setAttack_22 : decode cX12_setAttack 22 = .ok (.invokevirtual 98, 3) := by decide +kernel
theorem dX12_setAttack_25 : decode cX12_setAttack 25 = .ok (.invokevirtual 95, 3) := by decide +kernel
theorem dX12_setAttack_28 : decode cX12_setAttack 28 = .ok (.iconst 1, 1) := by decide +kernel
theorem dX12_setAttack_29 : decode cX12_setAttack 29 = .ok (.if_icmp .ne 7, 3) := by decide +kernel
theorem dX12_setAttack_32 : decode cX12_setAttack 32 = .ok (.iconst 1, 1) := by decide +kernel
theorem dX12_setAttack_33 : decode cX12_setAttack 33 = .ok (.goto 4, 3) := by decide +kernel
theorem dX12_setAttack_36 : decode cX12_setAttack 36 = .ok (.iconst 0, 1) := by decide +kernel
theorem dX12_setAttack_37 : decode cX12_setAttack 37 = .ok (.ireturn, 1) := by decide +kernel
set_option maxRecDepth 20000 in
theorem ggX12_setLayer_X11_copyFrom : GoodIn wsX12_setLayer wsX11_copyFrom := goodIn_ca (goodIn_r _ [8, 9, 10, 11, 12, 13, 14, 15, 16, 17, 18, 19, 20, 21, 22, 23, 24, 25, 26, 27, 28, 29, 30, 31, 32, 33, 34, 35, 36, 37, 38, 39, 40, 41, 42, 43, 44, 45, 97, 98, 99, 100, 101, 102, 103, 104, 105, 106, 107, 108, 109, 110, 111, 112, 113, 114, 115] rfl (by decide +kernel)) (goodIn_sub (fun _ h => List.mem_cons_of_mem _ (List.mem_append_left _ (List.mem_append_left _ (List.mem_append_left _ (List.mem_append_left _ (List.mem_append_left _ (List.mem_append_right _ h))))))) (by decide +kernel))
set_option maxRecDepth 20000 in
theorem gX12_setLayer_X11_copyFrom : GoodIn wsX12_setLayer (wsV RX12 81 RX11 yX11_copyFrom wsX11_copyFrom) := goodIn_app (goodIn_of _ (by decide +kernel)) ggX12_setLayer_X11_copyFrom
set_option maxRecDepth 20000 in
theorem ggX12_setLayer_X5_move : GoodIn wsX12_setLayer wsX5_move := goodIn_ca (goodIn_r _ [49, 26, 50, 51, 52, 18, 53, 20, 54, 55, 56, 104, 105, 106, 107, 108, 109] rfl (by decide +kernel)) (goodIn_sub (fun _ h => List.mem_cons_of_mem _ (List.mem_append_left _ (List.mem_append_left _ (List.mem_append_left _ (List.mem_append_left _ (List.mem_append_left _ (List.mem_append_right _ h))))))) (by decide +kernel))
set_option maxRecDepth 20000 in
theorem gX12_setLayer_X5_move : GoodIn wsX12_setLayer (wsV RX12 102 RX5 yX5_move wsX5_move) := goodIn_app (goodIn_of _ (by decide +kernel)) ggX12_setLayer_X5_move
set_option maxRecDepth 20000 in
theorem ggX12_setLayer_X12_settled : GoodIn wsX12_setLayer wsX12_settled := goodIn_ca (goodIn_ca (goodIn_ca (goodIn_ca (goodIn_ca (goodIn_r _ [60, 61, 62, 1, 63, 64, 65, 66, 67, 68, 69, 55, 70, 71, 72, 73, 74, 75, 76, 77, 78, 79, 80, 81, 82, 83, 84, 85, 86, 87, 88, 89, 90, 91, 92, 93, 94, 95, 96] rfl (by decide +kernel)) (goodIn_sub (fun _ h => List.mem_cons_of_mem _ (List.mem_append_left _ (List.mem_append_left _ (List.mem_append_left _ (List.mem_append_left _ (List.mem_append_right _ h)))))) (by decide +kernel))) (goodIn_sub (fun _ h => List.mem_cons_of_mem _ (List.mem_append_left _ (List.mem_append_left _ (List.mem_append_left _ (List.mem_append_right _ h))))) (by decide +kernel))) (goodIn_sub (fun _ h => List.mem_cons_of_mem _ (List.mem_append_left _ (List.mem_append_left _ (List.mem_append_right _ h)))) (by decide +kernel))) (goodIn_sub (fun _ h => List.mem_cons_of_mem _ (List.mem_append_left _ (List.mem_append_right _ h))) (by decide +kernel))) (goodIn_sub (fun _ h => List.mem_cons_of_mem _ (List.mem_append_right _ h)) (by decide +kernel))
set_option maxRecDepth 20000 in
theorem gX12_setLayer_X12_settled : GoodIn wsX12_setLayer (wsV RX12 95 RX12 yX12_settled wsX12_settled) := goodIn_app (goodIn_of _ (by decide +kernel)) ggX12_setLayer_X12_settled
theorem dX12_setLayer_0 : decode cX12_setLayer 0 = .ok (.aload_n 0, 1) := by decide +kernel
theorem dX12_setLayer_1 : decode cX12_setLayer 1 = .ok (.getfield 16, 3) := by decide +kernel
theorem dX12_setLayer_4 : decode cX12_setLayer 4 = .ok (.aload_n 0, 1) := by decide +kernel
theorem dX12_setLayer_5 : decode cX12_setLayer 5 = .ok (.getfield 10, 3) := by decide +kernel
theorem dX12_setLayer_8 : decode cX12_setLayer 8 = .ok (.invokevirtual 81, 3) := by decide +kernel
theorem dX12_setLayer_11 : decode cX12_setLayer 11 = .ok (.aload_n 0, 1) := by decide +kernel
theorem dX12_setLayer_12 : decode cX12_setLayer 12 = .ok (.aload_n 0, 1) := by decide +kernel
theorem dX12_setLayer_13 : decode cX12_setLayer 13 = .ok (.getfield 10, 3) := by decide +kernel
theorem dX12_setLayer_16 : decode cX12_setLayer 16 = .ok (.getfield 85, 3) := by decide +kernel
theorem dX12_setLayer_19 : decode cX12_setLayer 19 = .ok (.iload_n 1, 1) := by decide +kernel
theorem dX12_setLayer_20 : decode cX12_setLayer 20 = .ok (.iload_n 2, 1) := by decide +kernel
theorem dX12_setLayer_21 : decode cX12_setLayer 21 = .ok (.invokevirtual 102, 3) := by decide +kernel
theorem dX12_setLayer_24 : decode cX12_setLayer 24 = .ok (.invokevirtual 95, 3) := by decide +kernel
theorem dX12_setLayer_27 : decode cX12_setLayer 27 = .ok (.ireturn, 1) := by decide +kernel
theorem dX12_claimCount_0 : decode cX12_claimCount 0 = .ok (.aload_n 0, 1) := by decide +kernel
theorem dX12_claimCount_1 : decode cX12_claimCount 1 = .ok (.getfield 10, 3) := by decide +kernel
theorem dX12_claimCount_4 : decode cX12_claimCount 4 = .ok (.getfield 85, 3) := by decide +kernel
theorem dX12_claimCount_7 : decode cX12_claimCount 7 = .ok (.getfield 106, 3) := by decide +kernel
theorem dX12_claimCount_10 : decode cX12_claimCount 10 = .ok (.ireturn, 1) := by decide +kernel
set_option maxRecDepth 20000 in
theorem ggX12_weightOf_X12_needClaim : GoodIn wsX12_weightOf wsX12_needClaim := goodIn_ca (goodIn_r _ [8, 9, 10, 1, 2, 11, 12, 13, 14, 15, 16, 17, 18, 19, 20, 21, 22, 23, 24, 25, 26, 27, 28, 29, 30, 31, 32, 33, 34, 35, 36, 37, 38, 39, 40, 41, 42, 43, 44, 45] rfl (by decide +kernel)) (goodIn_sub (fun _ h => List.mem_cons_of_mem _ (List.mem_append_right _ h)) (by decide +kernel))
set_option maxRecDepth 20000 in
theorem gX12_weightOf_X12_needClaim : GoodIn wsX12_weightOf (wsV RX12 109 RX12 yX12_needClaim wsX12_needClaim) := goodIn_app (goodIn_of _ (by decide +kernel)) ggX12_weightOf_X12_needClaim
theorem dX12_weightOf_0 : decode cX12_weightOf 0 = .ok (.aload_n 0, 1) := by decide +kernel
theorem dX12_weightOf_1 : decode cX12_weightOf 1 = .ok (.iload_n 1, 1) := by decide +kernel
theorem dX12_weightOf_2 : decode cX12_weightOf 2 = .ok (.invokevirtual 109, 3) := by decide +kernel
theorem dX12_weightOf_5 : decode cX12_weightOf 5 = .ok (.aload_n 0, 1) := by decide +kernel
theorem dX12_weightOf_6 : decode cX12_weightOf 6 = .ok (.getfield 10, 3) := by decide +kernel
theorem dX12_weightOf_9 : decode cX12_weightOf 9 = .ok (.getfield 85, 3) := by decide +kernel
theorem dX12_weightOf_12 : decode cX12_weightOf 12 = .ok (.getfield 113, 3) := by decide +kernel
theorem dX12_weightOf_15 : decode cX12_weightOf 15 = .ok (.iload_n 1, 1) := by decide +kernel
theorem dX12_weightOf_16 : decode cX12_weightOf 16 = .ok (.iaload, 1) := by decide +kernel
theorem dX12_weightOf_17 : decode cX12_weightOf 17 = .ok (.ireturn, 1) := by decide +kernel
set_option maxRecDepth 20000 in
theorem ggX12_layerOf_X12_needClaim : GoodIn wsX12_layerOf wsX12_needClaim := goodIn_ca (goodIn_r _ [8, 9, 10, 1, 2, 11, 12, 13, 14, 15, 16, 17, 18, 19, 20, 21, 22, 23, 24, 25, 26, 27, 28, 29, 30, 31, 32, 33, 34, 35, 36, 37, 38, 39, 40, 41, 42, 43, 44, 45] rfl (by decide +kernel)) (goodIn_sub (fun _ h => List.mem_cons_of_mem _ (List.mem_append_right _ h)) (by decide +kernel))
set_option maxRecDepth 20000 in
theorem gX12_layerOf_X12_needClaim : GoodIn wsX12_layerOf (wsV RX12 109 RX12 yX12_needClaim wsX12_needClaim) := goodIn_app (goodIn_of _ (by decide +kernel)) ggX12_layerOf_X12_needClaim
theorem dX12_layerOf_0 : decode cX12_layerOf 0 = .ok (.aload_n 0, 1) := by decide +kernel
theorem dX12_layerOf_1 : decode cX12_layerOf 1 = .ok (.iload_n 1, 1) := by decide +kernel
theorem dX12_layerOf_2 : decode cX12_layerOf 2 = .ok (.invokevirtual 109, 3) := by decide +kernel
theorem dX12_layerOf_5 : decode cX12_layerOf 5 = .ok (.aload_n 0, 1) := by decide +kernel
theorem dX12_layerOf_6 : decode cX12_layerOf 6 = .ok (.getfield 10, 3) := by decide +kernel
theorem dX12_layerOf_9 : decode cX12_layerOf 9 = .ok (.getfield 85, 3) := by decide +kernel
theorem dX12_layerOf_12 : decode cX12_layerOf 12 = .ok (.getfield 117, 3) := by decide +kernel
theorem dX12_layerOf_15 : decode cX12_layerOf 15 = .ok (.iload_n 1, 1) := by decide +kernel
theorem dX12_layerOf_16 : decode cX12_layerOf 16 = .ok (.iaload, 1) := by decide +kernel
theorem dX12_layerOf_17 : decode cX12_layerOf 17 = .ok (.ireturn, 1) := by decide +kernel
set_option maxRecDepth 20000 in
theorem ggX12_attacks_X12_needClaim : GoodIn wsX12_attacks wsX12_needClaim := goodIn_ca (goodIn_r _ [8, 9, 10, 1, 2, 11, 12, 13, 14, 15, 16, 20, 21, 22, 23, 24, 25, 26, 27, 28, 29, 30, 31, 32, 33, 34, 35, 36, 37, 38, 39, 40, 41, 42, 43, 44, 45, 46, 47, 48] rfl (by decide +kernel)) (goodIn_sub (fun _ h => List.mem_cons_of_mem _ (List.mem_append_right _ h)) (by decide +kernel))
set_option maxRecDepth 20000 in
theorem gX12_attacks_X12_needClaim : GoodIn wsX12_attacks (wsV RX12 109 RX12 yX12_needClaim wsX12_needClaim) := goodIn_app (goodIn_of _ (by decide +kernel)) ggX12_attacks_X12_needClaim
set_option maxRecDepth 20000 in
theorem ggX12_attacks_X12_contains : GoodIn wsX12_attacks wsX12_contains := goodIn_r _ [19] rfl (by decide +kernel)
set_option maxRecDepth 20000 in
theorem gX12_attacks_X12_contains : GoodIn wsX12_attacks (va_wsS RX12 123 yX12_contains wsX12_contains) := goodIn_app (goodIn_of _ (by decide +kernel)) ggX12_attacks_X12_contains
theorem dX12_attacks_0 : decode cX12_attacks 0 = .ok (.aload_n 0, 1) := by decide +kernel
theorem dX12_attacks_1 : decode cX12_attacks 1 = .ok (.iload_n 1, 1) := by decide +kernel
theorem dX12_attacks_2 : decode cX12_attacks 2 = .ok (.invokevirtual 109, 3) := by decide +kernel
theorem dX12_attacks_5 : decode cX12_attacks 5 = .ok (.aload_n 0, 1) := by decide +kernel
theorem dX12_attacks_6 : decode cX12_attacks 6 = .ok (.iload_n 2, 1) := by decide +kernel
theorem dX12_attacks_7 : decode cX12_attacks 7 = .ok (.invokevirtual 109, 3) := by decide +kernel
theorem dX12_attacks_10 : decode cX12_attacks 10 = .ok (.aload_n 0, 1) := by decide +kernel
theorem dX12_attacks_11 : decode cX12_attacks 11 = .ok (.getfield 10, 3) := by decide +kernel
theorem dX12_attacks_14 : decode cX12_attacks 14 = .ok (.getfield 85, 3) := by decide +kernel
theorem dX12_attacks_17 : decode cX12_attacks 17 = .ok (.getfield 120, 3) := by decide +kernel
theorem dX12_attacks_20 : decode cX12_attacks 20 = .ok (.iload_n 1, 1) := by decide +kernel
theorem dX12_attacks_21 : decode cX12_attacks 21 = .ok (.iaload, 1) := by decide +kernel
theorem dX12_attacks_22 : decode cX12_attacks 22 = .ok (.iload_n 2, 1) := by decide +kernel
theorem dX12_attacks_23 : decode cX12_attacks 23 = .ok (.invokestatic 123, 3) := by decide +kernel
theorem dX12_attacks_26 : decode cX12_attacks 26 = .ok (.ireturn, 1) := by decide +kernel
set_option maxRecDepth 20000 in
theorem ggX12_acceptedBits_X1_byRounds : GoodIn wsX12_acceptedBits wsX1_byRounds := goodIn_ca (goodIn_r _ [6, 7, 8, 9, 5, 10, 11, 12, 13, 14, 15, 16, 17, 18, 19, 20, 21, 22, 23, 47, 48, 49, 50, 51, 52] rfl (by decide +kernel)) (goodIn_sub (fun _ h => List.mem_cons_of_mem _ (List.mem_append_right _ h)) (by decide +kernel))
set_option maxRecDepth 20000 in
theorem gX12_acceptedBits_X1_byRounds : GoodIn wsX12_acceptedBits (va_wsS RX12 127 yX1_byRounds wsX1_byRounds) := goodIn_app (goodIn_of _ (by decide +kernel)) ggX12_acceptedBits_X1_byRounds
theorem dX12_acceptedBits_0 : decode cX12_acceptedBits 0 = .ok (.aload_n 0, 1) := by decide +kernel
theorem dX12_acceptedBits_1 : decode cX12_acceptedBits 1 = .ok (.getfield 10, 3) := by decide +kernel
theorem dX12_acceptedBits_4 : decode cX12_acceptedBits 4 = .ok (.getfield 85, 3) := by decide +kernel
theorem dX12_acceptedBits_7 : decode cX12_acceptedBits 7 = .ok (.invokestatic 127, 3) := by decide +kernel
theorem dX12_acceptedBits_10 : decode cX12_acceptedBits 10 = .ok (.ireturn, 1) := by decide +kernel
set_option maxRecDepth 20000 in
theorem ggX12_acceptedBitsByLabels_X1_byLabels : GoodIn wsX12_acceptedBitsByLabels wsX1_byLabels := goodIn_ca (goodIn_r _ [8, 9, 10, 11, 12, 13, 14, 15, 16, 17, 18, 19, 20, 21, 22, 7, 23, 24, 25, 26, 27, 28, 29, 30, 31, 32, 56, 57, 58, 59, 60, 61, 62] rfl (by decide +kernel)) (goodIn_sub (fun _ h => List.mem_cons_of_mem _ (List.mem_append_right _ h)) (by decide +kernel))
set_option maxRecDepth 20000 in
theorem gX12_acceptedBitsByLabels_X1_byLabels : GoodIn wsX12_acceptedBitsByLabels (wsV RX12 131 RX1 yX1_byLabels wsX1_byLabels) := goodIn_app (goodIn_of _ (by decide +kernel)) ggX12_acceptedBitsByLabels_X1_byLabels
theorem dX12_acceptedBitsByLabels_0 : decode cX12_acceptedBitsByLabels 0 = .ok (.aload_n 0, 1) := by decide +kernel
theorem dX12_acceptedBitsByLabels_1 : decode cX12_acceptedBitsByLabels 1 = .ok (.getfield 63, 3) := by decide +kernel
theorem dX12_acceptedBitsByLabels_4 : decode cX12_acceptedBitsByLabels 4 = .ok (.aload_n 0, 1) := by decide +kernel
theorem dX12_acceptedBitsByLabels_5 : decode cX12_acceptedBitsByLabels 5 = .ok (.getfield 10, 3) := by decide +kernel
theorem dX12_acceptedBitsByLabels_8 : decode cX12_acceptedBitsByLabels 8 = .ok (.getfield 85, 3) := by decide +kernel
theorem dX12_acceptedBitsByLabels_11 : decode cX12_acceptedBitsByLabels 11 = .ok (.invokevirtual 131, 3) := by decide +kernel
theorem dX12_acceptedBitsByLabels_14 : decode cX12_acceptedBitsByLabels 14 = .ok (.ireturn, 1) := by decide +kernel
set_option maxRecDepth 20000 in
theorem ggX12_isRejected_X12_needClaim : GoodIn wsX12_isRejected wsX12_needClaim := goodIn_ca (goodIn_r _ [5, 6, 7, 8, 9, 10, 11, 12, 13, 14, 15, 44, 45, 46, 47, 48, 49, 50, 51, 52, 53, 54, 55, 56, 57, 58, 59, 60, 61, 62, 63, 64, 65, 66, 67, 68, 69, 70, 71, 72] rfl (by decide +kernel)) (goodIn_sub (fun _ h => List.mem_cons_of_mem _ (List.mem_append_left _ (List.mem_append_right _ h))) (by decide +kernel))
set_option maxRecDepth 20000 in
theorem gX12_isRejected_X12_needClaim : GoodIn wsX12_isRejected (wsV RX12 109 RX12 yX12_needClaim wsX12_needClaim) := goodIn_app (goodIn_of _ (by decide +kernel)) ggX12_isRejected_X12_needClaim
set_option maxRecDepth 20000 in
theorem ggX12_isRejected_X12_rejectedBits : GoodIn wsX12_isRejected wsX12_rejectedBits := goodIn_ca (goodIn_r _ [19, 8, 9, 20, 21, 22, 4, 23, 24, 25, 26, 27, 28, 29, 30, 31, 32, 33, 34, 35, 13, 36, 15, 37, 38, 39, 40, 41, 42, 44, 45, 46, 47, 48, 49, 50, 51, 52, 53, 54, 55, 56, 57, 58, 59, 60, 61, 62, 63, 64, 65, 66, 67, 68, 69, 70, 71, 72] rfl (by decide +kernel)) (goodIn_sub (fun _ h => List.mem_cons_of_mem _ (List.mem_append_right _ h)) (by decide +kernel))
set_option maxRecDepth 20000 in
theorem gX12_isRejected_X12_rejectedBits : GoodIn wsX12_isRejected (wsV RX12 134 RX12 yX12_rejectedBits wsX12_rejectedBits) := goodIn_app (goodIn_of _ (by decide +kernel)) ggX12_isRejected_X12_rejectedBits
set_option maxRecDepth 20000 in
theorem ggX12_isRejected_X12_contains : GoodIn wsX12_isRejected wsX12_contains := goodIn_r _ [39] rfl (by decide +kernel)
set_option maxRecDepth 20000 in
theorem gX12_isRejected_X12_contains : GoodIn wsX12_isRejected (va_wsS RX12 123 yX12_contains wsX12_contains) := goodIn_app (goodIn_of _ (by decide +kernel)) ggX12_isRejected_X12_contains
theorem dX12_isRejected_0 : decode cX12_isRejected 0 = .ok (.aload_n 0, 1) := by decide +kernel
theorem dX12_isRejected_1 : decode cX12_isRejected 1 = .ok (.iload_n 1, 1) := by decide +kernel
theorem dX12_isRejected_2 : decode cX12_isRejected 2 = .ok (.invokevirtual 109, 3) := by decide +kernel
theorem dX12_isRejected_5 : decode cX12_isRejected 5 = .ok (.aload_n 0, 1) := by decide +kernel
theorem dX12_isRejected_6 : decode cX12_isRejected 6 = .ok (.invokevirtual 134, 3) := by decide +kernel
theorem dX12_isRejected_9 : decode cX12_isRejected 9 = .ok (.iload_n 1, 1) := by decide +kernel
theorem dX12_isRejected_10 : decode cX12_isRejected 10 = .ok (.invokestatic 123, 3) := by decide +kernel
theorem dX12_isRejected_13 : decode cX12_isRejected 13 = .ok (.ireturn, 1) := by decide +kernel
set_option maxRecDepth 20000 in
theorem ggX12_undecidedCount_X5_all : GoodIn wsX12_undecidedCount wsX5_all := goodIn_r _ [7, 8, 9, 10, 11, 67, 68, 69, 70, 71, 72] rfl (by decide +kernel)
set_option maxRecDepth 20000 in
theorem gX12_undecidedCount_X5_all : GoodIn wsX12_undecidedCount (wsV RX12 138 RX5 yX5_all wsX5_all) := goodIn_app (goodIn_of _ (by decide +kernel)) ggX12_undecidedCount_X5_all
set_option maxRecDepth 20000 in
theorem ggX12_undecidedCount_X12_acceptedBits : GoodIn wsX12_undecidedCount wsX12_acceptedBits := goodIn_ca (goodIn_r _ [15, 1, 2, 16, 17, 18, 19, 20, 21, 22, 23, 24, 25, 26, 27, 6, 28, 8, 29, 30, 10, 31, 9, 11, 44, 45, 46, 47, 48, 49, 50, 51, 52, 53, 54, 55, 56, 57, 58, 59, 60, 61, 62, 63, 64, 65, 66, 67, 68, 69, 70, 71, 72] rfl (by decide +kernel)) (goodIn_sub (fun _ h => List.mem_cons_of_mem _ (List.mem_append_right _ h)) (by decide +kernel))
set_option maxRecDepth 20000 in
theorem gX12_undecidedCount_X12_acceptedBits : GoodIn wsX12_undecidedCount (wsV RX12 141 RX12 yX12_acceptedBits wsX12_acceptedBits) := goodIn_app (goodIn_of _ (by decide +kernel)) ggX12_undecidedCount_X12_acceptedBits
set_option maxRecDepth 20000 in
theorem ggX12_undecidedCount_X12_rejectedBits : GoodIn wsX12_undecidedCount wsX12_rejectedBits := goodIn_ca (goodIn_r _ [35, 1, 2, 12, 13, 14, 10, 15, 16, 17, 18, 19, 20, 21, 22, 23, 24, 25, 26, 27, 6, 28, 8, 29, 30, 31, 9, 11, 36, 44, 45, 46, 47, 48, 49, 50, 51, 52, 53, 54, 55, 56, 57, 58, 59, 60, 61, 62, 63, 64, 65, 66, 67, 68, 69, 70, 71, 72] rfl (by decide +kernel)) (goodIn_sub (fun _ h => List.mem_cons_of_mem _ (List.mem_append_right _ h)) (by decide +kernel))
set_option maxRecDepth 20000 in
theorem gX12_undecidedCount_X12_rejectedBits : GoodIn wsX12_undecidedCount (wsV RX12 134 RX12 yX12_rejectedBits wsX12_rejectedBits) := goodIn_app (goodIn_of _ (by decide +kernel)) ggX12_undecidedCount_X12_rejectedBits
set_option maxRecDepth 20000 in
theorem ggX12_undecidedCount_J6_bitCount_0f7a4 : GoodIn wsX12_undecidedCount wsJ6_bitCount_0f7a4 := goodIn_r _ [40, 41, 42, 43] rfl (by decide +kernel)
set_option maxRecDepth 20000 in
theorem gX12_undecidedCount_J6_bitCount_0f7a4 : GoodIn wsX12_undecidedCount (va_wsS RX12 144 yJ6_bitCount_0f7a4 wsJ6_bitCount_0f7a4) := goodIn_app (goodIn_of _ (by decide +kernel)) ggX12_undecidedCount_J6_bitCount_0f7a4
theorem dX12_undecidedCount_0 : decode cX12_undecidedCount 0 = .ok (.aload_n 0, 1) := by decide +kernel
theorem dX12_undecidedCount_1 : decode cX12_undecidedCount 1 = .ok (.getfield 10, 3) := by decide +kernel
theorem dX12_undecidedCount_4 : decode cX12_undecidedCount 4 = .ok (.getfield 85, 3) := by decide +kernel
theorem dX12_undecidedCount_7 : decode cX12_undecidedCount 7 = .ok (.invokevirtual 138, 3) := by decide +kernel
theorem dX12_undecidedCount_10 : decode cX12_undecidedCount 10 = .ok (.aload_n 0, 1) := by decide +kernel
theorem dX12_undecidedCount_11 : decode cX12_undecidedCount 11 = .ok (.invokevirtual 141, 3) := by decide +kernel
theorem dX12_undecidedCount_14 : decode cX12_undecidedCount 14 = .ok (.aload_n 0, 1) := by decide +kernel
theorem dX12_undecidedCount_15 : decode cX12_undecidedCount 15 = .ok (.invokevirtual 134, 3) := by decide +kernel
theorem dX12_undecidedCount_18 : decode cX12_undecidedCount 18 = .ok (.ior, 1) := by decide +kernel
theorem dX12_undecidedCount_19 : decode cX12_undecidedCount 19 = .ok (.iconst (-1), 1) := by decide +kernel
theorem dX12_undecidedCount_20 : decode cX12_undecidedCount 20 = .ok (.ixor, 1) := by decide +kernel
theorem dX12_undecidedCount_21 : decode cX12_undecidedCount 21 = .ok (.iand, 1) := by decide +kernel
theorem dX12_undecidedCount_22 : decode cX12_undecidedCount 22 = .ok (.invokestatic 144, 3) := by decide +kernel
theorem dX12_undecidedCount_25 : decode cX12_undecidedCount 25 = .ok (.ireturn, 1) := by decide +kernel
set_option maxRecDepth 20000 in
theorem ggX12_rejectedBits_X12_acceptedBits : GoodIn wsX12_rejectedBits wsX12_acceptedBits := goodIn_ca (goodIn_r _ [7, 1, 2, 8, 9, 10, 11, 12, 13, 14, 15, 16, 17, 18, 19, 20, 21, 22, 23, 24, 6, 25, 26, 27, 29, 30, 31, 32, 33, 34, 35, 36, 37, 38, 39, 40, 41, 42, 43, 44, 45, 46, 47, 48, 49, 50, 51, 52, 53, 54, 55, 56, 57] rfl (by decide +kernel)) (goodIn_sub (fun _ h => List.mem_cons_of_mem _ (List.mem_append_right _ h)) (by decide +kernel))
set_option maxRecDepth 20000 in
theorem gX12_rejectedBits_X12_acceptedBits : GoodIn wsX12_rejectedBits (wsV RX12 141 RX12 yX12_acceptedBits wsX12_acceptedBits) := goodIn_app (goodIn_of _ (by decide +kernel)) ggX12_rejectedBits_X12_acceptedBits
set_option maxRecDepth 20000 in
theorem ggX12_rejectedBits_X5_targetsOf : GoodIn wsX12_rejectedBits wsX5_targetsOf := goodIn_ca (goodIn_r _ [21, 22, 23, 24, 6, 25, 52, 53, 54, 55, 56, 57] rfl (by decide +kernel)) (goodIn_sub (fun _ h => List.mem_cons_of_mem _ (List.mem_append_right _ h)) (by decide +kernel))
set_option maxRecDepth 20000 in
theorem gX12_rejectedBits_X5_targetsOf : GoodIn wsX12_rejectedBits (wsV RX12 149 RX5 yX5_targetsOf wsX5_targetsOf) := goodIn_app (goodIn_of _ (by decide +kernel)) ggX12_rejectedBits_X5_targetsOf
theorem dX12_rejectedBits_0 : decode cX12_rejectedBits 0 = .ok (.aload_n 0, 1) := by decide +kernel
theorem dX12_rejectedBits_1 : decode cX12_rejectedBits 1 = .ok (.getfield 10, 3) := by decide +kernel
theorem dX12_rejectedBits_4 : decode cX12_rejectedBits 4 = .ok (.getfield 85, 3) := by decide +kernel
theorem dX12_rejectedBits_7 : decode cX12_rejectedBits 7 = .ok (.aload_n 0, 1) := by decide +kernel
theorem dX12_rejectedBits_8 : decode cX12_rejectedBits 8 = .ok (.invokevirtual 141, 3) := by decide +kernel
theorem dX12_rejectedBits_11 : decode cX12_rejectedBits 11 = .ok (.invokevirtual 149, 3) := by decide +kernel
theorem dX12_rejectedBits_14 : decode cX12_rejectedBits 14 = .ok (.ireturn, 1) := by decide +kernel
set_option maxRecDepth 20000 in
theorem ggX12_positions_X9_byTrying : GoodIn wsX12_positions wsX9_byTrying := goodIn_ca (goodIn_r _ [6, 7, 8, 9, 10, 11, 12, 13, 14, 15, 16, 17, 5, 18, 19, 20, 21, 22, 23, 24, 25, 26, 27, 28, 29, 30, 54, 55, 56, 57, 58, 59] rfl (by decide +kernel)) (goodIn_sub (fun _ h => List.mem_cons_of_mem _ (List.mem_append_right _ h)) (by decide +kernel))
set_option maxRecDepth 20000 in
theorem gX12_positions_X9_byTrying : GoodIn wsX12_positions (va_wsS RX12 152 yX9_byTrying wsX9_byTrying) := goodIn_app (goodIn_of _ (by decide +kernel)) ggX12_positions_X9_byTrying
theorem dX12_positions_0 : decode cX12_positions 0 = .ok (.aload_n 0, 1) := by decide +kernel
theorem dX12_positions_1 : decode cX12_positions 1 = .ok (.getfield 10, 3) := by decide +kernel
theorem dX12_positions_4 : decode cX12_positions 4 = .ok (.getfield 85, 3) := by decide +kernel
theorem dX12_positions_7 : decode cX12_positions 7 = .ok (.invokestatic 152, 3) := by decide +kernel
theorem dX12_positions_10 : decode cX12_positions 10 = .ok (.ireturn, 1) := by decide +kernel
set_option maxRecDepth 20000 in
theorem ggX12_positionsByDeciding_X9_byDeciding : GoodIn wsX12_positionsByDeciding wsX9_byDeciding := goodIn_ca (goodIn_r _ [6, 7, 8, 5, 9, 10, 11, 12, 13, 14, 15, 16, 17, 18, 19, 20, 21, 22, 23, 24, 25, 26, 27, 28, 29, 53, 54, 55, 56, 57, 58] rfl (by decide +kernel)) (goodIn_sub (fun _ h => List.mem_cons_of_mem _ (List.mem_append_right _ h)) (by decide +kernel))
set_option maxRecDepth 20000 in
theorem gX12_positionsByDeciding_X9_byDeciding : GoodIn wsX12_positionsByDeciding (va_wsS RX12 157 yX9_byDeciding wsX9_byDeciding) := goodIn_app (goodIn_of _ (by decide +kernel)) ggX12_positionsByDeciding_X9_byDeciding
theorem dX12_positionsByDeciding_0 : decode cX12_positionsByDeciding 0 = .ok (.aload_n 0, 1) := by decide +kernel
theorem dX12_positionsByDeciding_1 : decode cX12_positionsByDeciding 1 = .ok (.getfield 10, 3) := by decide +kernel
theorem dX12_positionsByDeciding_4 : decode cX12_positionsByDeciding 4 = .ok (.getfield 85, 3) := by decide +kernel
theorem dX12_positionsByDeciding_7 : decode cX12_positionsByDeciding 7 = .ok (.invokestatic 157, 3) := by decide +kernel
theorem dX12_positionsByDeciding_10 : decode cX12_positionsByDeciding 10 = .ok (.ireturn, 1) := by decide +kernel
set_option maxRecDepth 20000 in
theorem ggX12_heaviestWeight_X12_heaviestBits : GoodIn wsX12_heaviestWeight wsX12_heaviestBits := goodIn_ca (goodIn_r _ [7, 1, 2, 8, 9, 10, 11, 12, 13, 14, 15, 16, 17, 18, 6, 19, 20, 21, 22, 23, 24, 25, 26, 27, 28, 29, 30, 31, 32, 33, 34, 35, 36, 37, 38, 39, 40, 41, 42, 44, 45, 46, 47, 48, 49, 50, 51, 52, 53, 54, 55, 56, 57, 58, 59, 60, 61, 62, 63, 64, 65, 66, 67, 68, 69, 70, 71, 72] rfl (by decide +kernel)) (goodIn_sub (fun _ h => List.mem_cons_of_mem _ (List.mem_append_right _ h)) (by decide +kernel))
set_option maxRecDepth 20000 in
theorem gX12_heaviestWeight_X12_heaviestBits : GoodIn wsX12_heaviestWeight (wsV RX12 160 RX12 yX12_heaviestBits wsX12_heaviestBits) := goodIn_app (goodIn_of _ (by decide +kernel)) ggX12_heaviestWeight_X12_heaviestBits
set_option maxRecDepth 20000 in
theorem ggX12_heaviestWeight_X5_weightOfSet : GoodIn wsX12_heaviestWeight wsX5_weightOfSet := goodIn_ca (goodIn_r _ [41, 17, 42, 28, 6, 29, 67, 68, 69, 70, 71, 72] rfl (by decide +kernel)) (goodIn_sub (fun _ h => List.mem_cons_of_mem _ (List.mem_append_right _ h)) (by decide +kernel))
set_option maxRecDepth 20000 in
theorem gX12_heaviestWeight_X5_weightOfSet : GoodIn wsX12_heaviestWeight (wsV RX12 163 RX5 yX5_weightOfSet wsX5_weightOfSet) := goodIn_app (goodIn_of _ (by decide +kernel)) ggX12_heaviestWeight_X5_weightOfSet
theorem dX12_heaviestWeight_0 : decode cX12_heaviestWeight 0 = .ok (.aload_n 0, 1) := by decide +kernel
theorem dX12_heaviestWeight_1 : decode cX12_heaviestWeight 1 = .ok (.getfield 10, 3) := by decide +kernel
theorem dX12_heaviestWeight_4 : decode cX12_heaviestWeight 4 = .ok (.getfield 85, 3) := by decide +kernel
theorem dX12_heaviestWeight_7 : decode cX12_heaviestWeight 7 = .ok (.aload_n 0, 1) := by decide +kernel
theorem dX12_heaviestWeight_8 : decode cX12_heaviestWeight 8 = .ok (.invokevirtual 160, 3) := by decide +kernel
theorem dX12_heaviestWeight_11 : decode cX12_heaviestWeight 11 = .ok (.invokevirtual 163, 3) := by decide +kernel
theorem dX12_heaviestWeight_14 : decode cX12_heaviestWeight 14 = .ok (.ireturn, 1) := by decide +kernel
set_option maxRecDepth 20000 in
theorem ggX12_heaviestBits_X9_heaviest : GoodIn wsX12_heaviestBits wsX9_heaviest := goodIn_ca (goodIn_r _ [6, 7, 8, 9, 10, 11, 12, 13, 14, 15, 16, 17, 5, 18, 19, 20, 21, 22, 23, 24, 25, 26, 27, 28, 29, 30, 31, 32, 33, 34, 35, 36, 37, 38, 62, 63, 64, 65, 66, 67] rfl (by decide +kernel)) (goodIn_sub (fun _ h => List.mem_cons_of_mem _ (List.mem_append_right _ h)) (by decide +kernel))
set_option maxRecDepth 20000 in
theorem gX12_heaviestBits_X9_heaviest : GoodIn wsX12_heaviestBits (va_wsS RX12 166 yX9_heaviest wsX9_heaviest) := goodIn_app (goodIn_of _ (by decide +kernel)) ggX12_heaviestBits_X9_heaviest
theorem dX12_heaviestBits_0 : decode cX12_heaviestBits 0 = .ok (.aload_n 0, 1) := by decide +kernel
theorem dX12_heaviestBits_1 : decode cX12_heaviestBits 1 = .ok (.getfield 10, 3) := by decide +kernel
theorem dX12_heaviestBits_4 : decode cX12_heaviestBits 4 = .ok (.getfield 85, 3) := by decide +kernel
theorem dX12_heaviestBits_7 : decode cX12_heaviestBits 7 = .ok (.invokestatic 166, 3) := by decide +kernel
theorem dX12_heaviestBits_10 : decode cX12_heaviestBits 10 = .ok (.ireturn, 1) := by decide +kernel
set_option maxRecDepth 20000 in
theorem ggX12_isPosition_X5_all : GoodIn wsX12_isPosition wsX5_all := goodIn_r _ [9, 10, 11, 12, 13, 53, 54, 55, 56, 57, 58] rfl (by decide +kernel)
set_option maxRecDepth 20000 in
theorem gX12_isPosition_X5_all : GoodIn wsX12_isPosition (wsV RX12 138 RX5 yX5_all wsX5_all) := goodIn_app (goodIn_of _ (by decide +kernel)) ggX12_isPosition_X5_all
set_option maxRecDepth 20000 in
theorem ggX12_isPosition_X9_holds : GoodIn wsX12_isPosition wsX9_holds := goodIn_ca (goodIn_r _ [17, 18, 19, 20, 8, 21, 10, 22, 23, 12, 24, 25, 26, 27, 28, 29, 53, 54, 55, 56, 57, 58] rfl (by decide +kernel)) (goodIn_sub (fun _ h => List.mem_cons_of_mem _ (List.mem_append_right _ h)) (by decide +kernel))
set_option maxRecDepth 20000 in
theorem gX12_isPosition_X9_holds : GoodIn wsX12_isPosition (va_wsS RX12 176 yX9_holds wsX9_holds) := goodIn_app (goodIn_of _ (by decide +kernel)) ggX12_isPosition_X9_holds
theorem dX12_isPosition_0 : decode cX12_isPosition 0 = .ok (.iload_n 1, 1) := by decide +kernel
theorem dX12_isPosition_1 : decode cX12_isPosition 1 = .ok (.ifCond .lt 17, 3) := by decide +kernel
theorem dX12_isPosition_4 : decode cX12_isPosition 4 = .ok (.iload_n 1, 1) := by decide +kernel
theorem dX12_isPosition_5 : decode cX12_isPosition 5 = .ok (.aload_n 0, 1) := by decide +kernel
theorem dX12_isPosition_6 : decode cX12_isPosition 6 = .ok (.getfield 10, 3) := by decide +kernel
theorem dX12_isPosition_9 : decode cX12_isPosition 9 = .ok (.getfield 85, 3) := by decide +kernel
theorem dX12_isPosition_12 : decode cX12_isPosition 12 = .ok (.invokevirtual 138, 3) := by decide +kernel
theorem dX12_isPosition_15 : decode cX12_isPosition 15 = .ok (.if_icmp .le 13, 3) := by decide +kernel
theorem dX12_isPosition_18 : decode cX12_isPosition 18 = .ok (.new 169, 3) := by decide +kernel
theorem dX12_isPosition_21 : decode cX12_isPosition 21 = .ok (.dup, 1) := by decide +kernel
theorem dX12_isPosition_22 : decode cX12_isPosition 22 = .ok (.ldc 171, 2) := by decide +kernel
theorem dX12_isPosition_24 : decode cX12_isPosition 24 = .ok (.invokespecial 173, 3) := by decide +kernel
theorem dX12_isPosition_27 : decode cX12_isPosition 27 = .ok (.athrow, 1) := by decide +kernel
theorem dX12_isPosition_28 : decode cX12_isPosition 28 = .ok (.aload_n 0, 1) := by decide +kernel
theorem dX12_isPosition_29 : decode cX12_isPosition 29 = .ok (.getfield 10, 3) := by decide +kernel
theorem dX12_isPosition_32 : decode cX12_isPosition 32 = .ok (.getfield 85, 3) := by decide +kernel
theorem dX12_isPosition_35 : decode cX12_isPosition 35 = .ok (.iload_n 1, 1) := by decide +kernel
theorem dX12_isPosition_36 : decode cX12_isPosition 36 = .ok (.invokestatic 176, 3) := by decide +kernel
theorem dX12_isPosition_39 : decode cX12_isPosition 39 = .ok (.ireturn, 1) := by decide +kernel
set_option maxRecDepth 20000 in
theorem ggX12_circles_X4_bySearches : GoodIn wsX12_circles wsX4_bySearches := goodIn_ca (goodIn_r _ [6, 7, 8, 9, 10, 11, 12, 5, 13, 14, 15, 16, 17, 18, 19, 20, 21, 22, 23, 24, 25, 26, 27, 28, 29, 30, 54, 55, 56, 57, 58, 59] rfl (by decide +kernel)) (goodIn_sub (fun _ h => List.mem_cons_of_mem _ (List.mem_append_right _ h)) (by decide +kernel))
set_option maxRecDepth 20000 in
theorem gX12_circles_X4_bySearches : GoodIn wsX12_circles (va_wsS RX12 180 yX4_bySearches wsX4_bySearches) := goodIn_app (goodIn_of _ (by decide +kernel)) ggX12_circles_X4_bySearches
theorem dX12_circles_0 : decode cX12_circles 0 = .ok (.aload_n 0, 1) := by decide +kernel
theorem dX12_circles_1 : decode cX12_circles 1 = .ok (.getfield 10, 3) := by decide +kernel
theorem dX12_circles_4 : decode cX12_circles 4 = .ok (.getfield 85, 3) := by decide +kernel
theorem dX12_circles_7 : decode cX12_circles 7 = .ok (.invokestatic 180, 3) := by decide +kernel
theorem dX12_circles_10 : decode cX12_circles 10 = .ok (.ireturn, 1) := by decide +kernel
set_option maxRecDepth 20000 in
theorem ggX12_circlesByReach_X4_byReach : GoodIn wsX12_circlesByReach wsX4_byReach := goodIn_ca (goodIn_r _ [8, 9, 10, 11, 12, 7, 13, 14, 15, 16, 17, 18, 19, 20, 21, 22, 23, 24, 48, 49, 50, 51, 52, 53, 54] rfl (by decide +kernel)) (goodIn_sub (fun _ h => List.mem_cons_of_mem _ (List.mem_append_right _ h)) (by decide +kernel))
set_option maxRecDepth 20000 in
theorem gX12_circlesByReach_X4_byReach : GoodIn wsX12_circlesByReach (wsV RX12 183 RX4 yX4_byReach wsX4_byReach) := goodIn_app (goodIn_of _ (by decide +kernel)) ggX12_circlesByReach_X4_byReach
theorem dX12_circlesByReach_0 : decode cX12_circlesByReach 0 = .ok (.aload_n 0, 1) := by decide +kernel
theorem dX12_circlesByReach_1 : decode cX12_circlesByReach 1 = .ok (.getfield 70, 3) := by decide +kernel
theorem dX12_circlesByReach_4 : decode cX12_circlesByReach 4 = .ok (.aload_n 0, 1) := by decide +kernel
theorem dX12_circlesByReach_5 : decode cX12_circlesByReach 5 = .ok (.getfield 10, 3) := by decide +kernel
theorem dX12_circlesByReach_8 : decode cX12_circlesByReach 8 = .ok (.getfield 85, 3) := by decide +kernel
theorem dX12_circlesByReach_11 : decode cX12_circlesByReach 11 = .ok (.invokevirtual 183, 3) := by decide +kernel
theorem dX12_circlesByReach_14 : decode cX12_circlesByReach 14 = .ok (.ireturn, 1) := by decide +kernel
set_option maxRecDepth 20000 in
theorem ggX12_circleSize_X12_needClaim : GoodIn wsX12_circleSize wsX12_needClaim := goodIn_ca (goodIn_r _ [7, 8, 9, 1, 2, 10, 11, 12, 13, 14, 15, 45, 46, 47, 48, 49, 50, 51, 52, 53, 54, 55, 56, 57, 58, 59, 60, 61, 62, 63, 64, 65, 66, 67, 68, 69, 70, 71, 72, 73] rfl (by decide +kernel)) (goodIn_sub (fun _ h => List.mem_cons_of_mem _ (List.mem_append_left _ (List.mem_append_right _ h))) (by decide +kernel))
set_option maxRecDepth 20000 in
theorem gX12_circleSize_X12_needClaim : GoodIn wsX12_circleSize (wsV RX12 109 RX12 yX12_needClaim wsX12_needClaim) := goodIn_app (goodIn_of _ (by decide +kernel)) ggX12_circleSize_X12_needClaim
set_option maxRecDepth 20000 in
theorem ggX12_circleSize_X4_around : GoodIn wsX12_circleSize wsX4_around := goodIn_ca (goodIn_r _ [19, 20, 21, 18, 22, 23, 24, 6, 25, 26, 27, 28, 13, 29, 15, 30, 31, 32, 33, 34, 35, 36, 37, 68, 69, 70, 71, 72, 73] rfl (by decide +kernel)) (goodIn_sub (fun _ h => List.mem_cons_of_mem _ (List.mem_append_right _ h)) (by decide +kernel))
set_option maxRecDepth 20000 in
theorem gX12_circleSize_X4_around : GoodIn wsX12_circleSize (va_wsS RX12 186 yX4_around wsX4_around) := goodIn_app (goodIn_of _ (by decide +kernel)) ggX12_circleSize_X4_around
set_option maxRecDepth 20000 in
theorem ggX12_circleSize_J6_bitCount_0f7a4 : GoodIn wsX12_circleSize wsJ6_bitCount_0f7a4 := goodIn_r _ [41, 42, 43, 44] rfl (by decide +kernel)
set_option maxRecDepth 20000 in
theorem gX12_circleSize_J6_bitCount_0f7a4 : GoodIn wsX12_circleSize (va_wsS RX12 144 yJ6_bitCount_0f7a4 wsJ6_bitCount_0f7a4) := goodIn_app (goodIn_of _ (by decide +kernel)) ggX12_circleSize_J6_bitCount_0f7a4
theorem dX12_circleSize_0 : decode cX12_circleSize 0 = .ok (.aload_n 0, 1) := by decide +kernel
theorem dX12_circleSize_1 : decode cX12_circleSize 1 = .ok (.iload_n 1, 1) := by decide +kernel
theorem dX12_circleSize_2 : decode cX12_circleSize 2 = .ok (.invokevirtual 109, 3) := by decide +kernel
theorem dX12_circleSize_5 : decode cX12_circleSize 5 = .ok (.aload_n 0, 1) := by decide +kernel
theorem dX12_circleSize_6 : decode cX12_circleSize 6 = .ok (.getfield 10, 3) := by decide +kernel
theorem dX12_circleSize_9 : decode cX12_circleSize 9 = .ok (.getfield 85, 3) := by decide +kernel
theorem dX12_circleSize_12 : decode cX12_circleSize 12 = .ok (.iload_n 1, 1) := by decide +kernel
theorem dX12_circleSize_13 : decode cX12_circleSize 13 = .ok (.invokestatic 186, 3) := by decide +kernel
theorem dX12_circleSize_16 : decode cX12_circleSize 16 = .ok (.invokestatic 144, 3) := by decide +kernel
theorem dX12_circleSize_19 : decode cX12_circleSize 19 = .ok (.ireturn, 1) := by decide +kernel
set_option maxRecDepth 20000 in
theorem ggX12_chains_X12_needChain : GoodIn wsX12_chains wsX12_needChain := goodIn_ca (goodIn_ca (goodIn_r _ [8, 9, 10, 11, 12, 13, 7, 14, 15, 16, 2, 3, 17, 18, 19, 20, 21, 22, 61, 62, 63, 64, 65, 66, 67, 68, 69, 70, 71, 72, 73, 74, 75, 76, 77, 78, 79, 80, 81, 82, 83, 84, 85, 86, 87, 88, 89] rfl (by decide +kernel)) (goodIn_sub (fun _ h => List.mem_cons_of_mem _ (List.mem_append_left _ (List.mem_append_left _ (List.mem_append_right _ h)))) (by decide +kernel))) (goodIn_sub (fun _ h => List.mem_cons_of_mem _ (List.mem_append_left _ (List.mem_append_right _ h))) (by decide +kernel))
set_option maxRecDepth 20000 in
theorem gX12_chains_X12_needChain : GoodIn wsX12_chains (wsV RX12 190 RX12 yX12_needChain wsX12_needChain) := goodIn_app (goodIn_of _ (by decide +kernel)) ggX12_chains_X12_needChain
set_option maxRecDepth 20000 in
theorem ggX12_chains_X3_bySquaring : GoodIn wsX12_chains wsX3_bySquaring := goodIn_ca (goodIn_r _ [27, 28, 29, 30, 31, 32, 26, 33, 34, 35, 36, 7, 37, 38, 39, 40, 41, 42, 43, 44, 45, 46, 47, 48, 49, 50, 51, 52, 53, 54, 55, 56, 57, 58, 59, 60, 84, 85, 86, 87, 88, 89, 90, 91, 92, 93] rfl (by decide +kernel)) (goodIn_sub (fun _ h => List.mem_cons_of_mem _ (List.mem_append_right _ h)) (by decide +kernel))
set_option maxRecDepth 20000 in
theorem gX12_chains_X3_bySquaring : GoodIn wsX12_chains (wsV RX12 194 RX3 yX3_bySquaring wsX3_bySquaring) := goodIn_app (goodIn_of _ (by decide +kernel)) ggX12_chains_X3_bySquaring
theorem dX12_chains_0 : decode cX12_chains 0 = .ok (.aload_n 0, 1) := by decide +kernel
theorem dX12_chains_1 : decode cX12_chains 1 = .ok (.iload_n 1, 1) := by decide +kernel
theorem dX12_chains_2 : decode cX12_chains 2 = .ok (.iload_n 2, 1) := by decide +kernel
theorem dX12_chains_3 : decode cX12_chains 3 = .ok (.iload_n 3, 1) := by decide +kernel
theorem dX12_chains_4 : decode cX12_chains 4 = .ok (.invokevirtual 190, 3) := by decide +kernel
theorem dX12_chains_7 : decode cX12_chains 7 = .ok (.aload_n 0, 1) := by decide +kernel
theorem dX12_chains_8 : decode cX12_chains 8 = .ok (.getfield 77, 3) := by decide +kernel
theorem dX12_chains_11 : decode cX12_chains 11 = .ok (.aload_n 0, 1) := by decide +kernel
theorem dX12_chains_12 : decode cX12_chains 12 = .ok (.getfield 10, 3) := by decide +kernel
theorem dX12_chains_15 : decode cX12_chains 15 = .ok (.getfield 85, 3) := by decide +kernel
theorem dX12_chains_18 : decode cX12_chains 18 = .ok (.iload_n 1, 1) := by decide +kernel
theorem dX12_chains_19 : decode cX12_chains 19 = .ok (.iload_n 2, 1) := by decide +kernel
theorem dX12_chains_20 : decode cX12_chains 20 = .ok (.iload_n 3, 1) := by decide +kernel
theorem dX12_chains_21 : decode cX12_chains 21 = .ok (.invokevirtual 194, 3) := by decide +kernel
theorem dX12_chains_24 : decode cX12_chains 24 = .ok (.ireturn, 1) := by decide +kernel
set_option maxRecDepth 20000 in
theorem ggX12_chainsBySteps_X12_needChain : GoodIn wsX12_chainsBySteps wsX12_needChain := goodIn_ca (goodIn_ca (goodIn_r _ [8, 9, 10, 11, 12, 13, 7, 14, 15, 16, 2, 3, 17, 18, 19, 20, 21, 22, 47, 48, 49, 50, 51, 52, 53, 54, 55, 56, 57, 58, 59, 60, 61, 62, 63, 64, 65, 66, 67, 68, 69, 70, 71, 72, 73, 74, 75] rfl (by decide +kernel)) (goodIn_sub (fun _ h => List.mem_cons_of_mem _ (List.mem_append_left _ (List.mem_append_left _ (List.mem_append_right _ h)))) (by decide +kernel))) (goodIn_sub (fun _ h => List.mem_cons_of_mem _ (List.mem_append_left _ (List.mem_append_right _ h))) (by decide +kernel))
set_option maxRecDepth 20000 in
theorem gX12_chainsBySteps_X12_needChain : GoodIn wsX12_chainsBySteps (wsV RX12 190 RX12 yX12_needChain wsX12_needChain) := goodIn_app (goodIn_of _ (by decide +kernel)) ggX12_chainsBySteps_X12_needChain
set_option maxRecDepth 20000 in
theorem ggX12_chainsBySteps_X3_byStepping : GoodIn wsX12_chainsBySteps wsX3_byStepping := goodIn_ca (goodIn_r _ [27, 28, 29, 30, 31, 32, 33, 34, 26, 35, 36, 37, 38, 39, 40, 41, 7, 42, 43, 44, 45, 46, 70, 71, 72, 73, 74, 75, 76, 77, 78, 79] rfl (by decide +kernel)) (goodIn_sub (fun _ h => List.mem_cons_of_mem _ (List.mem_append_right _ h)) (by decide +kernel))
set_option maxRecDepth 20000 in
theorem gX12_chainsBySteps_X3_byStepping : GoodIn wsX12_chainsBySteps (wsV RX12 198 RX3 yX3_byStepping wsX3_byStepping) := goodIn_app (goodIn_of _ (by decide +kernel)) ggX12_chainsBySteps_X3_byStepping
theorem dX12_chainsBySteps_0 : decode cX12_chainsBySteps 0 = .ok (.aload_n 0, 1) := by decide +kernel
theorem dX12_chainsBySteps_1 : decode cX12_chainsBySteps 1 = .ok (.iload_n 1, 1) := by decide +kernel
theorem dX12_chainsBySteps_2 : decode cX12_chainsBySteps 2 = .ok (.iload_n 2, 1) := by decide +kernel
theorem dX12_chainsBySteps_3 : decode cX12_chainsBySteps 3 = .ok (.iload_n 3, 1) := by decide +kernel
theorem dX12_chainsBySteps_4 : decode cX12_chainsBySteps 4 = .ok (.invokevirtual 190, 3) := by decide +kernel
theorem dX12_chainsBySteps_7 : decode cX12_chainsBySteps 7 = .ok (.aload_n 0, 1) := by decide +kernel
theorem dX12_chainsBySteps_8 : decode cX12_chainsBySteps 8 = .ok (.getfield 77, 3) := by decide +kernel
theorem dX12_chainsBySteps_11 : decode cX12_chainsBySteps 11 = .ok (.aload_n 0, 1) := by decide +kernel
theorem dX12_chainsBySteps_12 : decode cX12_chainsBySteps 12 = .ok (.getfield 10, 3) := by decide +kernel
theorem dX12_chainsBySteps_15 : decode cX12_chainsBySteps 15 = .ok (.getfield 85, 3) := by decide +kernel
theorem dX12_chainsBySteps_18 : decode cX12_chainsBySteps 18 = .ok (.iload_n 1, 1) := by decide +kernel
theorem dX12_chainsBySteps_19 : decode cX12_chainsBySteps 19 = .ok (.iload_n 2, 1) := by decide +kernel
theorem dX12_chainsBySteps_20 : decode cX12_chainsBySteps 20 = .ok (.iload_n 3, 1) := by decide +kernel
theorem dX12_chainsBySteps_21 : decode cX12_chainsBySteps 21 = .ok (.invokevirtual 198, 3) := by decide +kernel
theorem dX12_chainsBySteps_24 : decode cX12_chainsBySteps 24 = .ok (.ireturn, 1) := by decide +kernel
set_option maxRecDepth 20000 in
theorem ggX12_needChain_X12_needClaim : GoodIn wsX12_needChain wsX12_needClaim := goodIn_ca (goodIn_r _ [7, 8, 9, 10, 11, 12, 13, 14, 15, 16, 17, 18, 19, 20, 21, 22, 23, 24, 25, 26, 27, 28, 29, 30, 31, 32, 33, 34, 35, 36, 37, 38, 39, 40, 41, 42, 43, 44, 45, 46] rfl (by decide +kernel)) (goodIn_sub (fun _ h => List.mem_cons_of_mem _ (List.mem_append_right _ h)) (by decide +kernel))
set_option maxRecDepth 20000 in
theorem gX12_needChain_X12_needClaim : GoodIn wsX12_needChain (wsV RX12 109 RX12 yX12_needClaim wsX12_needClaim) := goodIn_app (goodIn_of _ (by decide +kernel)) ggX12_needChain_X12_needClaim
theorem dX12_needChain_0 : decode cX12_needChain 0 = .ok (.aload_n 0, 1) := by decide +kernel
theorem dX12_needChain_1 : decode cX12_needChain 1 = .ok (.iload_n 1, 1) := by decide +kernel
theorem dX12_needChain_2 : decode cX12_needChain 2 = .ok (.invokevirtual 109, 3) := by decide +kernel
theorem dX12_needChain_5 : decode cX12_needChain 5 = .ok (.aload_n 0, 1) := by decide +kernel
theorem dX12_needChain_6 : decode cX12_needChain 6 = .ok (.iload_n 2, 1) := by decide +kernel
theorem dX12_needChain_7 : decode cX12_needChain 7 = .ok (.invokevirtual 109, 3) := by decide +kernel
theorem dX12_needChain_10 : decode cX12_needChain 10 = .ok (.iload_n 3, 1) := by decide +kernel
theorem dX12_needChain_11 : decode cX12_needChain 11 = .ok (.ifCond .lt 10, 3) := by decide +kernel
theorem dX12_needChain_14 : decode cX12_needChain 14 = .ok (.iload_n 3, 1) := by decide +kernel
theorem dX12_needChain_15 : decode cX12_needChain 15 = .ok (.sipush 999, 3) := by decide +kernel
theorem dX12_needChain_18 : decode cX12_needChain 18 = .ok (.if_icmp .le 13, 3) := by decide +kernel
theorem dX12_needChain_21 : decode cX12_needChain 21 = .ok (.new 169, 3) := by decide +kernel
theorem dX12_needChain_24 : decode cX12_needChain 24 = .ok (.dup, 1) := by decide +kernel
theorem dX12_needChain_25 : decode cX12_needChain 25 = .ok (.ldc 201, 2) := by decide +kernel
theorem dX12_needChain_27 : decode cX12_needChain 27 = .ok (.invokespecial 173, 3) := by decide +kernel
theorem dX12_needChain_30 : decode cX12_needChain 30 = .ok (.athrow, 1) := by decide +kernel
theorem dX12_needChain_31 : decode cX12_needChain 31 = .ok (.return_, 1) := by decide +kernel
set_option maxRecDepth 20000 in
theorem ggX12_setRack_X11_copyFrom : GoodIn wsX12_setRack wsX11_copyFrom := goodIn_ca (goodIn_r _ [8, 9, 10, 11, 12, 13, 14, 15, 16, 17, 18, 19, 20, 21, 22, 23, 24, 25, 26, 27, 28, 29, 30, 31, 32, 33, 34, 35, 36, 37, 38, 39, 40, 41, 42, 43, 44, 45, 100, 101, 102, 103, 104, 105, 106, 107, 108, 109, 110, 111, 112, 113, 114, 115, 116, 117, 118] rfl (by decide +kernel)) (goodIn_sub (fun _ h => List.mem_cons_of_mem _ (List.mem_append_left _ (List.mem_append_left _ (List.mem_append_left _ (List.mem_append_left _ (List.mem_append_left _ (List.mem_append_right _ h))))))) (by decide +kernel))
set_option maxRecDepth 20000 in
theorem gX12_setRack_X11_copyFrom : GoodIn wsX12_setRack (wsV RX12 81 RX11 yX11_copyFrom wsX11_copyFrom) := goodIn_app (goodIn_of _ (by decide +kernel)) ggX12_setRack_X11_copyFrom
set_option maxRecDepth 20000 in
theorem ggX12_setRack_X10_renew : GoodIn wsX12_setRack wsX10_renew := goodIn_ca (goodIn_r _ [49, 35, 50, 51, 52, 53, 54, 55, 33, 56, 36, 57, 58, 59, 113, 114] rfl (by decide +kernel)) (goodIn_sub (fun _ h => List.mem_cons_of_mem _ (List.mem_append_left _ (List.mem_append_left _ (List.mem_append_left _ (List.mem_append_left _ (List.mem_append_left _ (List.mem_append_right _ h))))))) (by decide +kernel))
set_option maxRecDepth 20000 in
theorem gX12_setRack_X10_renew : GoodIn wsX12_setRack (wsV RX12 207 RX10 yX10_renew wsX10_renew) := goodIn_app (goodIn_of _ (by decide +kernel)) ggX12_setRack_X10_renew
set_option maxRecDepth 20000 in
theorem ggX12_setRack_X12_settled : GoodIn wsX12_setRack wsX12_settled := goodIn_ca (goodIn_ca (goodIn_ca (goodIn_ca (goodIn_ca (goodIn_r _ [63, 64, 65, 1, 66, 67, 68, 69, 70, 71, 72, 51, 73, 74, 75, 76, 77, 78, 79, 80, 81, 82, 83, 84, 85, 86, 87, 88, 89, 90, 91, 92, 93, 94, 95, 96, 97, 98, 99] rfl (by decide +kernel)) (goodIn_sub (fun _ h => List.mem_cons_of_mem _ (List.mem_append_left _ (List.mem_append_left _ (List.mem_append_left _ (List.mem_append_left _ (List.mem_append_right _ h)))))) (by decide +kernel))) (goodIn_sub (fun _ h => List.mem_cons_of_mem _ (List.mem_append_left _ (List.mem_append_left _ (List.mem_append_left _ (List.mem_append_right _ h))))) (by decide +kernel))) (goodIn_sub (fun _ h => List.mem_cons_of_mem _ (List.mem_append_left _ (List.mem_append_left _ (List.mem_append_right _ h)))) (by decide +kernel))) (goodIn_sub (fun _ h => List.mem_cons_of_mem _ (List.mem_append_left _ (List.mem_append_right _ h))) (by decide +kernel))) (goodIn_sub (fun _ h => List.mem_cons_of_mem _ (List.mem_append_right _ h)) (by decide +kernel))
set_option maxRecDepth 20000 in
theorem gX12_setRack_X12_settled : GoodIn wsX12_setRack (wsV RX12 95 RX12 yX12_settled wsX12_settled) := goodIn_app (goodIn_of _ (by decide +kernel)) ggX12_setRack_X12_settled
theorem dX12_setRack_0 : decode cX12_setRack 0 = .ok (.aload_n 0, 1) := by decide +kernel
theorem dX12_setRack_1 : decode cX12_setRack 1 = .ok (.getfield 16, 3) := by decide +kernel
theorem dX12_setRack_4 : decode cX12_setRack 4 = .ok (.aload_n 0, 1) := by decide +kernel
theorem dX12_setRack_5 : decode cX12_setRack 5 = .ok (.getfield 10, 3) := by decide +kernel
theorem dX12_setRack_8 : decode cX12_setRack 8 = .ok (.invokevirtual 81, 3) := by decide +kernel
theorem dX12_setRack_11 : decode cX12_setRack 11 = .ok (.aload_n 0, 1) := by decide +kernel
theorem dX12_setRack_12 : decode cX12_setRack 12 = .ok (.aload_n 0, 1) := by decide +kernel
theorem dX12_setRack_13 : decode cX12_setRack 13 = .ok (.getfield 10, 3) := by decide +kernel
theorem dX12_setRack_16 : decode cX12_setRack 16 = .ok (.getfield 203, 3) := by decide +kernel
theorem dX12_setRack_19 : decode cX12_setRack 19 = .ok (.iload_n 1, 1) := by decide +kernel
theorem dX12_setRack_20 : decode cX12_setRack 20 = .ok (.iload_n 2, 1) := by decide +kernel
theorem dX12_setRack_21 : decode cX12_setRack 21 = .ok (.invokevirtual 207, 3) := by decide +kernel
theorem dX12_setRack_24 : decode cX12_setRack 24 = .ok (.invokevirtual 95, 3) := by decide +kernel
theorem dX12_setRack_27 : decode cX12_setRack 27 = .ok (.i2c, 1) := by decide +kernel
theorem dX12_setRack_28 : decode cX12_setRack 28 = .ok (.ireturn, 1) := by decide +kernel
set_option maxRecDepth 20000 in
theorem ggX12_insert_X11_copyFrom : GoodIn wsX12_insert wsX11_copyFrom := goodIn_ca (goodIn_r _ [7, 8, 9, 10, 11, 12, 13, 14, 15, 16, 17, 18, 19, 20, 21, 22, 23, 24, 25, 26, 27, 28, 29, 30, 31, 32, 33, 34, 35, 36, 37, 38, 39, 40, 41, 42, 43, 44, 114, 115, 116, 117, 118, 119, 120, 121, 122, 123, 124, 125, 126, 127, 128, 129, 130, 131, 132] rfl (by decide +kernel)) (goodIn_sub (fun _ h => List.mem_cons_of_mem _ (List.mem_append_left _ (List.mem_append_left _ (List.mem_append_left _ (List.mem_append_left _ (List.mem_append_left _ (List.mem_append_right _ h))))))) (by decide +kernel))
set_option maxRecDepth 20000 in
theorem gX12_insert_X11_copyFrom : GoodIn wsX12_insert (wsV RX12 81 RX11 yX11_copyFrom wsX11_copyFrom) := goodIn_app (goodIn_of _ (by decide +kernel)) ggX12_insert_X11_copyFrom
set_option maxRecDepth 20000 in
theorem ggX12_insert_X11_put : GoodIn wsX12_insert wsX11_put := goodIn_ca (goodIn_r _ [48, 9, 10, 12, 49, 50, 51, 32, 52, 35, 53, 54, 55, 56, 57, 58, 59, 60, 61, 34, 62, 63, 64, 65, 66, 67, 68, 69, 70, 71, 39, 72, 41, 44, 42, 43, 73, 74, 75, 76, 114, 115, 116, 117, 118, 119, 120, 127, 128, 129, 130, 131, 132] rfl (by decide +kernel)) (goodIn_sub (fun _ h => List.mem_cons_of_mem _ (List.mem_append_left _ (List.mem_append_left _ (List.mem_append_left _ (List.mem_append_left _ (List.mem_append_left _ (List.mem_append_right _ h))))))) (by decide +kernel))
set_option maxRecDepth 20000 in
theorem gX12_insert_X11_put : GoodIn wsX12_insert (wsV RX12 213 RX11 yX11_put wsX11_put) := goodIn_app (goodIn_of _ (by decide +kernel)) ggX12_insert_X11_put
set_option maxRecDepth 20000 in
theorem ggX12_insert_X12_settled : GoodIn wsX12_insert wsX12_settled := goodIn_ca (goodIn_ca (goodIn_ca (goodIn_ca (goodIn_ca (goodIn_r _ [80, 81, 82, 1, 83, 84, 74, 75, 76, 85, 86, 54, 87, 88, 89, 90, 91, 92, 93, 94, 95, 96, 97, 98, 99, 100, 101, 102, 103, 104, 105, 106, 107, 108, 109, 110, 111, 112, 113] rfl (by decide +kernel)) (goodIn_sub (fun _ h => List.mem_cons_of_mem _ (List.mem_append_left _ (List.mem_append_left _ (List.mem_append_left _ (List.mem_append_left _ (List.mem_append_right _ h)))))) (by decide +kernel))) (goodIn_sub (fun _ h => List.mem_cons_of_mem _ (List.mem_append_left _ (List.mem_append_left _ (List.mem_append_left _ (List.mem_append_right _ h))))) (by decide +kernel))) (goodIn_sub (fun _ h => List.mem_cons_of_mem _ (List.mem_append_left _ (List.mem_append_left _ (List.mem_append_right _ h)))) (by decide +kernel))) (goodIn_sub (fun _ h => List.mem_cons_of_mem _ (List.mem_append_left _ (List.mem_append_right _ h))) (by decide +kernel))) (goodIn_sub (fun _ h => List.mem_cons_of_mem _ (List.mem_append_right _ h)) (by decide +kernel))
set_option maxRecDepth 20000 in
theorem gX12_insert_X12_settled : GoodIn wsX12_insert (wsV RX12 95 RX12 yX12_settled wsX12_settled) := goodIn_app (goodIn_of _ (by decide +kernel)) ggX12_insert_X12_settled
theorem dX12_insert_0 : decode cX12_insert 0 = .ok (.aload_n 0, 1) := by decide +kernel
theorem dX12_insert_1 : decode cX12_insert 1 = .ok (.getfield 16, 3) := by decide +kernel
theorem dX12_insert_4 : decode cX12_insert 4 = .ok (.aload_n 0, 1) := by decide +kernel
theorem dX12_insert_5 : decode cX12_insert 5 = .ok (.getfield 10, 3) := by decide +kernel
theorem dX12_insert_8 : decode cX12_insert 8 = .ok (.invokevirtual 81, 3) := by decide +kernel
theorem dX12_insert_11 : decode cX12_insert 11 = .ok (.aload_n 0, 1) := by decide +kernel
theorem dX12_insert_12 : decode cX12_insert 12 = .ok (.aload_n 0, 1) := by decide +kernel
theorem dX12_insert_13 : decode cX12_insert 13 = .ok (.getfield 10, 3) := by decide +kernel
theorem dX12_insert_16 : decode cX12_insert 16 = .ok (.iload_n 1, 1) := by decide +kernel
theorem dX12_insert_17 : decode cX12_insert 17 = .ok (.iload_n 2, 1) := by decide +kernel
theorem dX12_insert_18 : decode cX12_insert 18 = .ok (.iload_n 3, 1) := by decide +kernel
theorem dX12_insert_19 : decode cX12_insert 19 = .ok (.invokevirtual 213, 3) := by decide +kernel
theorem dX12_insert_22 : decode cX12_insert 22 = .ok (.invokevirtual 95, 3) := by decide +kernel
theorem dX12_insert_25 : decode cX12_insert 25 = .ok (.ireturn, 1) := by decide +kernel
set_option maxRecDepth 20000 in
theorem ggX12_withdraw_X11_copyFrom : GoodIn wsX12_withdraw wsX11_copyFrom := goodIn_ca (goodIn_r _ [7, 8, 9, 10, 11, 12, 13, 14, 15, 16, 17, 18, 19, 20, 21, 22, 23, 24, 25, 26, 27, 28, 29, 30, 31, 32, 33, 34, 35, 36, 37, 38, 39, 40, 41, 42, 43, 44, 103, 104, 105, 106, 107, 108, 109, 110, 111, 112, 113, 114, 115, 116, 117, 118, 119, 120, 121] rfl (by decide +kernel)) (goodIn_sub (fun _ h => List.mem_cons_of_mem _ (List.mem_append_left _ (List.mem_append_left _ (List.mem_append_left _ (List.mem_append_left _ (List.mem_append_left _ (List.mem_append_right _ h))))))) (by decide +kernel))
set_option maxRecDepth 20000 in
theorem gX12_withdraw_X11_copyFrom : GoodIn wsX12_withdraw (wsV RX12 81 RX11 yX11_copyFrom wsX11_copyFrom) := goodIn_app (goodIn_of _ (by decide +kernel)) ggX12_withdraw_X11_copyFrom
set_option maxRecDepth 20000 in
theorem ggX12_withdraw_X11_take : GoodIn wsX12_withdraw wsX11_take := goodIn_ca (goodIn_r _ [48, 9, 10, 12, 49, 50, 51, 32, 52, 35, 53, 54, 55, 56, 57, 58, 59, 60, 39, 61, 41, 44, 42, 43, 62, 63, 64, 65, 103, 104, 105, 106, 107, 108, 109, 116, 117, 118, 119, 120, 121] rfl (by decide +kernel)) (goodIn_sub (fun _ h => List.mem_cons_of_mem _ (List.mem_append_left _ (List.mem_append_left _ (List.mem_append_left _ (List.mem_append_left _ (List.mem_append_left _ (List.mem_append_right _ h))))))) (by decide +kernel))
set_option maxRecDepth 20000 in
theorem gX12_withdraw_X11_take : GoodIn wsX12_withdraw (wsV RX12 217 RX11 yX11_take wsX11_take) := goodIn_app (goodIn_of _ (by decide +kernel)) ggX12_withdraw_X11_take
set_option maxRecDepth 20000 in
theorem ggX12_withdraw_X12_settled : GoodIn wsX12_withdraw wsX12_settled := goodIn_ca (goodIn_ca (goodIn_ca (goodIn_ca (goodIn_ca (goodIn_r _ [69, 70, 71, 1, 72, 73, 63, 64, 65, 74, 75, 54, 76, 77, 78, 79, 80, 81, 82, 83, 84, 85, 86, 87, 88, 89, 90, 91, 92, 93, 94, 95, 96, 97, 98, 99, 100, 101, 102] rfl (by decide +kernel)) (goodIn_sub (fun _ h => List.mem_cons_of_mem _ (List.mem_append_left _ (List.mem_append_left _ (List.mem_append_left _ (List.mem_append_left _ (List.mem_append_right _ h)))))) (by decide +kernel))) (goodIn_sub (fun _ h => List.mem_cons_of_mem _ (List.mem_append_left _ (List.mem_append_left _ (List.mem_append_left _ (List.mem_append_right _ h))))) (by decide +kernel))) (goodIn_sub (fun _ h => List.mem_cons_of_mem _ (List.mem_append_left _ (List.mem_append_left _ (List.mem_append_right _ h)))) (by decide +kernel))) (goodIn_sub (fun _ h => List.mem_cons_of_mem _ (List.mem_append_left _ (List.mem_append_right _ h))) (by decide +kernel))) (goodIn_sub (fun _ h => List.mem_cons_of_mem _ (List.mem_append_right _ h)) (by decide +kernel))
set_option maxRecDepth 20000 in
theorem gX12_withdraw_X12_settled : GoodIn wsX12_withdraw (wsV RX12 95 RX12 yX12_settled wsX12_settled) := goodIn_app (goodIn_of _ (by decide +kernel)) ggX12_withdraw_X12_settled
theorem dX12_withdraw_0 : decode cX12_withdraw 0 = .ok (.aload_n 0, 1) := by decide +kernel
theorem dX12_withdraw_1 : decode cX12_withdraw 1 = .ok (.getfield 16, 3) := by decide +kernel
theorem dX12_withdraw_4 : decode cX12_withdraw 4 = .ok (.aload_n 0, 1) := by decide +kernel
theorem dX12_withdraw_5 : decode cX12_withdraw 5 = .ok (.getfield 10, 3) := by decide +kernel
theorem dX12_withdraw_8 : decode cX12_withdraw 8 = .ok (.invokevirtual 81, 3) := by decide +kernel
theorem dX12_withdraw_11 : decode cX12_withdraw 11 = .ok (.aload_n 0, 1) := by decide +kernel
theorem dX12_withdraw_12 : decode cX12_withdraw 12 = .ok (.aload_n 0, 1) := by decide +kernel
theorem dX12_withdraw_13 : decode cX12_withdraw 13 = .ok (.getfield 10, 3) := by decide +kernel
theorem dX12_withdraw_16 : decode cX12_withdraw 16 = .ok (.iload_n 1, 1) := by decide +kernel
theorem dX12_withdraw_17 : decode cX12_withdraw 17 = .ok (.iload_n 2, 1) := by decide +kernel
theorem dX12_withdraw_18 : decode cX12_withdraw 18 = .ok (.invokevirtual 217, 3) := by decide +kernel
theorem dX12_withdraw_21 : decode cX12_withdraw 21 = .ok (.invokevirtual 95, 3) := by decide +kernel
theorem dX12_withdraw_24 : decode cX12_withdraw 24 = .ok (.i2c, 1) := by decide +kernel
theorem dX12_withdraw_25 : decode cX12_withdraw 25 = .ok (.ireturn, 1) := by decide +kernel
set_option maxRecDepth 20000 in
theorem ggX12_remarkAt_X12_isLayer : GoodIn wsX12_remarkAt wsX12_isLayer := goodIn_r _ [9] rfl (by decide +kernel)
set_option maxRecDepth 20000 in
theorem gX12_remarkAt_X12_isLayer : GoodIn wsX12_remarkAt (va_wsS RX12 220 yX12_isLayer wsX12_isLayer) := goodIn_app (goodIn_of _ (by decide +kernel)) ggX12_remarkAt_X12_isLayer
set_option maxRecDepth 20000 in
theorem ggX12_remarkAt_X12_isSlot : GoodIn wsX12_remarkAt wsX12_isSlot := goodIn_r _ [12] rfl (by decide +kernel)
set_option maxRecDepth 20000 in
theorem gX12_remarkAt_X12_isSlot : GoodIn wsX12_remarkAt (va_wsS RX12 224 yX12_isSlot wsX12_isSlot) := goodIn_app (goodIn_of _ (by decide +kernel)) ggX12_remarkAt_X12_isSlot
theorem dX12_remarkAt_0 : decode cX12_remarkAt 0 = .ok (.iload_n 1, 1) := by decide +kernel
theorem dX12_remarkAt_1 : decode cX12_remarkAt 1 = .ok (.invokestatic 220, 3) := by decide +kernel
theorem dX12_remarkAt_4 : decode cX12_remarkAt 4 = .ok (.ifCond .eq 10, 3) := by decide +kernel
theorem dX12_remarkAt_7 : decode cX12_remarkAt 7 = .ok (.iload_n 2, 1) := by decide +kernel
theorem dX12_remarkAt_8 : decode cX12_remarkAt 8 = .ok (.invokestatic 224, 3) := by decide +kernel
theorem dX12_remarkAt_11 : decode cX12_remarkAt 11 = .ok (.ifCond .ne 13, 3) := by decide +kernel
theorem dX12_remarkAt_14 : decode cX12_remarkAt 14 = .ok (.new 227, 3) := by decide +kernel
theorem dX12_remarkAt_17 : decode cX12_remarkAt 17 = .ok (.dup, 1) := by decide +kernel
theorem dX12_remarkAt_18 : decode cX12_remarkAt 18 = .ok (.ldc 229, 2) := by decide +kernel
theorem dX12_remarkAt_20 : decode cX12_remarkAt 20 = .ok (.invokespecial 231, 3) := by decide +kernel
theorem dX12_remarkAt_23 : decode cX12_remarkAt 23 = .ok (.athrow, 1) := by decide +kernel
theorem dX12_remarkAt_24 : decode cX12_remarkAt 24 = .ok (.aload_n 0, 1) := by decide +kernel
theorem dX12_remarkAt_25 : decode cX12_remarkAt 25 = .ok (.getfield 10, 3) := by decide +kernel
theorem dX12_remarkAt_28 : decode cX12_remarkAt 28 = .ok (.getfield 203, 3) := by decide +kernel
theorem dX12_remarkAt_31 : decode cX12_remarkAt 31 = .ok (.getfield 232, 3) := by decide +kernel
theorem dX12_remarkAt_34 : decode cX12_remarkAt 34 = .ok (.iload_n 1, 1) := by decide +kernel
theorem dX12_remarkAt_35 : decode cX12_remarkAt 35 = .ok (.iconst 3, 1) := by decide +kernel
theorem dX12_remarkAt_36 : decode cX12_remarkAt 36 = .ok (.imul, 1) := by decide +kernel
theorem dX12_remarkAt_37 : decode cX12_remarkAt 37 = .ok (.iload_n 2, 1) := by decide +kernel
theorem dX12_remarkAt_38 : decode cX12_remarkAt 38 = .ok (.iadd, 1) := by decide +kernel
theorem dX12_remarkAt_39 : decode cX12_remarkAt 39 = .ok (.caload, 1) := by decide +kernel
theorem dX12_remarkAt_40 : decode cX12_remarkAt 40 = .ok (.ireturn, 1) := by decide +kernel
set_option maxRecDepth 20000 in
theorem ggX12_depthOf_X12_isLayer : GoodIn wsX12_depthOf wsX12_isLayer := goodIn_r _ [8] rfl (by decide +kernel)
set_option maxRecDepth 20000 in
theorem gX12_depthOf_X12_isLayer : GoodIn wsX12_depthOf (va_wsS RX12 220 yX12_isLayer wsX12_isLayer) := goodIn_app (goodIn_of _ (by decide +kernel)) ggX12_depthOf_X12_isLayer
set_option maxRecDepth 20000 in
theorem ggX12_depthOf_X10_depth : GoodIn wsX12_depthOf wsX10_depth := goodIn_ca (goodIn_r _ [13, 14, 15, 16, 12, 17, 41, 42] rfl (by decide +kernel)) (goodIn_sub (fun _ h => List.mem_cons_of_mem _ (List.mem_append_right _ h)) (by decide +kernel))
set_option maxRecDepth 20000 in
theorem gX12_depthOf_X10_depth : GoodIn wsX12_depthOf (wsV RX12 237 RX10 yX10_depth wsX10_depth) := goodIn_app (goodIn_of _ (by decide +kernel)) ggX12_depthOf_X10_depth
theorem dX12_depthOf_0 : decode cX12_depthOf 0 = .ok (.iload_n 1, 1) := by decide +kernel
theorem dX12_depthOf_1 : decode cX12_depthOf 1 = .ok (.invokestatic 220, 3) := by decide +kernel
theorem dX12_depthOf_4 : decode cX12_depthOf 4 = .ok (.ifCond .ne 13, 3) := by decide +kernel
theorem dX12_depthOf_7 : decode cX12_depthOf 7 = .ok (.new 227, 3) := by decide +kernel
theorem dX12_depthOf_10 : decode cX12_depthOf 10 = .ok (.dup, 1) := by decide +kernel
theorem dX12_depthOf_11 : decode cX12_depthOf 11 = .ok (.ldc 235, 2) := by decide +kernel
theorem dX12_depthOf_13 : decode cX12_depthOf 13 = .ok (.invokespecial 231, 3) := by decide +kernel
theorem dX12_depthOf_16 : decode cX12_depthOf 16 = .ok (.athrow, 1) := by decide +kernel
theorem dX12_depthOf_17 : decode cX12_depthOf 17 = .ok (.aload_n 0, 1) := by decide +kernel
theorem dX12_depthOf_18 : decode cX12_depthOf 18 = .ok (.getfield 10, 3) := by decide +kernel
theorem dX12_depthOf_21 : decode cX12_depthOf 21 = .ok (.getfield 203, 3) := by decide +kernel
theorem dX12_depthOf_24 : decode cX12_depthOf 24 = .ok (.iload_n 1, 1) := by decide +kernel
theorem dX12_depthOf_25 : decode cX12_depthOf 25 = .ok (.invokevirtual 237, 3) := by decide +kernel
theorem dX12_depthOf_28 : decode cX12_depthOf 28 = .ok (.ireturn, 1) := by decide +kernel
set_option maxRecDepth 20000 in
theorem ggX12_excite_X11_copyFrom : GoodIn wsX12_excite wsX11_copyFrom := goodIn_ca (goodIn_r _ [9, 10, 11, 12, 13, 14, 15, 16, 17, 18, 19, 20, 21, 22, 23, 24, 25, 26, 27, 28, 29, 30, 31, 32, 33, 34, 35, 36, 37, 38, 39, 40, 41, 42, 43, 44, 45, 46, 105, 106, 107, 108, 109, 110, 111, 112, 113, 114, 115, 116, 117, 118, 119, 120, 121, 122, 123] rfl (by decide +kernel)) (goodIn_sub (fun _ h => List.mem_cons_of_mem _ (List.mem_append_left _ (List.mem_append_left _ (List.mem_append_left _ (List.mem_append_left _ (List.mem_append_left _ (List.mem_append_right _ h))))))) (by decide +kernel))
set_option maxRecDepth 20000 in
theorem gX12_excite_X11_copyFrom : GoodIn wsX12_excite (wsV RX12 81 RX11 yX11_copyFrom wsX11_copyFrom) := goodIn_app (goodIn_of _ (by decide +kernel)) ggX12_excite_X11_copyFrom
set_option maxRecDepth 20000 in
theorem ggX12_excite_X11_heat : GoodIn wsX12_excite wsX11_heat := goodIn_ca (goodIn_r _ [50, 10, 51, 12, 14, 52, 53, 54, 19, 55, 21, 56, 57, 58, 59, 60, 61, 62, 41, 63, 43, 46, 44, 45, 64, 65, 66, 67, 105, 106, 107, 108, 109, 110, 111, 112, 113, 114, 115, 116, 117, 120, 121, 122, 123] rfl (by decide +kernel)) (goodIn_sub (fun _ h => List.mem_cons_of_mem _ (List.mem_append_left _ (List.mem_append_left _ (List.mem_append_left _ (List.mem_append_left _ (List.mem_append_left _ (List.mem_append_right _ h))))))) (by decide +kernel))
set_option maxRecDepth 20000 in
theorem gX12_excite_X11_heat : GoodIn wsX12_excite (wsV RX12 240 RX11 yX11_heat wsX11_heat) := goodIn_app (goodIn_of _ (by decide +kernel)) ggX12_excite_X11_heat
set_option maxRecDepth 20000 in
theorem ggX12_excite_X12_settled : GoodIn wsX12_excite wsX12_settled := goodIn_ca (goodIn_ca (goodIn_ca (goodIn_ca (goodIn_ca (goodIn_r _ [71, 72, 73, 1, 74, 75, 65, 66, 67, 76, 77, 57, 78, 79, 80, 81, 82, 83, 84, 85, 86, 87, 88, 89, 90, 91, 92, 93, 94, 95, 96, 97, 98, 99, 100, 101, 102, 103, 104] rfl (by decide +kernel)) (goodIn_sub (fun _ h => List.mem_cons_of_mem _ (List.mem_append_left _ (List.mem_append_left _ (List.mem_append_left _ (List.mem_append_left _ (List.mem_append_right _ h)))))) (by decide +kernel))) (goodIn_sub (fun _ h => List.mem_cons_of_mem _ (List.mem_append_left _ (List.mem_append_left _ (List.mem_append_left _ (List.mem_append_right _ h))))) (by decide +kernel))) (goodIn_sub (fun _ h => List.mem_cons_of_mem _ (List.mem_append_left _ (List.mem_append_left _ (List.mem_append_right _ h)))) (by decide +kernel))) (goodIn_sub (fun _ h => List.mem_cons_of_mem _ (List.mem_append_left _ (List.mem_append_right _ h))) (by decide +kernel))) (goodIn_sub (fun _ h => List.mem_cons_of_mem _ (List.mem_append_right _ h)) (by decide +kernel))
set_option maxRecDepth 20000 in
theorem gX12_excite_X12_settled : GoodIn wsX12_excite (wsV RX12 95 RX12 yX12_settled wsX12_settled) := goodIn_app (goodIn_of _ (by decide +kernel)) ggX12_excite_X12_settled
theorem dX12_excite_0 : decode cX12_excite 0 = .ok (.aload_n 0, 1) := by decide +kernel
theorem dX12_excite_1 : decode cX12_excite 1 = .ok (.getfield 16, 3) := by decide +kernel
theorem dX12_excite_4 : decode cX12_excite 4 = .ok (.aload_n 0, 1) := by decide +kernel
theorem dX12_excite_5 : decode cX12_excite 5 = .ok (.getfield 10, 3) := by decide +kernel
theorem dX12_excite_8 : decode cX12_excite 8 = .ok (.invokevirtual 81, 3) := by decide +kernel
theorem dX12_excite_11 : decode cX12_excite 11 = .ok (.aload_n 0, 1) := by decide +kernel
theorem dX12_excite_12 : decode cX12_excite 12 = .ok (.aload_n 0, 1) := by decide +kernel
theorem dX12_excite_13 : decode cX12_excite 13 = .ok (.getfield 10, 3) := by decide +kernel
theorem dX12_excite_16 : decode cX12_excite 16 = .ok (.iload_n 1, 1) := by decide +kernel
theorem dX12_excite_17 : decode cX12_excite 17 = .ok (.iload_n 2, 1) := by decide +kernel
theorem dX12_excite_18 : decode cX12_excite 18 = .ok (.invokevirtual 240, 3) := by decide +kernel
theorem dX12_excite_21 : decode cX12_excite 21 = .ok (.invokevirtual 95, 3) := by decide +kernel
theorem dX12_excite_24 : decode cX12_excite 24 = .ok (.istore_n 3, 1) := by decide +kernel
theorem dX12_excite_25 : decode cX12_excite 25 = .ok (.aload_n 0, 1) := by decide +kernel
theorem dX12_excite_26 : decode cX12_excite 26 = .ok (.getfield 10, 3) := by decide +kernel
theorem dX12_excite_29 : decode cX12_excite 29 = .ok (.getfield 85, 3) := by decide +kernel
theorem dX12_excite_32 : decode cX12_excite 32 = .ok (.getfield 243, 3) := by decide +kernel
theorem dX12_excite_35 : decode cX12_excite 35 = .ok (.iload_n 3, 1) := by decide +kernel
theorem dX12_excite_36 : decode cX12_excite 36 = .ok (.faload, 1) := by decide +kernel
theorem dX12_excite_37 : decode cX12_excite 37 = .ok (.freturn, 1) := by decide +kernel
set_option maxRecDepth 20000 in
theorem ggX12_pass_X11_copyFrom : GoodIn wsX12_pass wsX11_copyFrom := goodIn_ca (goodIn_r _ [7, 8, 9, 10, 11, 12, 13, 14, 15, 16, 17, 18, 19, 20, 21, 22, 23, 24, 25, 26, 27, 28, 29, 30, 31, 32, 33, 34, 35, 36, 37, 38, 39, 40, 41, 42, 43, 44, 136, 137, 138, 139, 140, 141, 142, 143, 144, 145, 146, 147, 148, 149, 150, 151, 152, 153, 154] rfl (by decide +kernel)) (goodIn_sub (fun _ h => List.mem_cons_of_mem _ (List.mem_append_left _ (List.mem_append_left _ (List.mem_append_left _ (List.mem_append_left _ (List.mem_append_left _ (List.mem_append_right _ h))))))) (by decide +kernel))
set_option maxRecDepth 20000 in
theorem gX12_pass_X11_copyFrom : GoodIn wsX12_pass (wsV RX12 81 RX11 yX11_copyFrom wsX11_copyFrom) := goodIn_app (goodIn_of _ (by decide +kernel)) ggX12_pass_X11_copyFrom
set_option maxRecDepth 20000 in
theorem ggX12_pass_X11_advance : GoodIn wsX12_pass wsX11_advance := goodIn_ca (goodIn_r _ [48, 13, 49, 50, 51, 6, 52, 12, 8, 53, 54, 55, 56, 22, 23, 24, 11, 9, 10, 57, 58, 59, 60, 61, 62, 63, 64, 65, 66, 67, 68, 69, 70, 71, 32, 72, 35, 73, 74, 75, 76, 77, 78, 79, 80, 81, 17, 82, 19, 28, 83, 84, 85, 86, 87, 88, 89, 90, 34, 91, 92, 93, 39, 94, 41, 44, 42, 43, 95, 96, 97, 98, 136, 137, 138, 139, 140, 141, 142, 143, 144, 145, 146, 147, 148, 149, 150, 151, 152, 153, 154] rfl (by decide +kernel)) (goodIn_sub (fun _ h => List.mem_cons_of_mem _ (List.mem_append_left _ (List.mem_append_left _ (List.mem_append_left _ (List.mem_append_left _ (List.mem_append_left _ (List.mem_append_right _ h))))))) (by decide +kernel))
set_option maxRecDepth 20000 in
theorem gX12_pass_X11_advance : GoodIn wsX12_pass (wsV RX12 247 RX11 yX11_advance wsX11_advance) := goodIn_app (goodIn_of _ (by decide +kernel)) ggX12_pass_X11_advance
set_option maxRecDepth 20000 in
theorem ggX12_pass_X12_settled : GoodIn wsX12_pass wsX12_settled := goodIn_ca (goodIn_ca (goodIn_ca (goodIn_ca (goodIn_ca (goodIn_r _ [102, 103, 104, 1, 105, 106, 96, 97, 98, 107, 108, 67, 109, 110, 111, 112, 113, 114, 115, 116, 117, 118, 119, 120, 121, 122, 123, 124, 125, 126, 127, 128, 129, 130, 131, 132, 133, 134, 135] rfl (by decide +kernel)) (goodIn_sub (fun _ h => List.mem_cons_of_mem _ (List.mem_append_left _ (List.mem_append_left _ (List.mem_append_left _ (List.mem_append_left _ (List.mem_append_right _ h)))))) (by decide +kernel))) (goodIn_sub (fun _ h => List.mem_cons_of_mem _ (List.mem_append_left _ (List.mem_append_left _ (List.mem_append_left _ (List.mem_append_right _ h))))) (by decide +kernel))) (goodIn_sub (fun _ h => List.mem_cons_of_mem _ (List.mem_append_left _ (List.mem_append_left _ (List.mem_append_right _ h)))) (by decide +kernel))) (goodIn_sub (fun _ h => List.mem_cons_of_mem _ (List.mem_append_left _ (List.mem_append_right _ h))) (by decide +kernel))) (goodIn_sub (fun _ h => List.mem_cons_of_mem _ (List.mem_append_right _ h)) (by decide +kernel))
set_option maxRecDepth 20000 in
theorem gX12_pass_X12_settled : GoodIn wsX12_pass (wsV RX12 95 RX12 yX12_settled wsX12_settled) := goodIn_app (goodIn_of _ (by decide +kernel)) ggX12_pass_X12_settled
theorem dX12_pass_0 : decode cX12_pass 0 = .ok (.aload_n 0, 1) := by decide +kernel
theorem dX12_pass_1 : decode cX12_pass 1 = .ok (.getfield 16, 3) := by decide +kernel
theorem dX12_pass_4 : decode cX12_pass 4 = .ok (.aload_n 0, 1) := by decide +kernel
theorem dX12_pass_5 : decode cX12_pass 5 = .ok (.getfield 10, 3) := by decide +kernel
theorem dX12_pass_8 : decode cX12_pass 8 = .ok (.invokevirtual 81, 3) := by decide +kernel
theorem dX12_pass_11 : decode cX12_pass 11 = .ok (.aload_n 0, 1) := by decide +kernel
theorem dX12_pass_12 : decode cX12_pass 12 = .ok (.aload_n 0, 1) := by decide +kernel
theorem dX12_pass_13 : decode cX12_pass 13 = .ok (.getfield 10, 3) := by decide +kernel
theorem dX12_pass_16 : decode cX12_pass 16 = .ok (.iload_n 1, 1) := by decide +kernel
theorem dX12_pass_17 : decode cX12_pass 17 = .ok (.invokevirtual 247, 3) := by decide +kernel
theorem dX12_pass_20 : decode cX12_pass 20 = .ok (.invokevirtual 95, 3) := by decide +kernel
theorem dX12_pass_23 : decode cX12_pass 23 = .ok (.ireturn, 1) := by decide +kernel
set_option maxRecDepth 20000 in
theorem ggX12_setLimit_X11_copyFrom : GoodIn wsX12_setLimit wsX11_copyFrom := goodIn_ca (goodIn_r _ [7, 8, 9, 10, 11, 12, 13, 14, 15, 16, 17, 18, 19, 20, 21, 22, 23, 24, 25, 26, 27, 28, 29, 30, 31, 32, 33, 34, 35, 36, 37, 38, 39, 40, 41, 42, 43, 44, 90, 91, 92, 93, 94, 95, 96, 97, 98, 99, 100, 101, 102, 103, 104, 105, 106, 107, 108] rfl (by decide +kernel)) (goodIn_sub (fun _ h => List.mem_cons_of_mem _ (List.mem_append_left _ (List.mem_append_left _ (List.mem_append_left _ (List.mem_append_left _ (List.mem_append_left _ (List.mem_append_right _ h))))))) (by decide +kernel))
set_option maxRecDepth 20000 in
theorem gX12_setLimit_X11_copyFrom : GoodIn wsX12_setLimit (wsV RX12 81 RX11 yX11_copyFrom wsX11_copyFrom) := goodIn_app (goodIn_of _ (by decide +kernel)) ggX12_setLimit_X11_copyFrom
set_option maxRecDepth 20000 in
theorem ggX12_setLimit_X11_bound : GoodIn wsX12_setLimit wsX11_bound := goodIn_r _ [48, 11, 90, 91, 92, 93, 94, 95, 96] rfl (by decide +kernel)
set_option maxRecDepth 20000 in
theorem gX12_setLimit_X11_bound : GoodIn wsX12_setLimit (wsV RX12 250 RX11 yX11_bound wsX11_bound) := goodIn_app (goodIn_of _ (by decide +kernel)) ggX12_setLimit_X11_bound
set_option maxRecDepth 20000 in
theorem ggX12_setLimit_X12_settled : GoodIn wsX12_setLimit wsX12_settled := goodIn_ca (goodIn_ca (goodIn_ca (goodIn_ca (goodIn_ca (goodIn_r _ [53, 54, 55, 1, 56, 57, 58, 59, 60, 61, 62, 52, 63, 64, 65, 66, 67, 68, 69, 70, 71, 72, 73, 74, 75, 76, 77, 78, 79, 80, 81, 82, 83, 84, 85, 86, 87, 88, 89] rfl (by decide +kernel)) (goodIn_sub (fun _ h => List.mem_cons_of_mem _ (List.mem_append_left _ (List.mem_append_left _ (List.mem_append_left _ (List.mem_append_left _ (List.mem_append_right _ h)))))) (by decide +kernel))) (goodIn_sub (fun _ h => List.mem_cons_of_mem _ (List.mem_append_left _ (List.mem_append_left _ (List.mem_append_left _ (List.mem_append_right _ h))))) (by decide +kernel))) (goodIn_sub (fun _ h => List.mem_cons_of_mem _ (List.mem_append_left _ (List.mem_append_left _ (List.mem_append_right _ h)))) (by decide +kernel))) (goodIn_sub (fun _ h => List.mem_cons_of_mem _ (List.mem_append_left _ (List.mem_append_right _ h))) (by decide +kernel))) (goodIn_sub (fun _ h => List.mem_cons_of_mem _ (List.mem_append_right _ h)) (by decide +kernel))
set_option maxRecDepth 20000 in
theorem gX12_setLimit_X12_settled : GoodIn wsX12_setLimit (wsV RX12 95 RX12 yX12_settled wsX12_settled) := goodIn_app (goodIn_of _ (by decide +kernel)) ggX12_setLimit_X12_settled
theorem dX12_setLimit_0 : decode cX12_setLimit 0 = .ok (.aload_n 0, 1) := by decide +kernel
theorem dX12_setLimit_1 : decode cX12_setLimit 1 = .ok (.getfield 16, 3) := by decide +kernel
theorem dX12_setLimit_4 : decode cX12_setLimit 4 = .ok (.aload_n 0, 1) := by decide +kernel
theorem dX12_setLimit_5 : decode cX12_setLimit 5 = .ok (.getfield 10, 3) := by decide +kernel
theorem dX12_setLimit_8 : decode cX12_setLimit 8 = .ok (.invokevirtual 81, 3) := by decide +kernel
theorem dX12_setLimit_11 : decode cX12_setLimit 11 = .ok (.aload_n 0, 1) := by decide +kernel
theorem dX12_setLimit_12 : decode cX12_setLimit 12 = .ok (.aload_n 0, 1) := by decide +kernel
theorem dX12_setLimit_13 : decode cX12_setLimit 13 = .ok (.getfield 10, 3) := by decide +kernel
theorem dX12_setLimit_16 : decode cX12_setLimit 16 = .ok (.iload_n 1, 1) := by decide +kernel
theorem dX12_setLimit_17 : decode cX12_setLimit 17 = .ok (.invokevirtual 250, 3) := by decide +kernel
theorem dX12_setLimit_20 : decode cX12_setLimit 20 = .ok (.invokevirtual 95, 3) := by decide +kernel
theorem dX12_setLimit_23 : decode cX12_setLimit 23 = .ok (.ireturn, 1) := by decide +kernel
set_option maxRecDepth 20000 in
theorem ggX12_fluxOf_X12_needClaim : GoodIn wsX12_fluxOf wsX12_needClaim := goodIn_ca (goodIn_r _ [8, 9, 10, 1, 2, 11, 12, 13, 14, 15, 16, 17, 18, 19, 20, 21, 22, 23, 24, 25, 26, 27, 28, 29, 30, 31, 32, 33, 34, 35, 36, 37, 38, 39, 40, 41, 42, 43, 44, 45] rfl (by decide +kernel)) (goodIn_sub (fun _ h => List.mem_cons_of_mem _ (List.mem_append_right _ h)) (by decide +kernel))
set_option maxRecDepth 20000 in
theorem gX12_fluxOf_X12_needClaim : GoodIn wsX12_fluxOf (wsV RX12 109 RX12 yX12_needClaim wsX12_needClaim) := goodIn_app (goodIn_of _ (by decide +kernel)) ggX12_fluxOf_X12_needClaim
theorem dX12_fluxOf_0 : decode cX12_fluxOf 0 = .ok (.aload_n 0, 1) := by decide +kernel
theorem dX12_fluxOf_1 : decode cX12_fluxOf 1 = .ok (.iload_n 1, 1) := by decide +kernel
theorem dX12_fluxOf_2 : decode cX12_fluxOf 2 = .ok (.invokevirtual 109, 3) := by decide +kernel
theorem dX12_fluxOf_5 : decode cX12_fluxOf 5 = .ok (.aload_n 0, 1) := by decide +kernel
theorem dX12_fluxOf_6 : decode cX12_fluxOf 6 = .ok (.getfield 10, 3) := by decide +kernel
theorem dX12_fluxOf_9 : decode cX12_fluxOf 9 = .ok (.getfield 85, 3) := by decide +kernel
theorem dX12_fluxOf_12 : decode cX12_fluxOf 12 = .ok (.getfield 243, 3) := by decide +kernel
theorem dX12_fluxOf_15 : decode cX12_fluxOf 15 = .ok (.iload_n 1, 1) := by decide +kernel
theorem dX12_fluxOf_16 : decode cX12_fluxOf 16 = .ok (.faload, 1) := by decide +kernel
theorem dX12_fluxOf_17 : decode cX12_fluxOf 17 = .ok (.freturn, 1) := by decide +kernel
set_option maxRecDepth 20000 in
theorem ggX12_power_X5_sumOfFluxes : GoodIn wsX12_power wsX5_sumOfFluxes := goodIn_ca (goodIn_r _ [7, 8, 9, 33, 34, 35, 36, 37, 38] rfl (by decide +kernel)) (goodIn_sub (fun _ h => List.mem_cons_of_mem _ (List.mem_append_right _ h)) (by decide +kernel))
set_option maxRecDepth 20000 in
theorem gX12_power_X5_sumOfFluxes : GoodIn wsX12_power (wsV RX12 263 RX5 yX5_sumOfFluxes wsX5_sumOfFluxes) := goodIn_app (goodIn_of _ (by decide +kernel)) ggX12_power_X5_sumOfFluxes
theorem dX12_power_0 : decode cX12_power 0 = .ok (.aload_n 0, 1) := by decide +kernel
theorem dX12_power_1 : decode cX12_power 1 = .ok (.getfield 10, 3) := by decide +kernel
theorem dX12_power_4 : decode cX12_power 4 = .ok (.getfield 85, 3) := by decide +kernel
theorem dX12_power_7 : decode cX12_power 7 = .ok (.invokevirtual 263, 3) := by decide +kernel
theorem dX12_power_10 : decode cX12_power 10 = .ok (.freturn, 1) := by decide +kernel
set_option maxRecDepth 20000 in
theorem ggX12_shiftsUntilBelow_X11_copyFrom : GoodIn wsX12_shiftsUntilBelow wsX11_copyFrom := goodIn_ca (goodIn_r _ [12, 13, 14, 15, 16, 17, 18, 19, 20, 21, 22, 23, 24, 25, 26, 27, 28, 29, 30, 31, 32, 33, 34, 35, 36, 37, 38, 39, 40, 41, 42, 43, 44, 45, 46, 47, 48, 49, 117, 118, 119, 120, 121, 122, 123, 124, 125, 126, 127, 128, 129, 130, 131, 132, 133, 134, 135] rfl (by decide +kernel)) (goodIn_sub (fun _ h => List.mem_cons_of_mem _ (List.mem_append_right _ h)) (by decide +kernel))
set_option maxRecDepth 20000 in
theorem gX12_shiftsUntilBelow_X11_copyFrom : GoodIn wsX12_shiftsUntilBelow (wsV RX12 81 RX11 yX11_copyFrom wsX11_copyFrom) := goodIn_app (goodIn_of _ (by decide +kernel)) ggX12_shiftsUntilBelow_X11_copyFrom
set_option maxRecDepth 20000 in
theorem ggX12_shiftsUntilBelow_X5_sumOfFluxes : GoodIn wsX12_shiftsUntilBelow wsX5_sumOfFluxes := goodIn_ca (goodIn_r _ [53, 24, 33, 124, 125, 126, 127, 128, 129] rfl (by decide +kernel)) (goodIn_sub (fun _ h => List.mem_cons_of_mem _ (List.mem_append_right _ h)) (by decide +kernel))
set_option maxRecDepth 20000 in
theorem gX12_shiftsUntilBelow_X5_sumOfFluxes : GoodIn wsX12_shiftsUntilBelow (wsV RX12 263 RX5 yX5_sumOfFluxes wsX5_sumOfFluxes) := goodIn_app (goodIn_of _ (by decide +kernel)) ggX12_shiftsUntilBelow_X5_sumOfFluxes
set_option maxRecDepth 20000 in
theorem ggX12_shiftsUntilBelow_X11_shift : GoodIn wsX12_shiftsUntilBelow wsX11_shift := goodIn_ca (goodIn_r _ [57, 17, 13, 58, 59, 60, 61, 27, 28, 29, 16, 14, 18, 15, 62, 63, 64, 11, 65, 66, 67, 68, 69, 70, 71, 72, 73, 74, 75, 76, 37, 77, 40, 78, 79, 80, 81, 82, 83, 84, 51, 52, 22, 53, 24, 33, 85, 86, 87, 88, 89, 90, 91, 92, 39, 93, 94, 95, 44, 96, 46, 49, 47, 48, 97, 98, 99, 100, 117, 118, 119, 120, 121, 122, 123, 124, 125, 126, 127, 128, 129, 130, 131, 132, 133, 134, 135] rfl (by decide +kernel)) (goodIn_sub (fun _ h => List.mem_cons_of_mem _ (List.mem_append_right _ h)) (by decide +kernel))
set_option maxRecDepth 20000 in
theorem gX12_shiftsUntilBelow_X11_shift : GoodIn wsX12_shiftsUntilBelow (wsV RX12 272 RX11 yX11_shift wsX11_shift) := goodIn_app (goodIn_of _ (by decide +kernel)) ggX12_shiftsUntilBelow_X11_shift
theorem dX12_shiftsUntilBelow_0 : decode cX12_shiftsUntilBelow 0 = .ok (.iload_n 1, 1) := by decide +kernel
theorem dX12_shiftsUntilBelow_1 : decode cX12_shiftsUntilBelow 1 = .ok (.iconst 1, 1) := by decide +kernel
theorem dX12_shiftsUntilBelow_2 : decode cX12_shiftsUntilBelow 2 = .ok (.if_icmp .lt 10, 3) := by decide +kernel
theorem dX12_shiftsUntilBelow_5 : decode cX12_shiftsUntilBelow 5 = .ok (.iload_n 1, 1) := by decide +kernel
theorem dX12_shiftsUntilBelow_6 : decode cX12_shiftsUntilBelow 6 = .ok (.sipush 9999, 3) := by decide +kernel
theorem dX12_shiftsUntilBelow_9 : decode cX12_shiftsUntilBelow 9 = .ok (.if_icmp .le 14, 3) := by decide +kernel
theorem dX12_shiftsUntilBelow_12 : decode cX12_shiftsUntilBelow 12 = .ok (.new 169, 3) := by decide +kernel
theorem dX12_shiftsUntilBelow_15 : decode cX12_shiftsUntilBelow 15 = .ok (.dup, 1) := by decide +kernel
theorem dX12_shiftsUntilBelow_16 : decode cX12_shiftsUntilBelow 16 = .ok (.ldc_w 270, 3) := by decide +kernel
theorem dX12_shiftsUntilBelow_19 : decode cX12_shiftsUntilBelow 19 = .ok (.invokespecial 173, 3) := by decide +kernel
theorem dX12_shiftsUntilBelow_22 : decode cX12_shiftsUntilBelow 22 = .ok (.athrow, 1) := by decide +kernel
theorem dX12_shiftsUntilBelow_23 : decode cX12_shiftsUntilBelow 23 = .ok (.aload_n 0, 1) := by decide +kernel
theorem dX12_shiftsUntilBelow_24 : decode cX12_shiftsUntilBelow 24 = .ok (.getfield 37, 3) := by decide +kernel
theorem dX12_shiftsUntilBelow_27 : decode cX12_shiftsUntilBelow 27 = .ok (.aload_n 0, 1) := by decide +kernel
theorem dX12_shiftsUntilBelow_28 : decode cX12_shiftsUntilBelow 28 = .ok (.getfield 10, 3) := by decide +kernel
theorem dX12_shiftsUntilBelow_31 : decode cX12_shiftsUntilBelow 31 = .ok (.invokevirtual 81, 3) := by decide +kernel
theorem dX12_shiftsUntilBelow_34 : decode cX12_shiftsUntilBelow 34 = .ok (.iconst 0, 1) := by decide +kernel
theorem dX12_shiftsUntilBelow_35 : decode cX12_shiftsUntilBelow 35 = .ok (.istore_n 2, 1) := by decide +kernel
theorem dX12_shiftsUntilBelow_36 : decode cX12_shiftsUntilBelow 36 = .ok (.iload_n 2, 1) := by decide +kernel
theorem dX12_shiftsUntilBelow_37 : decode cX12_shiftsUntilBelow 37 = .ok (.bipush 30, 2) := by decide +kernel
theorem dX12_shiftsUntilBelow_39 : decode cX12_shiftsUntilBelow 39 = .ok (.if_icmp .gt 34, 3) := by decide +kernel
theorem dX12_shiftsUntilBelow_42 : decode cX12_shiftsUntilBelow 42 = .ok (.aload_n 0, 1) := by decide +kernel
theorem dX12_shiftsUntilBelow_43 : decode cX12_shiftsUntilBelow 43 = .ok (.getfield 37, 3) := by decide +kernel
theorem dX12_shiftsUntilBelow_46 : decode cX12_shiftsUntilBelow 46 = .ok (.getfield 85, 3) := by decide +kernel
theorem dX12_shiftsUntilBelow_49 : decode cX12_shiftsUntilBelow 49 = .ok (.invokevirtual 263, 3) := by decide +kernel
theorem dX12_shiftsUntilBelow_52 : decode cX12_shiftsUntilBelow 52 = .ok (.iload_n 1, 1) := by decide +kernel
theorem dX12_shiftsUntilBelow_53 : decode cX12_shiftsUntilBelow 53 = .ok (.i2f, 1) := by decide +kernel
theorem dX12_shiftsUntilBelow_54 : decode cX12_shiftsUntilBelow 54 = .ok (.fcmp .g, 1) := by decide +kernel
theorem dX12_shiftsUntilBelow_55 : decode cX12_shiftsUntilBelow 55 = .ok (.ifCond .ge 5, 3) := by decide +kernel
theorem dX12_shiftsUntilBelow_58 : decode cX12_shiftsUntilBelow 58 = .ok (.iload_n 2, 1) := by decide +kernel
theorem dX12_shiftsUntilBelow_59 : decode cX12_shiftsUntilBelow 59 = .ok (.ireturn, 1) := by decide +kernel
theorem dX12_shiftsUntilBelow_60 : decode cX12_shiftsUntilBelow 60 = .ok (.aload_n 0, 1) := by decide +kernel
theorem dX12_shiftsUntilBelow_61 : decode cX12_shiftsUntilBelow 61 = .ok (.getfield 37, 3) := by decide +kernel
theorem dX12_shiftsUntilBelow_64 : decode cX12_shiftsUntilBelow 64 = .ok (.invokevirtual 272, 3) := by decide +kernel
theorem dX12_shiftsUntilBelow_67 : decode cX12_shiftsUntilBelow 67 = .ok (.iinc 2 1, 3) := by decide +kernel
theorem dX12_shiftsUntilBelow_70 : decode cX12_shiftsUntilBelow 70 = .ok (.goto (-34), 3) := by decide +kernel
theorem dX12_shiftsUntilBelow_73 : decode cX12_shiftsUntilBelow 73 = .ok (.new 275, 3) := by decide +kernel
theorem dX12_shiftsUntilBelow_76 : decode cX12_shiftsUntilBelow 76 = .ok (.dup, 1) := by decide +kernel
theorem dX12_shiftsUntilBelow_77 : decode cX12_shiftsUntilBelow 77 = .ok (.ldc_w 277, 3) := by decide +kernel
theorem dX12_shiftsUntilBelow_80 : decode cX12_shiftsUntilBelow 80 = .ok (.invokespecial 279, 3) := by decide +kernel
theorem dX12_shiftsUntilBelow_83 : decode cX12_shiftsUntilBelow 83 = .ok (.athrow, 1) := by decide +kernel
theorem dX12_shiftCount_0 : decode cX12_shiftCount 0 = .ok (.aload_n 0, 1) := by decide +kernel
theorem dX12_shiftCount_1 : decode cX12_shiftCount 1 = .ok (.getfield 10, 3) := by decide +kernel
theorem dX12_shiftCount_4 : decode cX12_shiftCount 4 = .ok (.getfield 280, 3) := by decide +kernel
theorem dX12_shiftCount_7 : decode cX12_shiftCount 7 = .ok (.ireturn, 1) := by decide +kernel
theorem dX12_scrams_0 : decode cX12_scrams 0 = .ok (.aload_n 0, 1) := by decide +kernel
theorem dX12_scrams_1 : decode cX12_scrams 1 = .ok (.getfield 10, 3) := by decide +kernel
theorem dX12_scrams_4 : decode cX12_scrams 4 = .ok (.getfield 283, 3) := by decide +kernel
theorem dX12_scrams_7 : decode cX12_scrams 7 = .ok (.ireturn, 1) := by decide +kernel
set_option maxRecDepth 20000 in
theorem ggX12_claimAtRank_X5_countAhead : GoodIn wsX12_claimAtRank wsX5_countAhead := goodIn_ca (goodIn_r _ [10, 11, 12, 13, 14, 9, 15, 16, 17, 41, 42, 43, 44, 45, 46] rfl (by decide +kernel)) (goodIn_sub (fun _ h => List.mem_cons_of_mem _ (List.mem_append_right _ h)) (by decide +kernel))
set_option maxRecDepth 20000 in
theorem gX12_claimAtRank_X5_countAhead : GoodIn wsX12_claimAtRank (wsV RX12 286 RX5 yX5_countAhead wsX5_countAhead) := goodIn_app (goodIn_of _ (by decide +kernel)) ggX12_claimAtRank_X5_countAhead
theorem dX12_claimAtRank_0 : decode cX12_claimAtRank 0 = .ok (.iconst 0, 1) := by decide +kernel
theorem dX12_claimAtRank_1 : decode cX12_claimAtRank 1 = .ok (.istore_n 2, 1) := by decide +kernel
theorem dX12_claimAtRank_2 : decode cX12_claimAtRank 2 = .ok (.iload_n 2, 1) := by decide +kernel
theorem dX12_claimAtRank_3 : decode cX12_claimAtRank 3 = .ok (.aload_n 0, 1) := by decide +kernel
theorem dX12_claimAtRank_4 : decode cX12_claimAtRank 4 = .ok (.getfield 10, 3) := by decide +kernel
theorem dX12_claimAtRank_7 : decode cX12_claimAtRank 7 = .ok (.getfield 85, 3) := by decide +kernel
theorem dX12_claimAtRank_10 : decode cX12_claimAtRank 10 = .ok (.getfield 106, 3) := by decide +kernel
theorem dX12_claimAtRank_13 : decode cX12_claimAtRank 13 = .ok (.if_icmp .ge 26, 3) := by decide +kernel
theorem dX12_claimAtRank_16 : decode cX12_claimAtRank 16 = .ok (.aload_n 0, 1) := by decide +kernel
theorem dX12_claimAtRank_17 : decode cX12_claimAtRank 17 = .ok (.getfield 10, 3) := by decide +kernel
theorem dX12_claimAtRank_20 : decode cX12_claimAtRank 20 = .ok (.getfield 85, 3) := by decide +kernel
theorem dX12_claimAtRank_23 : decode cX12_claimAtRank 23 = .ok (.iload_n 2, 1) := by decide +kernel
theorem dX12_claimAtRank_24 : decode cX12_claimAtRank 24 = .ok (.invokevirtual 286, 3) := by decide +kernel
theorem dX12_claimAtRank_27 : decode cX12_claimAtRank 27 = .ok (.iload_n 1, 1) := by decide +kernel
theorem dX12_claimAtRank_28 : decode cX12_claimAtRank 28 = .ok (.if_icmp .ne 5, 3) := by decide +kernel
theorem dX12_claimAtRank_31 : decode cX12_claimAtRank 31 = .ok (.iload_n 2, 1) := by decide +kernel
theorem dX12_claimAtRank_32 : decode cX12_claimAtRank 32 = .ok (.ireturn, 1) := by decide +kernel
theorem dX12_claimAtRank_33 : decode cX12_claimAtRank 33 = .ok (.iinc 2 1, 3) := by decide +kernel
theorem dX12_claimAtRank_36 : decode cX12_claimAtRank 36 = .ok (.goto (-34), 3) := by decide +kernel
theorem dX12_claimAtRank_39 : decode cX12_claimAtRank 39 = .ok (.new 275, 3) := by decide +kernel
theorem dX12_claimAtRank_42 : decode cX12_claimAtRank 42 = .ok (.dup, 1) := by decide +kernel
theorem dX12_claimAtRank_43 : decode cX12_claimAtRank 43 = .ok (.ldc_w 289, 3) := by decide +kernel
theorem dX12_claimAtRank_46 : decode cX12_claimAtRank 46 = .ok (.invokespecial 279, 3) := by decide +kernel
theorem dX12_claimAtRank_49 : decode cX12_claimAtRank 49 = .ok (.athrow, 1) := by decide +kernel
theorem dX12_logCount_0 : decode cX12_logCount 0 = .ok (.aload_n 0, 1) := by decide +kernel
theorem dX12_logCount_1 : decode cX12_logCount 1 = .ok (.getfield 10, 3) := by decide +kernel
theorem dX12_logCount_4 : decode cX12_logCount 4 = .ok (.getfield 291, 3) := by decide +kernel
theorem dX12_logCount_7 : decode cX12_logCount 7 = .ok (.getfield 295, 3) := by decide +kernel
theorem dX12_logCount_10 : decode cX12_logCount 10 = .ok (.ireturn, 1) := by decide +kernel
set_option maxRecDepth 20000 in
theorem ggX12_logShift_X12_needEntry : GoodIn wsX12_logShift wsX12_needEntry := goodIn_ca (goodIn_r _ [8, 9, 10, 1, 2, 11, 22, 23, 24, 25, 26, 27, 28, 29, 30, 31, 32, 33, 34, 35, 36, 37, 38, 39, 40, 41, 42, 43, 44, 45, 46, 47, 48] rfl (by decide +kernel)) (goodIn_sub (fun _ h => List.mem_cons_of_mem _ (List.mem_append_right _ h)) (by decide +kernel))
set_option maxRecDepth 20000 in
theorem gX12_logShift_X12_needEntry : GoodIn wsX12_logShift (wsV RX12 298 RX12 yX12_needEntry wsX12_needEntry) := goodIn_app (goodIn_of _ (by decide +kernel)) ggX12_logShift_X12_needEntry
set_option maxRecDepth 20000 in
theorem ggX12_logShift_X8_place : GoodIn wsX12_logShift wsX8_place := goodIn_r _ [16, 17, 18, 19, 20, 21, 45, 46, 47, 48] rfl (by decide +kernel)
set_option maxRecDepth 20000 in
theorem gX12_logShift_X8_place : GoodIn wsX12_logShift (wsV RX12 303 RX8 yX8_place wsX8_place) := goodIn_app (goodIn_of _ (by decide +kernel)) ggX12_logShift_X8_place
theorem dX12_logShift_0 : decode cX12_logShift 0 = .ok (.aload_n 0, 1) := by decide +kernel
theorem dX12_logShift_1 : decode cX12_logShift 1 = .ok (.iload_n 1, 1) := by decide +kernel
theorem dX12_logShift_2 : decode cX12_logShift 2 = .ok (.invokevirtual 298, 3) := by decide +kernel
theorem dX12_logShift_5 : decode cX12_logShift 5 = .ok (.aload_n 0, 1) := by decide +kernel
theorem dX12_logShift_6 : decode cX12_logShift 6 = .ok (.getfield 10, 3) := by decide +kernel
theorem dX12_logShift_9 : decode cX12_logShift 9 = .ok (.getfield 291, 3) := by decide +kernel
theorem dX12_logShift_12 : decode cX12_logShift 12 = .ok (.getfield 301, 3) := by decide +kernel
theorem dX12_logShift_15 : decode cX12_logShift 15 = .ok (.aload_n 0, 1) := by decide +kernel
theorem dX12_logShift_16 : decode cX12_logShift 16 = .ok (.getfield 10, 3) := by decide +kernel
theorem dX12_logShift_19 : decode cX12_logShift 19 = .ok (.getfield 291, 3) := by decide +kernel
theorem dX12_logShift_22 : decode cX12_logShift 22 = .ok (.iload_n 1, 1) := by decide +kernel
theorem dX12_logShift_23 : decode cX12_logShift 23 = .ok (.invokevirtual 303, 3) := by decide +kernel
theorem dX12_logShift_26 : decode cX12_logShift 26 = .ok (.iaload, 1) := by decide +kernel
theorem dX12_logShift_27 : decode cX12_logShift 27 = .ok (.ireturn, 1) := by decide +kernel
set_option maxRecDepth 20000 in
theorem ggX12_logKind_X12_needEntry : GoodIn wsX12_logKind wsX12_needEntry := goodIn_ca (goodIn_r _ [8, 9, 10, 1, 2, 11, 22, 23, 24, 25, 26, 27, 28, 29, 30, 31, 32, 33, 34, 35, 36, 37, 38, 39, 40, 41, 42, 43, 44, 45, 46, 47, 48] rfl (by decide +kernel)) (goodIn_sub (fun _ h => List.mem_cons_of_mem _ (List.mem_append_right _ h)) (by decide +kernel))
set_option maxRecDepth 20000 in
theorem gX12_logKind_X12_needEntry : GoodIn wsX12_logKind (wsV RX12 298 RX12 yX12_needEntry wsX12_needEntry) := goodIn_app (goodIn_of _ (by decide +kernel)) ggX12_logKind_X12_needEntry
set_option maxRecDepth 20000 in
theorem ggX12_logKind_X8_place : GoodIn wsX12_logKind wsX8_place := goodIn_r _ [16, 17, 18, 19, 20, 21, 45, 46, 47, 48] rfl (by decide +kernel)
set_option maxRecDepth 20000 in
theorem gX12_logKind_X8_place : GoodIn wsX12_logKind (wsV RX12 303 RX8 yX8_place wsX8_place) := goodIn_app (goodIn_of _ (by decide +kernel)) ggX12_logKind_X8_place
theorem dX12_logKind_0 : decode cX12_logKind 0 = .ok (.aload_n 0, 1) := by decide +kernel
theorem dX12_logKind_1 : decode cX12_logKind 1 = .ok (.iload_n 1, 1) := by decide +kernel
theorem dX12_logKind_2 : decode cX12_logKind 2 = .ok (.invokevirtual 298, 3) := by decide +kernel
theorem dX12_logKind_5 : decode cX12_logKind 5 = .ok (.aload_n 0, 1) := by decide +kernel
theorem dX12_logKind_6 : decode cX12_logKind 6 = .ok (.getfield 10, 3) := by decide +kernel
theorem dX12_logKind_9 : decode cX12_logKind 9 = .ok (.getfield 291, 3) := by decide +kernel
theorem dX12_logKind_12 : decode cX12_logKind 12 = .ok (.getfield 306, 3) := by decide +kernel
theorem dX12_logKind_15 : decode cX12_logKind 15 = .ok (.aload_n 0, 1) := by decide +kernel
theorem dX12_logKind_16 : decode cX12_logKind 16 = .ok (.getfield 10, 3) := by decide +kernel
theorem dX12_logKind_19 : decode cX12_logKind 19 = .ok (.getfield 291, 3) := by decide +kernel
theorem dX12_logKind_22 : decode cX12_logKind 22 = .ok (.iload_n 1, 1) := by decide +kernel
theorem dX12_logKind_23 : decode cX12_logKind 23 = .ok (.invokevirtual 303, 3) := by decide +kernel
theorem dX12_logKind_26 : decode cX12_logKind 26 = .ok (.caload, 1) := by decide +kernel
theorem dX12_logKind_27 : decode cX12_logKind 27 = .ok (.ireturn, 1) := by decide +kernel
theorem dX12_needEntry_0 : decode cX12_needEntry 0 = .ok (.iload_n 1, 1) := by decide +kernel
theorem dX12_needEntry_1 : decode cX12_needEntry 1 = .ok (.ifCond .lt 17, 3) := by decide +kernel
theorem dX12_needEntry_4 : decode cX12_needEntry 4 = .ok (.iload_n 1, 1) := by decide +kernel
theorem dX12_needEntry_5 : decode cX12_needEntry 5 = .ok (.aload_n 0, 1) := by decide +kernel
theorem dX12_needEntry_6 : decode cX12_needEntry 6 = .ok (.getfield 10, 3) := by decide +kernel
theorem dX12_needEntry_9 : decode cX12_needEntry 9 = .ok (.getfield 291, 3) := by decide +kernel
theorem dX12_needEntry_12 : decode cX12_needEntry 12 = .ok (.getfield 295, 3) := by decide +kernel
theorem dX12_needEntry_15 : decode cX12_needEntry 15 = .ok (.if_icmp .lt 14, 3) := by decide +kernel
theorem dX12_needEntry_18 : decode cX12_needEntry 18 = .ok (.new 275, 3) := by decide +kernel
theorem dX12_needEntry_21 : decode cX12_needEntry 21 = .ok (.dup, 1) := by decide +kernel
theorem dX12_needEntry_22 : decode cX12_needEntry 22 = .ok (.ldc_w 309, 3) := by decide +kernel
theorem dX12_needEntry_25 : decode cX12_needEntry 25 = .ok (.invokespecial 279, 3) := by decide +kernel
theorem dX12_needEntry_28 : decode cX12_needEntry 28 = .ok (.athrow, 1) := by decide +kernel
theorem dX12_needEntry_29 : decode cX12_needEntry 29 = .ok (.return_, 1) := by decide +kernel
theorem dX12_append_0 : decode cX12_append 0 = .ok (.iload_n 1, 1) := by decide +kernel
theorem dX12_append_1 : decode cX12_append 1 = .ok (.bipush 32, 2) := by decide +kernel
theorem dX12_append_3 : decode cX12_append 3 = .ok (.if_icmp .lt 9, 3) := by decide +kernel
theorem dX12_append_6 : decode cX12_append 6 = .ok (.iload_n 1, 1) := by decide +kernel
theorem dX12_append_7 : decode cX12_append 7 = .ok (.bipush 126, 2) := by decide +kernel
theorem dX12_append_9 : decode cX12_append 9 = .ok (.if_icmp .le 14, 3) := by decide +kernel
theorem dX12_append_12 : decode cX12_append 12 = .ok (.new 169, 3) := by decide +kernel
theorem dX12_append_15 : decode cX12_append 15 = .ok (.dup, 1) := by decide +kernel
theorem dX12_append_16 : decode cX12_append 16 = .ok (.ldc_w 311, 3) := by decide +kernel
theorem dX12_append_19 : decode cX12_append 19 = .ok (.invokespecial 173, 3) := by decide +kernel
theorem dX12_append_22 : decode cX12_append 22 = .ok (.athrow, 1) := by decide +kernel
theorem dX12_append_23 : decode cX12_append 23 = .ok (.aload_n 0, 1) := by decide +kernel
theorem dX12_append_24 : decode cX12_append 24 = .ok (.getfield 43, 3) := by decide +kernel
theorem dX12_append_27 : decode cX12_append 27 = .ok (.getfield 313, 3) := by decide +kernel
theorem dX12_append_30 : decode cX12_append 30 = .ok (.bipush 60, 2) := by decide +kernel
theorem dX12_append_32 : decode cX12_append 32 = .ok (.if_icmp .lt 14, 3) := by decide +kernel
theorem dX12_append_35 : decode cX12_append 35 = .ok (.new 316, 3) := by decide +kernel
theorem dX12_append_38 : decode cX12_append 38 = .ok (.dup, 1) := by decide +kernel
theorem dX12_append_39 : decode cX12_append 39 = .ok (.ldc_w 318, 3) := by decide +kernel
theorem dX12_append_42 : decode cX12_append 42 = .ok (.invokespecial 320, 3) := by decide +kernel
theorem dX12_append_45 : decode cX12_append 45 = .ok (.athrow, 1) := by decide +kernel
theorem dX12_append_46 : decode cX12_append 46 = .ok (.aload_n 0, 1) := by decide +kernel
theorem dX12_append_47 : decode cX12_append 47 = .ok (.getfield 43, 3) := by decide +kernel
theorem dX12_append_50 : decode cX12_append 50 = .ok (.getfield 321, 3) := by decide +kernel
theorem dX12_append_53 : decode cX12_append 53 = .ok (.aload_n 0, 1) := by decide +kernel
theorem dX12_append_54 : decode cX12_append 54 = .ok (.getfield 43, 3) := by decide +kernel
theorem dX12_append_57 : decode cX12_append 57 = .ok (.getfield 313, 3) := by decide +kernel
theorem dX12_append_60 : decode cX12_append 60 = .ok (.iload_n 1, 1) := by decide +kernel
theorem dX12_append_61 : decode cX12_append 61 = .ok (.castore, 1) := by decide +kernel
theorem dX12_append_62 : decode cX12_append 62 = .ok (.aload_n 0, 1) := by decide +kernel
theorem dX12_append_63 : decode cX12_append 63 = .ok (.getfield 43, 3) := by decide +kernel
theorem dX12_append_66 : decode cX12_append 66 = .ok (.dup, 1) := by decide +kernel
theorem dX12_append_67 : decode cX12_append 67 = .ok (.getfield 313, 3) := by decide +kernel
theorem dX12_append_70 : decode cX12_append 70 = .ok (.iconst 1, 1) := by decide +kernel
theorem dX12_append_71 : decode cX12_append 71 = .ok (.iadd, 1) := by decide +kernel
theorem dX12_append_72 : decode cX12_append 72 = .ok (.putfield 313, 3) := by decide +kernel
theorem dX12_append_75 : decode cX12_append 75 = .ok (.aload_n 0, 1) := by decide +kernel
theorem dX12_append_76 : decode cX12_append 76 = .ok (.getfield 43, 3) := by decide +kernel
theorem dX12_append_79 : decode cX12_append 79 = .ok (.getfield 313, 3) := by decide +kernel
theorem dX12_append_82 : decode cX12_append 82 = .ok (.ireturn, 1) := by decide +kernel
set_option maxRecDepth 20000 in
theorem ggX12_run_X6_parse : GoodIn wsX12_run wsX6_parse := goodIn_ca (goodIn_r _ [18, 19, 20, 21, 22, 23, 24, 25, 26, 17, 27, 28, 29, 30, 31, 32, 33, 34, 35, 36, 37, 38, 39, 40, 41, 42, 43, 44, 45, 46, 47, 48, 49, 50, 51, 52, 53, 54, 55, 56, 57, 58, 59, 60, 61, 62, 63, 64, 65, 66, 67, 68, 69, 70, 71, 72, 73, 74, 75, 76, 77, 78, 79, 80, 81, 82, 83, 84, 85, 86, 87, 88, 89, 90, 91, 92, 93, 94, 95, 96, 97, 98, 99, 100, 101, 102, 103, 104, 105, 106, 107, 108, 109, 110, 111, 112, 113, 114, 115, 116, 117, 118, 119, 120, 121, 122, 123, 124, 125, 126, 127, 128, 129, 130, 131, 132, 133, 134, 135, 136, 137, 138, 139, 140, 141, 142, 143, 144, 145, 146, 147, 148, 149, 150, 151, 152, 153, 154, 155, 156, 157, 158, 159, 160, 161, 162, 163, 164, 165, 166, 167, 168, 169, 170, 171, 172, 173, 366, 367, 368, 369, 370, 371, 372, 373, 374, 375, 376] rfl (by decide +kernel)) (goodIn_sub (fun _ h => List.mem_cons_of_mem _ (List.mem_append_left _ (List.mem_append_left _ (List.mem_append_left _ (List.mem_append_right _ h))))) (by decide +kernel))
set_option maxRecDepth 20000 in
theorem gX12_run_X6_parse : GoodIn wsX12_run (wsV RX12 324 RX6 yX6_parse wsX6_parse) := goodIn_app (goodIn_of _ (by decide +kernel)) ggX12_run_X6_parse
set_option maxRecDepth 20000 in
theorem ggX12_run_X11_copyFrom : GoodIn wsX12_run wsX11_copyFrom := goodIn_ca (goodIn_r _ [178, 179, 180, 181, 182, 183, 184, 185, 186, 187, 188, 189, 190, 191, 192, 193, 194, 195, 196, 197, 198, 199, 200, 201, 202, 203, 204, 205, 206, 207, 208, 209, 210, 211, 212, 213, 214, 215, 377, 378, 379, 380, 381, 382, 383, 384, 385, 386, 387, 388, 389, 390, 391, 392, 393, 394, 395] rfl (by decide +kernel)) (goodIn_sub (fun _ h => List.mem_cons_of_mem _ (List.mem_append_left _ (List.mem_append_left _ (List.mem_append_left _ (List.mem_append_right _ h))))) (by decide +kernel))
set_option maxRecDepth 20000 in
theorem gX12_run_X11_copyFrom : GoodIn wsX12_run (wsV RX12 81 RX11 yX11_copyFrom wsX11_copyFrom) := goodIn_app (goodIn_of _ (by decide +kernel)) ggX12_run_X11_copyFrom
set_option maxRecDepth 20000 in
theorem ggX12_run_X12_carryOut : GoodIn wsX12_run wsX12_carryOut := goodIn_ca (goodIn_r _ [220, 221, 9, 222, 223, 224, 225, 226, 227, 228, 229, 230, 231, 232, 233, 188, 234, 190, 191, 235, 236, 237, 238, 197, 198, 239, 240, 241, 242, 243, 219, 244, 245, 246, 247, 248, 249, 250, 196, 251, 252, 253, 254, 255, 203, 256, 205, 257, 258, 259, 260, 206, 261, 262, 263, 264, 265, 266, 177, 267, 180, 181, 183, 268, 269, 270, 271, 272, 273, 274, 275, 276, 277, 278, 279, 280, 210, 281, 212, 215, 213, 214, 282, 126, 30, 127, 283, 284, 285, 286, 287, 288, 289, 290, 291, 292, 293, 294, 179, 295, 296, 297, 298, 299, 300, 301, 302, 303, 182, 304, 305, 306, 307, 184, 308, 309, 310, 311, 312, 313, 314, 193, 194, 195, 315, 316, 317, 318, 319, 320, 321, 322, 323, 324, 325, 326, 327, 328, 199, 329, 330, 331, 332, 350, 351, 352, 353, 354, 355, 356, 357, 358, 359, 360, 361, 362, 363, 364, 365, 377, 378, 379, 380, 381, 382, 383, 384, 385, 386, 387, 388, 389, 390, 391, 392, 393, 394, 395] rfl (by decide +kernel)) (goodIn_sub (fun _ h => List.mem_cons_of_mem _ (List.mem_append_left _ (List.mem_append_left _ (List.mem_append_left _ (List.mem_append_right _ h))))) (by decide +kernel))
set_option maxRecDepth 20000 in
theorem gX12_run_X12_carryOut : GoodIn wsX12_run (wsV RX12 340 RX12 yX12_carryOut wsX12_carryOut) := goodIn_app (goodIn_of _ (by decide +kernel)) ggX12_run_X12_carryOut
set_option maxRecDepth 20000 in
theorem ggX12_run_X12_settled : GoodIn wsX12_run wsX12_settled := goodIn_ca (goodIn_ca (goodIn_ca (goodIn_ca (goodIn_ca (goodIn_r _ [336, 337, 338, 8, 339, 340, 126, 30, 127, 341, 342, 219, 343, 344, 345, 1, 2, 3, 4, 346, 347, 348, 349, 350, 351, 352, 353, 354, 355, 356, 357, 358, 359, 360, 361, 362, 363, 364, 365] rfl (by decide +kernel)) (goodIn_sub (fun _ h => List.mem_cons_of_mem _ (List.mem_append_left _ (List.mem_append_left _ (List.mem_append_right _ h)))) (by decide +kernel))) (goodIn_sub (fun _ h => List.mem_cons_of_mem _ (List.mem_append_left _ (List.mem_append_left _ (List.mem_append_left _ (List.mem_append_left _ (List.mem_append_left _ (List.mem_append_right _ h))))))) (by decide +kernel))) (goodIn_sub (fun _ h => List.mem_cons_of_mem _ (List.mem_append_left _ (List.mem_append_left _ (List.mem_append_left _ (List.mem_append_left _ (List.mem_append_right _ h)))))) (by decide +kernel))) (goodIn_sub (fun _ h => List.mem_cons_of_mem _ (List.mem_append_left _ (List.mem_append_right _ h))) (by decide +kernel))) (goodIn_sub (fun _ h => List.mem_cons_of_mem _ (List.mem_append_right _ h)) (by decide +kernel))
set_option maxRecDepth 20000 in
theorem gX12_run_X12_settled : GoodIn wsX12_run (wsV RX12 95 RX12 yX12_settled wsX12_settled) := goodIn_app (goodIn_of _ (by decide +kernel)) ggX12_run_X12_settled
theorem dX12_run_0 : decode cX12_run 0 = .ok (.aload_n 0, 1) := by decide +kernel
theorem dX12_run_1 : decode cX12_run 1 = .ok (.getfield 43, 3) := by decide +kernel
theorem dX12_run_4 : decode cX12_run 4 = .ok (.invokevirtual 324, 3) := by decide +kernel
theorem dX12_run_7 : decode cX12_run 7 = .ok (.istore_n 1, 1) := by decide +kernel
theorem dX12_run_8 : decode cX12_run 8 = .ok (.aload_n 0, 1) := by decide +kernel
theorem dX12_run_9 : decode cX12_run 9 = .ok (.getfield 43, 3) := by decide +kernel
theorem dX12_run_12 : decode cX12_run 12 = .ok (.iconst 0, 1) := by decide +kernel
theorem dX12_run_13 : decode cX12_run 13 = .ok (.putfield 313, 3) := by decide +kernel
theorem dX12_run_16 : decode cX12_run 16 = .ok (.iload_n 1, 1) := by decide +kernel
theorem dX12_run_17 : decode cX12_run 17 = .ok (.iconst (-1), 1) := by decide +kernel
theorem dX12_run_18 : decode cX12_run 18 = .ok (.if_icmp .eq 19, 3) := by decide +kernel
theorem dX12_run_21 : decode cX12_run 21 = .ok (.aload_n 0, 1) := by decide +kernel
theorem dX12_run_22 : decode cX12_run 22 = .ok (.iload_n 1, 1) := by decide +kernel
theorem dX12_run_23 : decode cX12_run 23 = .ok (.putfield 47, 3) := by decide +kernel
theorem dX12_run_26 : decode cX12_run 26 = .ok (.new 169, 3) := by decide +kernel
theorem dX12_run_29 : decode cX12_run 29 = .ok (.dup, 1) := by decide +kernel
theorem dX12_run_30 : decode cX12_run 30 = .ok (.ldc_w 327, 3) := by decide +kernel
theorem dX12_run_33 : decode cX12_run 33 = .ok (.invokespecial 173, 3) := by decide +kernel
theorem dX12_run_36 : decode cX12_run 36 = .ok (.athrow, 1) := by decide +kernel
theorem dX12_run_37 : decode cX12_run 37 = .ok (.aload_n 0, 1) := by decide +kernel
theorem dX12_run_38 : decode cX12_run 38 = .ok (.getfield 16, 3) := by decide +kernel
theorem dX12_run_41 : decode cX12_run 41 = .ok (.aload_n 0, 1) := by decide +kernel
theorem dX12_run_42 : decode cX12_run 42 = .ok (.getfield 10, 3) := by decide +kernel
theorem dX12_run_45 : decode cX12_run 45 = .ok (.invokevirtual 81, 3) := by decide +kernel
theorem dX12_run_48 : decode cX12_run 48 = .ok (.iconst 0, 1) := by decide +kernel
theorem dX12_run_49 : decode cX12_run 49 = .ok (.istore_n 2, 1) := by decide +kernel
theorem dX12_run_50 : decode cX12_run 50 = .ok (.iload_n 2, 1) := by decide +kernel
theorem dX12_run_51 : decode cX12_run 51 = .ok (.aload_n 0, 1) := by decide +kernel
theorem dX12_run_52 : decode cX12_run 52 = .ok (.getfield 43, 3) := by decide +kernel
theorem dX12_run_55 : decode cX12_run 55 = .ok (.getfield 329, 3) := by decide +kernel
theorem dX12_run_58 : decode cX12_run 58 = .ok (.if_icmp .ge 61, 3) := by decide +kernel
theorem dX12_run_61 : decode cX12_run 61 = .ok (.aload_n 0, 1) := by decide +kernel
theorem dX12_run_62 : decode cX12_run 62 = .ok (.aload_n 0, 1) := by decide +kernel
theorem dX12_run_63 : decode cX12_run 63 = .ok (.getfield 43, 3) := by decide +kernel
theorem dX12_run_66 : decode cX12_run 66 = .ok (.getfield 332, 3) := by decide +kernel
theorem dX12_run_69 : decode cX12_run 69 = .ok (.iload_n 2, 1) := by decide +kernel
theorem dX12_run_70 : decode cX12_run 70 = .ok (.aaload, 1) := by decide +kernel
theorem dX12_run_71 : decode cX12_run 71 = .ok (.aload_n 0, 1) := by decide +kernel
theorem dX12_run_72 : decode cX12_run 72 = .ok (.getfield 43, 3) := by decide +kernel
theorem dX12_run_75 : decode cX12_run 75 = .ok (.getfield 336, 3) := by decide +kernel
theorem dX12_run_78 : decode cX12_run 78 = .ok (.iload_n 2, 1) := by decide +kernel
theorem dX12_run_79 : decode cX12_run 79 = .ok (.aaload, 1) := by decide +kernel
theorem dX12_run_80 : decode cX12_run 80 = .ok (.invokevirtual 340, 3) := by decide +kernel
theorem dX12_run_83 : decode cX12_run 83 = .ok (.ifCond .ge 30, 3) := by decide +kernel
theorem dX12_run_86 : decode cX12_run 86 = .ok (.aload_n 0, 1) := by decide +kernel
theorem dX12_run_87 : decode cX12_run 87 = .ok (.getfield 10, 3) := by decide +kernel
theorem dX12_run_90 : decode cX12_run 90 = .ok (.aload_n 0, 1) := by decide +kernel
theorem dX12_run_91 : decode cX12_run 91 = .ok (.getfield 16, 3) := by decide +kernel
theorem dX12_run_94 : decode cX12_run 94 = .ok (.invokevirtual 81, 3) := by decide +kernel
theorem dX12_run_97 : decode cX12_run 97 = .ok (.aload_n 0, 1) := by decide +kernel
theorem dX12_run_98 : decode cX12_run 98 = .ok (.iload_n 2, 1) := by decide +kernel
theorem dX12_run_99 : decode cX12_run 99 = .ok (.putfield 50, 3) := by decide +kernel
theorem dX12_run_102 : decode cX12_run 102 = .ok (.new 316, 3) := by decide +kernel
theorem dX12_run_105 : decode cX12_run 105 = .ok (.dup, 1) := by decide +kernel
theorem dX12_run_106 : decode cX12_run 106 = .ok (.ldc_w 344, 3) := by decide +kernel
theorem dX12_run_109 : decode cX12_run 109 = .ok (.invokespecial 320, 3) := by decide +kernel
theorem dX12_run_112 : decode cX12_run 112 = .ok (.athrow, 1) := by decide +kernel
theorem dX12_run_113 : decode cX12_run 113 = .ok (.iinc 2 1, 3) := by decide +kernel
theorem dX12_run_116 : decode cX12_run 116 = .ok (.goto (-66), 3) := by decide +kernel
theorem dX12_run_119 : decode cX12_run 119 = .ok (.aload_n 0, 1) := by decide +kernel
theorem dX12_run_120 : decode cX12_run 120 = .ok (.aload_n 0, 1) := by decide +kernel
theorem dX12_run_121 : decode cX12_run 121 = .ok (.getfield 43, 3) := by decide +kernel
theorem dX12_run_124 : decode cX12_run 124 = .ok (.getfield 329, 3) := by decide +kernel
theorem dX12_run_127 : decode cX12_run 127 = .ok (.invokevirtual 95, 3) := by decide +kernel
theorem dX12_run_130 : decode cX12_run 130 = .ok (.ireturn, 1) := by decide +kernel
set_option maxRecDepth 20000 in
theorem ggX12_carryOut_Jx29ce0_ordinal_8abf5 : GoodIn wsX12_carryOut wsJx29ce0_ordinal_8abf5 := goodIn_r _ [10, 11] rfl (by decide +kernel)
set_option maxRecDepth 20000 in
theorem gX12_carryOut_Jx29ce0_ordinal_8abf5_u351X7 : GoodIn wsX12_carryOut (va_wsU RX12 351 RX7 "java/lang/Enum" ⟨"OpinionReactor$Form", "ordinal", "()I"⟩ yJx29ce0_ordinal_8abf5 wsJx29ce0_ordinal_8abf5) := goodIn_app (goodIn_of _ (by decide +kernel)) ggX12_carryOut_Jx29ce0_ordinal_8abf5
set_option maxRecDepth 20000 in
theorem ggX12_carryOut_X5_enter : GoodIn wsX12_carryOut wsX5_enter := goodIn_ca (goodIn_r _ [16, 17, 18, 166, 167, 168, 169, 170, 171] rfl (by decide +kernel)) (goodIn_sub (fun _ h => List.mem_cons_of_mem _ (List.mem_append_right _ h)) (by decide +kernel))
set_option maxRecDepth 20000 in
theorem gX12_carryOut_X5_enter : GoodIn wsX12_carryOut (wsV RX12 89 RX5 yX5_enter wsX5_enter) := goodIn_app (goodIn_of _ (by decide +kernel)) ggX12_carryOut_X5_enter
set_option maxRecDepth 20000 in
theorem ggX12_carryOut_X5_direct : GoodIn wsX12_carryOut wsX5_direct := goodIn_ca (goodIn_r _ [22, 23, 24, 25, 26, 27, 15, 28, 17, 29, 30, 31, 32, 33, 166, 167, 168, 169, 170, 171] rfl (by decide +kernel)) (goodIn_sub (fun _ h => List.mem_cons_of_mem _ (List.mem_append_right _ h)) (by decide +kernel))
set_option maxRecDepth 20000 in
theorem gX12_carryOut_X5_direct : GoodIn wsX12_carryOut (wsV RX12 98 RX5 yX5_direct wsX5_direct) := goodIn_app (goodIn_of _ (by decide +kernel)) ggX12_carryOut_X5_direct
set_option maxRecDepth 20000 in
theorem ggX12_carryOut_X5_move : GoodIn wsX12_carryOut wsX5_move := goodIn_ca (goodIn_r _ [37, 38, 25, 26, 27, 15, 28, 17, 39, 30, 40, 166, 167, 168, 169, 170, 171] rfl (by decide +kernel)) (goodIn_sub (fun _ h => List.mem_cons_of_mem _ (List.mem_append_right _ h)) (by decide +kernel))
set_option maxRecDepth 20000 in
theorem gX12_carryOut_X5_move : GoodIn wsX12_carryOut (wsV RX12 102 RX5 yX5_move wsX5_move) := goodIn_app (goodIn_of _ (by decide +kernel)) ggX12_carryOut_X5_move
set_option maxRecDepth 20000 in
theorem ggX12_carryOut_X10_renew : GoodIn wsX12_carryOut wsX10_renew := goodIn_ca (goodIn_r _ [45, 46, 39, 30, 40, 47, 48, 49, 44, 50, 51, 52, 53, 54, 172, 173] rfl (by decide +kernel)) (goodIn_sub (fun _ h => List.mem_cons_of_mem _ (List.mem_append_right _ h)) (by decide +kernel))
set_option maxRecDepth 20000 in
theorem gX12_carryOut_X10_renew : GoodIn wsX12_carryOut (wsV RX12 207 RX10 yX10_renew wsX10_renew) := goodIn_app (goodIn_of _ (by decide +kernel)) ggX12_carryOut_X10_renew
set_option maxRecDepth 20000 in
theorem ggX12_carryOut_X11_put : GoodIn wsX12_carryOut wsX11_put := goodIn_ca (goodIn_r _ [59, 60, 61, 62, 63, 64, 65, 44, 66, 51, 39, 30, 40, 67, 68, 69, 70, 71, 72, 46, 47, 48, 49, 50, 52, 53, 54, 73, 74, 75, 76, 77, 78, 79, 80, 81, 82, 83, 84, 85, 159, 160, 161, 162, 163, 164, 165, 172, 173, 174, 175, 176, 177] rfl (by decide +kernel)) (goodIn_sub (fun _ h => List.mem_cons_of_mem _ (List.mem_append_right _ h)) (by decide +kernel))
set_option maxRecDepth 20000 in
theorem gX12_carryOut_X11_put : GoodIn wsX12_carryOut (wsV RX12 213 RX11 yX11_put wsX11_put) := goodIn_app (goodIn_of _ (by decide +kernel)) ggX12_carryOut_X11_put
set_option maxRecDepth 20000 in
theorem ggX12_carryOut_X11_take : GoodIn wsX12_carryOut wsX11_take := goodIn_ca (goodIn_r _ [89, 60, 61, 62, 90, 91, 92, 44, 93, 51, 39, 30, 40, 67, 68, 73, 74, 75, 76, 77, 78, 79, 80, 81, 82, 83, 84, 85, 159, 160, 161, 162, 163, 164, 165, 172, 173, 174, 175, 176, 177] rfl (by decide +kernel)) (goodIn_sub (fun _ h => List.mem_cons_of_mem _ (List.mem_append_right _ h)) (by decide +kernel))
set_option maxRecDepth 20000 in
theorem gX12_carryOut_X11_take : GoodIn wsX12_carryOut (wsV RX12 217 RX11 yX11_take wsX11_take) := goodIn_app (goodIn_of _ (by decide +kernel)) ggX12_carryOut_X11_take
set_option maxRecDepth 20000 in
theorem ggX12_carryOut_X11_heat : GoodIn wsX12_carryOut wsX11_heat := goodIn_ca (goodIn_r _ [97, 98, 99, 61, 62, 100, 26, 27, 15, 28, 17, 101, 30, 102, 103, 73, 74, 75, 76, 77, 78, 79, 80, 81, 82, 83, 84, 85, 159, 160, 161, 162, 163, 164, 165, 166, 167, 168, 169, 170, 171, 174, 175, 176, 177] rfl (by decide +kernel)) (goodIn_sub (fun _ h => List.mem_cons_of_mem _ (List.mem_append_right _ h)) (by decide +kernel))
set_option maxRecDepth 20000 in
theorem gX12_carryOut_X11_heat : GoodIn wsX12_carryOut (wsV RX12 240 RX11 yX11_heat wsX11_heat) := goodIn_app (goodIn_of _ (by decide +kernel)) ggX12_carryOut_X11_heat
set_option maxRecDepth 20000 in
theorem ggX12_carryOut_X11_bound : GoodIn wsX12_carryOut wsX11_bound := goodIn_r _ [107, 108, 159, 160, 161, 162, 163, 164, 165] rfl (by decide +kernel)
set_option maxRecDepth 20000 in
theorem gX12_carryOut_X11_bound : GoodIn wsX12_carryOut (wsV RX12 250 RX11 yX11_bound wsX11_bound) := goodIn_app (goodIn_of _ (by decide +kernel)) ggX12_carryOut_X11_bound
set_option maxRecDepth 20000 in
theorem ggX12_carryOut_X11_advance : GoodIn wsX12_carryOut wsX11_advance := goodIn_ca (goodIn_r _ [112, 113, 114, 115, 116, 58, 117, 62, 98, 118, 119, 99, 120, 121, 122, 123, 108, 60, 61, 124, 125, 126, 127, 128, 129, 130, 131, 132, 29, 30, 31, 133, 48, 49, 44, 50, 51, 52, 53, 54, 101, 102, 103, 134, 135, 136, 15, 137, 17, 138, 139, 140, 141, 142, 69, 70, 71, 72, 46, 73, 74, 75, 76, 77, 78, 79, 80, 81, 82, 83, 84, 85, 159, 160, 161, 162, 163, 164, 165, 166, 167, 168, 169, 170, 171, 172, 173, 174, 175, 176, 177] rfl (by decide +kernel)) (goodIn_sub (fun _ h => List.mem_cons_of_mem _ (List.mem_append_right _ h)) (by decide +kernel))
set_option maxRecDepth 20000 in
theorem gX12_carryOut_X11_advance : GoodIn wsX12_carryOut (wsV RX12 247 RX11 yX11_advance wsX11_advance) := goodIn_app (goodIn_of _ (by decide +kernel)) ggX12_carryOut_X11_advance
theorem dX12_carryOut_0 : decode cX12_carryOut 0 = .ok (.aload_n 2, 1) := by decide +kernel
theorem dX12_carryOut_1 : decode cX12_carryOut 1 = .ok (.iconst 0, 1) := by decide +kernel
theorem dX12_carryOut_2 : decode cX12_carryOut 2 = .ok (.iaload, 1) := by decide +kernel
theorem dX12_carryOut_3 : decode cX12_carryOut 3 = .ok (.istore_n 3, 1) := by decide +kernel
theorem dX12_carryOut_4 : decode cX12_carryOut 4 = .ok (.aload_n 2, 1) := by decide +kernel
theorem dX12_carryOut_5 : decode cX12_carryOut 5 = .ok (.iconst 1, 1) := by decide +kernel
theorem dX12_carryOut_6 : decode cX12_carryOut 6 = .ok (.iaload, 1) := by decide +kernel
theorem dX12_carryOut_7 : decode cX12_carryOut 7 = .ok (.istore 4, 2) := by decide +kernel
theorem dX12_carryOut_9 : decode cX12_carryOut 9 = .ok (.aload_n 2, 1) := by decide +kernel
theorem dX12_carryOut_10 : decode cX12_carryOut 10 = .ok (.iconst 2, 1) := by decide +kernel
theorem dX12_carryOut_11 : decode cX12_carryOut 11 = .ok (.iaload, 1) := by decide +kernel
theorem dX12_carryOut_12 : decode cX12_carryOut 12 = .ok (.istore 5, 2) := by decide +kernel
theorem dX12_carryOut_14 : decode cX12_carryOut 14 = .ok (.getstatic 346, 3) := by decide +kernel
theorem dX12_carryOut_17 : decode cX12_carryOut 17 = .ok (.aload_n 1, 1) := by decide +kernel
theorem dX12_carryOut_18 : decode cX12_carryOut 18 = .ok (.invokevirtual 351, 3) := by decide +kernel
theorem dX12_carryOut_21 : decode cX12_carryOut 21 = .ok (.iaload, 1) := by decide +kernel
theorem dX12_carryOut_22 : decode cX12_carryOut 22 = .ok (.tableswitch 166 1 9 #[50, 62, 77, 92, 106, 121, 135, 146, 157], 50) := by decide +kernel
theorem dX12_carryOut_72 : decode cX12_carryOut 72 = .ok (.aload_n 0, 1) := by decide +kernel
theorem dX12_carryOut_73 : decode cX12_carryOut 73 = .ok (.getfield 10, 3) := by decide +kernel
theorem dX12_carryOut_76 : decode cX12_carryOut 76 = .ok (.getfield 85, 3) := by decide +kernel
theorem dX12_carryOut_79 : decode cX12_carryOut 79 = .ok (.iload_n 3, 1) := by decide +kernel
theorem dX12_carryOut_80 : decode cX12_carryOut 80 = .ok (.invokevirtual 89, 3) := by decide +kernel
theorem dX12_carryOut_83 : decode cX12_carryOut 83 = .ok (.ireturn, 1) := by decide +kernel
theorem dX12_carryOut_84 : decode cX12_carryOut 84 = .ok (.aload_n 0, 1) := by decide +kernel
theorem dX12_carryOut_85 : decode cX12_carryOut 85 = .ok (.getfield 10, 3) := by decide +kernel
theorem dX12_carryOut_88 : decode cX12_carryOut 88 = .ok (.getfield 85, 3) := by decide +kernel
theorem dX12_carryOut_91 : decode cX12_carryOut 91 = .ok (.iload_n 3, 1) := by decide +kernel
theorem dX12_carryOut_92 : decode cX12_carryOut 92 = .ok (.iload 4, 2) := by decide +kernel
theorem dX12_carryOut_94 : decode cX12_carryOut 94 = .ok (.iconst 1, 1) := by decide +kernel
theorem dX12_carryOut_95 : decode cX12_carryOut 95 = .ok (.invokevirtual 98, 3) := by decide +kernel
theorem dX12_carryOut_98 : decode cX12_carryOut 98 = .ok (.ireturn, 1) := by decide +kernel
theorem dX12_carryOut_99 : decode cX12_carryOut 99 = .ok (.aload_n 0, 1) := by decide +kernel
theorem dX12_carryOut_100 : decode cX12_carryOut 100 = .ok (.getfield 10, 3) := by decide +kernel
theorem dX12_carryOut_103 : decode cX12_carryOut 103 = .ok (.getfield 85, 3) := by decide +kernel
theorem dX12_carryOut_106 : decode cX12_carryOut 106 = .ok (.iload_n 3, 1) := by decide +kernel
theorem dX12_carryOut_107 : decode cX12_carryOut 107 = .ok (.iload 4, 2) := by decide +kernel
theorem dX12_carryOut_109 : decode cX12_carryOut 109 = .ok (.iconst 0, 1) := by decide +kernel
theorem dX12_carryOut_110 : decode cX12_carryOut 110 = .ok (.invokevirtual 98, 3) := by decide +kernel
theorem dX12_carryOut_113 : decode cX12_carryOut 113 = .ok (.ireturn, 1) := by decide +kernel
theorem dX12_carryOut_114 : decode cX12_carryOut 114 = .ok (.aload_n 0, 1) := by decide +kernel
theorem dX12_carryOut_115 : decode cX12_carryOut 115 = .ok (.getfield 10, 3) := by decide +kernel
theorem dX12_carryOut_118 : decode cX12_carryOut 118 = .ok (.getfield 85, 3) := by decide +kernel
theorem dX12_carryOut_121 : decode cX12_carryOut 121 = .ok (.iload_n 3, 1) := by decide +kernel
theorem dX12_carryOut_122 : decode cX12_carryOut 122 = .ok (.iload 4, 2) := by decide +kernel
theorem dX12_carryOut_124 : decode cX12_carryOut 124 = .ok (.invokevirtual 102, 3) := by decide +kernel
theorem dX12_carryOut_127 : decode cX12_carryOut 127 = .ok (.ireturn, 1) := by decide +kernel
theorem dX12_carryOut_128 : decode cX12_carryOut 128 = .ok (.aload_n 0, 1) := by decide +kernel
theorem dX12_carryOut_129 : decode cX12_carryOut 129 = .ok (.getfield 10, 3) := by decide +kernel
theorem dX12_carryOut_132 : decode cX12_carryOut 132 = .ok (.getfield 203, 3) := by decide +kernel
theorem dX12_carryOut_135 : decode cX12_carryOut 135 = .ok (.iload_n 3, 1) := by decide +kernel
theorem dX12_carryOut_136 : decode cX12_carryOut 136 = .ok (.iload 4, 2) := by decide +kernel
theorem dX12_carryOut_138 : decode cX12_carryOut 138 = .ok (.i2c, 1) := by decide +kernel
theorem dX12_carryOut_139 : decode cX12_carryOut 139 = .ok (.invokevirtual 207, 3) := by decide +kernel
theorem dX12_carryOut_142 : decode cX12_carryOut 142 = .ok (.ireturn, 1) := by decide +kernel
theorem dX12_carryOut_143 : decode cX12_carryOut 143 = .ok (.aload_n 0, 1) := by decide +kernel
theorem dX12_carryOut_144 : decode cX12_carryOut 144 = .ok (.getfield 10, 3) := by decide +kernel
theorem dX12_carryOut_147 : decode cX12_carryOut 147 = .ok (.iload_n 3, 1) := by decide +kernel
theorem dX12_carryOut_148 : decode cX12_carryOut 148 = .ok (.iload 4, 2) := by decide +kernel
theorem dX12_carryOut_150 : decode cX12_carryOut 150 = .ok (.iload 5, 2) := by decide +kernel
theorem dX12_carryOut_152 : decode cX12_carryOut 152 = .ok (.i2c, 1) := by decide +kernel
theorem dX12_carryOut_153 : decode cX12_carryOut 153 = .ok (.invokevirtual 213, 3) := by decide +kernel
theorem dX12_carryOut_156 : decode cX12_carryOut 156 = .ok (.ireturn, 1) := by decide +kernel
theorem dX12_carryOut_157 : decode cX12_carryOut 157 = .ok (.aload_n 0, 1) := by decide +kernel
theorem dX12_carryOut_158 : decode cX12_carryOut 158 = .ok (.getfield 10, 3) := by decide +kernel
theorem dX12_carryOut_161 : decode cX12_carryOut 161 = .ok (.iload_n 3, 1) := by decide +kernel
theorem dX12_carryOut_162 : decode cX12_carryOut 162 = .ok (.iload 4, 2) := by decide +kernel
theorem dX12_carryOut_164 : decode cX12_carryOut 164 = .ok (.invokevirtual 217, 3) := by decide +kernel
theorem dX12_carryOut_167 : decode cX12_carryOut 167 = .ok (.ireturn, 1) := by decide +kernel
theorem dX12_carryOut_168 : decode cX12_carryOut 168 = .ok (.aload_n 0, 1) := by decide +kernel
theorem dX12_carryOut_169 : decode cX12_carryOut 169 = .ok (.getfield 10, 3) := by decide +kernel
theorem dX12_carryOut_172 : decode cX12_carryOut 172 = .ok (.iload_n 3, 1) := by decide +kernel
theorem dX12_carryOut_173 : decode cX12_carryOut 173 = .ok (.iload 4, 2) := by decide +kernel
theorem dX12_carryOut_175 : decode cX12_carryOut 175 = .ok (.invokevirtual 240, 3) := by decide +kernel
theorem dX12_carryOut_178 : decode cX12_carryOut 178 = .ok (.ireturn, 1) := by decide +kernel
theorem dX12_carryOut_179 : decode cX12_carryOut 179 = .ok (.aload_n 0, 1) := by decide +kernel
theorem dX12_carryOut_180 : decode cX12_carryOut 180 = .ok (.getfield 10, 3) := by decide +kernel
theorem dX12_carryOut_183 : decode cX12_carryOut 183 = .ok (.iload_n 3, 1) := by decide +kernel
theorem dX12_carryOut_184 : decode cX12_carryOut 184 = .ok (.invokevirtual 250, 3) := by decide +kernel
theorem dX12_carryOut_187 : decode cX12_carryOut 187 = .ok (.ireturn, 1) := by decide +kernel
theorem dX12_carryOut_188 : decode cX12_carryOut 188 = .ok (.aload_n 0, 1) := by decide +kernel
theorem dX12_carryOut_189 : decode cX12_carryOut 189 = .ok (.getfield 10, 3) := by decide +kernel
theorem dX12_carryOut_192 : decode cX12_carryOut 192 = .ok (.iload_n 3, 1) := by decide +kernel
theorem dX12_carryOut_193 : decode cX12_carryOut 193 = .ok (.invokevirtual 247, 3) := by decide +kernel
theorem dX12_carryOut_196 : decode cX12_carryOut 196 = .ok (.ireturn, 1) := by decide +kernel
theorem dX12_errorPosition_0 : decode cX12_errorPosition 0 = .ok (.aload_n 0, 1) := by decide +kernel
theorem dX12_errorPosition_1 : decode cX12_errorPosition 1 = .ok (.getfield 47, 3) := by decide +kernel
theorem dX12_errorPosition_4 : decode cX12_errorPosition 4 = .ok (.iconst (-1), 1) := by decide +kernel
theorem dX12_errorPosition_5 : decode cX12_errorPosition 5 = .ok (.if_icmp .ne 14, 3) := by decide +kernel
theorem dX12_errorPosition_8 : decode cX12_errorPosition 8 = .ok (.new 275, 3) := by decide +kernel
theorem dX12_errorPosition_11 : decode cX12_errorPosition 11 = .ok (.dup, 1) := by decide +kernel
theorem dX12_errorPosition_12 : decode cX12_errorPosition 12 = .ok (.ldc_w 356, 3) := by decide +kernel
theorem dX12_errorPosition_15 : decode cX12_errorPosition 15 = .ok (.invokespecial 279, 3) := by decide +kernel
theorem dX12_errorPosition_18 : decode cX12_errorPosition 18 = .ok (.athrow, 1) := by decide +kernel
theorem dX12_errorPosition_19 : decode cX12_errorPosition 19 = .ok (.aload_n 0, 1) := by decide +kernel
theorem dX12_errorPosition_20 : decode cX12_errorPosition 20 = .ok (.getfield 47, 3) := by decide +kernel
theorem dX12_errorPosition_23 : decode cX12_errorPosition 23 = .ok (.ireturn, 1) := by decide +kernel
theorem dX12_failedCommand_0 : decode cX12_failedCommand 0 = .ok (.aload_n 0, 1) := by decide +kernel
theorem dX12_failedCommand_1 : decode cX12_failedCommand 1 = .ok (.getfield 50, 3) := by decide +kernel
theorem dX12_failedCommand_4 : decode cX12_failedCommand 4 = .ok (.iconst (-1), 1) := by decide +kernel
theorem dX12_failedCommand_5 : decode cX12_failedCommand 5 = .ok (.if_icmp .ne 14, 3) := by decide +kernel
theorem dX12_failedCommand_8 : decode cX12_failedCommand 8 = .ok (.new 275, 3) := by decide +kernel
theorem dX12_failedCommand_11 : decode cX12_failedCommand 11 = .ok (.dup, 1) := by decide +kernel
theorem dX12_failedCommand_12 : decode cX12_failedCommand 12 = .ok (.ldc_w 358, 3) := by decide +kernel
theorem dX12_failedCommand_15 : decode cX12_failedCommand 15 = .ok (.invokespecial 279, 3) := by decide +kernel
theorem dX12_failedCommand_18 : decode cX12_failedCommand 18 = .ok (.athrow, 1) := by decide +kernel
theorem dX12_failedCommand_19 : decode cX12_failedCommand 19 = .ok (.aload_n 0, 1) := by decide +kernel
theorem dX12_failedCommand_20 : decode cX12_failedCommand 20 = .ok (.getfield 50, 3) := by decide +kernel
theorem dX12_failedCommand_23 : decode cX12_failedCommand 23 = .ok (.ireturn, 1) := by decide +kernel
set_option maxRecDepth 20000 in
theorem ggX12_describeClaim_X12_needClaim : GoodIn wsX12_describeClaim wsX12_needClaim := goodIn_ca (goodIn_r _ [10, 11, 12, 2, 3, 13, 14, 15, 16, 17, 18, 59, 60, 61, 62, 63, 64, 65, 66, 67, 68, 69, 70, 71, 72, 73, 74, 75, 76, 77, 78, 79, 80, 81, 82, 83, 84, 85, 86, 87] rfl (by decide +kernel)) (goodIn_sub (fun _ h => List.mem_cons_of_mem _ (List.mem_append_right _ h)) (by decide +kernel))
set_option maxRecDepth 20000 in
theorem gX12_describeClaim_X12_needClaim : GoodIn wsX12_describeClaim (wsV RX12 109 RX12 yX12_needClaim wsX12_needClaim) := goodIn_app (goodIn_of _ (by decide +kernel)) ggX12_describeClaim_X12_needClaim
set_option maxRecDepth 20000 in
theorem ggX12_describeClaim_X12_digit : GoodIn wsX12_describeClaim wsX12_digit := goodIn_r _ [21] rfl (by decide +kernel)
set_option maxRecDepth 20000 in
theorem gX12_describeClaim_X12_digit : GoodIn wsX12_describeClaim (va_wsS RX12 360 yX12_digit wsX12_digit) := goodIn_app (goodIn_of _ (by decide +kernel)) ggX12_describeClaim_X12_digit
set_option maxRecDepth 20000 in
theorem ggX12_describeClaim_X12_write : GoodIn wsX12_describeClaim wsX12_write := goodIn_ca (goodIn_r _ [25, 1, 26, 59, 60, 61, 62, 63, 64, 65, 66, 67, 68, 69, 70, 71, 72, 73, 74] rfl (by decide +kernel)) (goodIn_sub (fun _ h => List.mem_cons_of_mem _ (List.mem_append_left _ (List.mem_append_right _ h))) (by decide +kernel))
set_option maxRecDepth 20000 in
theorem gX12_describeClaim_X12_write : GoodIn wsX12_describeClaim (wsV RX12 364 RX12 yX12_write wsX12_write) := goodIn_app (goodIn_of _ (by decide +kernel)) ggX12_describeClaim_X12_write
set_option maxRecDepth 20000 in
theorem ggX12_describeClaim_X12_statusSign : GoodIn wsX12_describeClaim wsX12_statusSign := goodIn_ca (goodIn_r _ [30, 31, 32, 33, 9, 34, 2, 3, 35, 36, 37, 38, 39, 40, 41, 42, 43, 44, 45, 46, 16, 47, 18, 48, 49, 50, 51, 52, 53, 54, 55, 56, 57, 58, 59, 60, 61, 62, 63, 64, 65, 66, 67, 68, 69, 70, 71, 72, 73, 74, 75, 76, 77, 78, 79, 80, 81, 82, 83, 84, 85, 86, 87] rfl (by decide +kernel)) (goodIn_sub (fun _ h => List.mem_cons_of_mem _ (List.mem_append_left _ (List.mem_append_right _ h))) (by decide +kernel))
set_option maxRecDepth 20000 in
theorem gX12_describeClaim_X12_statusSign : GoodIn wsX12_describeClaim (wsV RX12 368 RX12 yX12_statusSign wsX12_statusSign) := goodIn_app (goodIn_of _ (by decide +kernel)) ggX12_describeClaim_X12_statusSign
set_option maxRecDepth 20000 in
theorem ggX12_describeClaim_X12_contains : GoodIn wsX12_describeClaim wsX12_contains := goodIn_r _ [50] rfl (by decide +kernel)
set_option maxRecDepth 20000 in
theorem gX12_describeClaim_X12_contains : GoodIn wsX12_describeClaim (va_wsS RX12 123 yX12_contains wsX12_contains) := goodIn_app (goodIn_of _ (by decide +kernel)) ggX12_describeClaim_X12_contains
theorem dX12_describeClaim_0 : decode cX12_describeClaim 0 = .ok (.aload_n 0, 1) := by decide +kernel
theorem dX12_describeClaim_1 : decode cX12_describeClaim 1 = .ok (.iload_n 1, 1) := by decide +kernel
theorem dX12_describeClaim_2 : decode cX12_describeClaim 2 = .ok (.invokevirtual 109, 3) := by decide +kernel
theorem dX12_describeClaim_5 : decode cX12_describeClaim 5 = .ok (.aload_n 0, 1) := by decide +kernel
theorem dX12_describeClaim_6 : decode cX12_describeClaim 6 = .ok (.iconst 0, 1) := by decide +kernel
theorem dX12_describeClaim_7 : decode cX12_describeClaim 7 = .ok (.putfield 57, 3) := by decide +kernel
theorem dX12_describeClaim_10 : decode cX12_describeClaim 10 = .ok (.aload_n 0, 1) := by decide +kernel
theorem dX12_describeClaim_11 : decode cX12_describeClaim 11 = .ok (.iload_n 1, 1) := by decide +kernel
theorem dX12_describeClaim_12 : decode cX12_describeClaim 12 = .ok (.invokestatic 360, 3) := by decide +kernel
theorem dX12_describeClaim_15 : decode cX12_describeClaim 15 = .ok (.invokevirtual 364, 3) := by decide +kernel
theorem dX12_describeClaim_18 : decode cX12_describeClaim 18 = .ok (.aload_n 0, 1) := by decide +kernel
theorem dX12_describeClaim_19 : decode cX12_describeClaim 19 = .ok (.aload_n 0, 1) := by decide +kernel
theorem dX12_describeClaim_20 : decode cX12_describeClaim 20 = .ok (.iload_n 1, 1) := by decide +kernel
theorem dX12_describeClaim_21 : decode cX12_describeClaim 21 = .ok (.invokevirtual 368, 3) := by decide +kernel
theorem dX12_describeClaim_24 : decode cX12_describeClaim 24 = .ok (.invokevirtual 364, 3) := by decide +kernel
theorem dX12_describeClaim_27 : decode cX12_describeClaim 27 = .ok (.iconst 0, 1) := by decide +kernel
theorem dX12_describeClaim_28 : decode cX12_describeClaim 28 = .ok (.istore_n 2, 1) := by decide +kernel
theorem dX12_describeClaim_29 : decode cX12_describeClaim 29 = .ok (.iload_n 2, 1) := by decide +kernel
theorem dX12_describeClaim_30 : decode cX12_describeClaim 30 = .ok (.aload_n 0, 1) := by decide +kernel
theorem dX12_describeClaim_31 : decode cX12_describeClaim 31 = .ok (.getfield 10, 3) := by decide +kernel
theorem dX12_describeClaim_34 : decode cX12_describeClaim 34 = .ok (.getfield 85, 3) := by decide +kernel
theorem dX12_describeClaim_37 : decode cX12_describeClaim 37 = .ok (.getfield 106, 3) := by decide +kernel
theorem dX12_describeClaim_40 : decode cX12_describeClaim 40 = .ok (.if_icmp .ge 36, 3) := by decide +kernel
theorem dX12_describeClaim_43 : decode cX12_describeClaim 43 = .ok (.aload_n 0, 1) := by decide +kernel
theorem dX12_describeClaim_44 : decode cX12_describeClaim 44 = .ok (.getfield 10, 3) := by decide +kernel
theorem dX12_describeClaim_47 : decode cX12_describeClaim 47 = .ok (.getfield 85, 3) := by decide +kernel
theorem dX12_describeClaim_50 : decode cX12_describeClaim 50 = .ok (.getfield 120, 3) := by decide +kernel
theorem dX12_describeClaim_53 : decode cX12_describeClaim 53 = .ok (.iload_n 1, 1) := by decide +kernel
theorem dX12_describeClaim_54 : decode cX12_describeClaim 54 = .ok (.iaload, 1) := by decide +kernel
theorem dX12_describeClaim_55 : decode cX12_describeClaim 55 = .ok (.iload_n 2, 1) := by decide +kernel
theorem dX12_describeClaim_56 : decode cX12_describeClaim 56 = .ok (.invokestatic 123, 3) := by decide +kernel
theorem dX12_describeClaim_59 : decode cX12_describeClaim 59 = .ok (.ifCond .eq 11, 3) := by decide +kernel
theorem dX12_describeClaim_62 : decode cX12_describeClaim 62 = .ok (.aload_n 0, 1) := by decide +kernel
theorem dX12_describeClaim_63 : decode cX12_describeClaim 63 = .ok (.iload_n 2, 1) := by decide +kernel
theorem dX12_describeClaim_64 : decode cX12_describeClaim 64 = .ok (.invokestatic 360, 3) := by decide +kernel
theorem dX12_describeClaim_67 : decode cX12_describeClaim 67 = .ok (.invokevirtual 364, 3) := by decide +kernel
theorem dX12_describeClaim_70 : decode cX12_describeClaim 70 = .ok (.iinc 2 1, 3) := by decide +kernel
theorem dX12_describeClaim_73 : decode cX12_describeClaim 73 = .ok (.goto (-44), 3) := by decide +kernel
theorem dX12_describeClaim_76 : decode cX12_describeClaim 76 = .ok (.aload_n 0, 1) := by decide +kernel
theorem dX12_describeClaim_77 : decode cX12_describeClaim 77 = .ok (.getfield 57, 3) := by decide +kernel
theorem dX12_describeClaim_80 : decode cX12_describeClaim 80 = .ok (.ireturn, 1) := by decide +kernel
set_option maxRecDepth 20000 in
theorem ggX12_statusSign_X12_acceptedBits : GoodIn wsX12_statusSign wsX12_acceptedBits := goodIn_ca (goodIn_r _ [5, 6, 7, 8, 9, 10, 11, 12, 13, 14, 15, 16, 17, 18, 19, 20, 21, 22, 23, 24, 4, 25, 26, 27, 34, 35, 36, 37, 38, 39, 40, 41, 42, 43, 44, 45, 46, 47, 48, 49, 50, 51, 52, 53, 54, 55, 56, 57, 58, 59, 60, 61, 62] rfl (by decide +kernel)) (goodIn_sub (fun _ h => List.mem_cons_of_mem _ (List.mem_append_right _ h)) (by decide +kernel))
set_option maxRecDepth 20000 in
theorem gX12_statusSign_X12_acceptedBits : GoodIn wsX12_statusSign (wsV RX12 141 RX12 yX12_acceptedBits wsX12_acceptedBits) := goodIn_app (goodIn_of _ (by decide +kernel)) ggX12_statusSign_X12_acceptedBits
set_option maxRecDepth 20000 in
theorem ggX12_statusSign_X12_contains : GoodIn wsX12_statusSign wsX12_contains := goodIn_r _ [25] rfl (by decide +kernel)
set_option maxRecDepth 20000 in
theorem gX12_statusSign_X12_contains : GoodIn wsX12_statusSign (va_wsS RX12 123 yX12_contains wsX12_contains) := goodIn_app (goodIn_of _ (by decide +kernel)) ggX12_statusSign_X12_contains
set_option maxRecDepth 20000 in
theorem ggX12_statusSign_X12_rejectedBits : GoodIn wsX12_statusSign wsX12_rejectedBits := goodIn_ca (goodIn_r _ [32, 6, 7, 1, 2, 3, 4, 5, 8, 9, 10, 11, 12, 13, 14, 15, 16, 17, 18, 19, 20, 21, 22, 23, 24, 25, 26, 27, 33, 34, 35, 36, 37, 38, 39, 40, 41, 42, 43, 44, 45, 46, 47, 48, 49, 50, 51, 52, 53, 54, 55, 56, 57, 58, 59, 60, 61, 62] rfl (by decide +kernel)) (goodIn_sub (fun _ h => List.mem_cons_of_mem _ (List.mem_append_right _ h)) (by decide +kernel))
set_option maxRecDepth 20000 in
theorem gX12_statusSign_X12_rejectedBits : GoodIn wsX12_statusSign (wsV RX12 134 RX12 yX12_rejectedBits wsX12_rejectedBits) := goodIn_app (goodIn_of _ (by decide +kernel)) ggX12_statusSign_X12_rejectedBits
theorem dX12_statusSign_0 : decode cX12_statusSign 0 = .ok (.aload_n 0, 1) := by decide +kernel
theorem dX12_statusSign_1 : decode cX12_statusSign 1 = .ok (.invokevirtual 141, 3) := by decide +kernel
theorem dX12_statusSign_4 : decode cX12_statusSign 4 = .ok (.iload_n 1, 1) := by decide +kernel
theorem dX12_statusSign_5 : decode cX12_statusSign 5 = .ok (.invokestatic 123, 3) := by decide +kernel
theorem dX12_statusSign_8 : decode cX12_statusSign 8 = .ok (.ifCond .eq 6, 3) := by decide +kernel
theorem dX12_statusSign_11 : decode cX12_statusSign 11 = .ok (.bipush 43, 2) := by decide +kernel
theorem dX12_statusSign_13 : decode cX12_statusSign 13 = .ok (.ireturn, 1) := by decide +kernel
theorem dX12_statusSign_14 : decode cX12_statusSign 14 = .ok (.aload_n 0, 1) := by decide +kernel
theorem dX12_statusSign_15 : decode cX12_statusSign 15 = .ok (.invokevirtual 134, 3) := by decide +kernel
theorem dX12_statusSign_18 : decode cX12_statusSign 18 = .ok (.iload_n 1, 1) := by decide +kernel
theorem dX12_statusSign_19 : decode cX12_statusSign 19 = .ok (.invokestatic 123, 3) := by decide +kernel
theorem dX12_statusSign_22 : decode cX12_statusSign 22 = .ok (.ifCond .eq 8, 3) := by decide +kernel
theorem dX12_statusSign_25 : decode cX12_statusSign 25 = .ok (.bipush 45, 2) := by decide +kernel
theorem dX12_statusSign_27 : decode cX12_statusSign 27 = .ok (.goto 5, 3) := by decide +kernel
theorem dX12_statusSign_30 : decode cX12_statusSign 30 = .ok (.bipush 63, 2) := by decide +kernel
theorem dX12_statusSign_32 : decode cX12_statusSign 32 = .ok (.ireturn, 1) := by decide +kernel
set_option maxRecDepth 20000 in
theorem ggX12_describeRacks_X12_write : GoodIn wsX12_describeRacks wsX12_write := goodIn_ca (goodIn_r _ [10, 1, 11, 12, 13, 14, 15, 16, 17, 18, 19, 20, 21, 22, 23, 24, 25, 26, 27] rfl (by decide +kernel)) (goodIn_sub (fun _ h => List.mem_cons_of_mem _ (List.mem_append_right _ h)) (by decide +kernel))
set_option maxRecDepth 20000 in
theorem gX12_describeRacks_X12_write : GoodIn wsX12_describeRacks (wsV RX12 364 RX12 yX12_write wsX12_write) := goodIn_app (goodIn_of _ (by decide +kernel)) ggX12_describeRacks_X12_write
theorem dX12_describeRacks_0 : decode cX12_describeRacks 0 = .ok (.aload_n 0, 1) := by decide +kernel
theorem dX12_describeRacks_1 : decode cX12_describeRacks 1 = .ok (.iconst 0, 1) := by decide +kernel
theorem dX12_describeRacks_2 : decode cX12_describeRacks 2 = .ok (.putfield 57, 3) := by decide +kernel
theorem dX12_describeRacks_5 : decode cX12_describeRacks 5 = .ok (.iconst 0, 1) := by decide +kernel
theorem dX12_describeRacks_6 : decode cX12_describeRacks 6 = .ok (.istore_n 1, 1) := by decide +kernel
theorem dX12_describeRacks_7 : decode cX12_describeRacks 7 = .ok (.iload_n 1, 1) := by decide +kernel
theorem dX12_describeRacks_8 : decode cX12_describeRacks 8 = .ok (.iconst 4, 1) := by decide +kernel
theorem dX12_describeRacks_9 : decode cX12_describeRacks 9 = .ok (.if_icmp .ge 68, 3) := by decide +kernel
theorem dX12_describeRacks_12 : decode cX12_describeRacks 12 = .ok (.iload_n 1, 1) := by decide +kernel
theorem dX12_describeRacks_13 : decode cX12_describeRacks 13 = .ok (.ifCond .le 9, 3) := by decide +kernel
theorem dX12_describeRacks_16 : decode cX12_describeRacks 16 = .ok (.aload_n 0, 1) := by decide +kernel
theorem dX12_describeRacks_17 : decode cX12_describeRacks 17 = .ok (.bipush 32, 2) := by decide +kernel
theorem dX12_describeRacks_19 : decode cX12_describeRacks 19 = .ok (.invokevirtual 364, 3) := by decide +kernel
theorem dX12_describeRacks_22 : decode cX12_describeRacks 22 = .ok (.aload_n 0, 1) := by decide +kernel
theorem dX12_describeRacks_23 : decode cX12_describeRacks 23 = .ok (.aload_n 0, 1) := by decide +kernel
theorem dX12_describeRacks_24 : decode cX12_describeRacks 24 = .ok (.getfield 10, 3) := by decide +kernel
theorem dX12_describeRacks_27 : decode cX12_describeRacks 27 = .ok (.getfield 203, 3) := by decide +kernel
theorem dX12_describeRacks_30 : decode cX12_describeRacks 30 = .ok (.getfield 371, 3) := by decide +kernel
theorem dX12_describeRacks_33 : decode cX12_describeRacks 33 = .ok (.iload_n 1, 1) := by decide +kernel
theorem dX12_describeRacks_34 : decode cX12_describeRacks 34 = .ok (.caload, 1) := by decide +kernel
theorem dX12_describeRacks_35 : decode cX12_describeRacks 35 = .ok (.invokevirtual 364, 3) := by decide +kernel
theorem dX12_describeRacks_38 : decode cX12_describeRacks 38 = .ok (.iconst 0, 1) := by decide +kernel
theorem dX12_describeRacks_39 : decode cX12_describeRacks 39 = .ok (.istore_n 2, 1) := by decide +kernel
theorem dX12_describeRacks_40 : decode cX12_describeRacks 40 = .ok (.iload_n 2, 1) := by decide +kernel
theorem dX12_describeRacks_41 : decode cX12_describeRacks 41 = .ok (.iconst 3, 1) := by decide +kernel
theorem dX12_describeRacks_42 : decode cX12_describeRacks 42 = .ok (.if_icmp .ge 29, 3) := by decide +kernel
theorem dX12_describeRacks_45 : decode cX12_describeRacks 45 = .ok (.aload_n 0, 1) := by decide +kernel
theorem dX12_describeRacks_46 : decode cX12_describeRacks 46 = .ok (.aload_n 0, 1) := by decide +kernel
theorem dX12_describeRacks_47 : decode cX12_describeRacks 47 = .ok (.getfield 10, 3) := by decide +kernel
theorem dX12_describeRacks_50 : decode cX12_describeRacks 50 = .ok (.getfield 203, 3) := by decide +kernel
theorem dX12_describeRacks_53 : decode cX12_describeRacks 53 = .ok (.getfield 232, 3) := by decide +kernel
theorem dX12_describeRacks_56 : decode cX12_describeRacks 56 = .ok (.iload_n 1, 1) := by decide +kernel
theorem dX12_describeRacks_57 : decode cX12_describeRacks 57 = .ok (.iconst 3, 1) := by decide +kernel
theorem dX12_describeRacks_58 : decode cX12_describeRacks 58 = .ok (.imul, 1) := by decide +kernel
theorem dX12_describeRacks_59 : decode cX12_describeRacks 59 = .ok (.iload_n 2, 1) := by decide +kernel
theorem dX12_describeRacks_60 : decode cX12_describeRacks 60 = .ok (.iadd, 1) := by decide +kernel
theorem dX12_describeRacks_61 : decode cX12_describeRacks 61 = .ok (.caload, 1) := by decide +kernel
theorem dX12_describeRacks_62 : decode cX12_describeRacks 62 = .ok (.invokevirtual 364, 3) := by decide +kernel
theorem dX12_describeRacks_65 : decode cX12_describeRacks 65 = .ok (.iinc 2 1, 3) := by decide +kernel
theorem dX12_describeRacks_68 : decode cX12_describeRacks 68 = .ok (.goto (-28), 3) := by decide +kernel
theorem dX12_describeRacks_71 : decode cX12_describeRacks 71 = .ok (.iinc 1 1, 3) := by decide +kernel
theorem dX12_describeRacks_74 : decode cX12_describeRacks 74 = .ok (.goto (-67), 3) := by decide +kernel
theorem dX12_describeRacks_77 : decode cX12_describeRacks 77 = .ok (.aload_n 0, 1) := by decide +kernel
theorem dX12_describeRacks_78 : decode cX12_describeRacks 78 = .ok (.getfield 57, 3) := by decide +kernel
theorem dX12_describeRacks_81 : decode cX12_describeRacks 81 = .ok (.ireturn, 1) := by decide +kernel
theorem dX12_write_0 : decode cX12_write 0 = .ok (.aload_n 0, 1) := by decide +kernel
theorem dX12_write_1 : decode cX12_write 1 = .ok (.getfield 57, 3) := by decide +kernel
theorem dX12_write_4 : decode cX12_write 4 = .ok (.aload_n 0, 1) := by decide +kernel
theorem dX12_write_5 : decode cX12_write 5 = .ok (.getfield 53, 3) := by decide +kernel
theorem dX12_write_8 : decode cX12_write 8 = .ok (.arraylength, 1) := by decide +kernel
theorem dX12_write_9 : decode cX12_write 9 = .ok (.if_icmp .ge 23, 3) := by decide +kernel
theorem dX12_write_12 : decode cX12_write 12 = .ok (.aload_n 0, 1) := by decide +kernel
theorem dX12_write_13 : decode cX12_write 13 = .ok (.getfield 53, 3) := by decide +kernel
theorem dX12_write_16 : decode cX12_write 16 = .ok (.aload_n 0, 1) := by decide +kernel
theorem dX12_write_17 : decode cX12_write 17 = .ok (.getfield 57, 3) := by decide +kernel
theorem dX12_write_20 : decode cX12_write 20 = .ok (.iload_n 1, 1) := by decide +kernel
theorem dX12_write_21 : decode cX12_write 21 = .ok (.castore, 1) := by decide +kernel
theorem dX12_write_22 : decode cX12_write 22 = .ok (.aload_n 0, 1) := by decide +kernel
theorem dX12_write_23 : decode cX12_write 23 = .ok (.dup, 1) := by decide +kernel
theorem dX12_write_24 : decode cX12_write 24 = .ok (.getfield 57, 3) := by decide +kernel
theorem dX12_write_27 : decode cX12_write 27 = .ok (.iconst 1, 1) := by decide +kernel
theorem dX12_write_28 : decode cX12_write 28 = .ok (.iadd, 1) := by decide +kernel
theorem dX12_write_29 : decode cX12_write 29 = .ok (.putfield 57, 3) := by decide +kernel
theorem dX12_write_32 : decode cX12_write 32 = .ok (.return_, 1) := by decide +kernel
theorem dX12_lineAt_0 : decode cX12_lineAt 0 = .ok (.iload_n 1, 1) := by decide +kernel
theorem dX12_lineAt_1 : decode cX12_lineAt 1 = .ok (.ifCond .lt 11, 3) := by decide +kernel
theorem dX12_lineAt_4 : decode cX12_lineAt 4 = .ok (.iload_n 1, 1) := by decide +kernel
theorem dX12_lineAt_5 : decode cX12_lineAt 5 = .ok (.aload_n 0, 1) := by decide +kernel
theorem dX12_lineAt_6 : decode cX12_lineAt 6 = .ok (.getfield 57, 3) := by decide +kernel
theorem dX12_lineAt_9 : decode cX12_lineAt 9 = .ok (.if_icmp .lt 14, 3) := by decide +kernel
theorem dX12_lineAt_12 : decode cX12_lineAt 12 = .ok (.new 227, 3) := by decide +kernel
theorem dX12_lineAt_15 : decode cX12_lineAt 15 = .ok (.dup, 1) := by decide +kernel
theorem dX12_lineAt_16 : decode cX12_lineAt 16 = .ok (.ldc_w 372, 3) := by decide +kernel
theorem dX12_lineAt_19 : decode cX12_lineAt 19 = .ok (.invokespecial 231, 3) := by decide +kernel
theorem dX12_lineAt_22 : decode cX12_lineAt 22 = .ok (.athrow, 1) := by decide +kernel
theorem dX12_lineAt_23 : decode cX12_lineAt 23 = .ok (.aload_n 0, 1) := by decide +kernel
theorem dX12_lineAt_24 : decode cX12_lineAt 24 = .ok (.getfield 53, 3) := by decide +kernel
theorem dX12_lineAt_27 : decode cX12_lineAt 27 = .ok (.iload_n 1, 1) := by decide +kernel
theorem dX12_lineAt_28 : decode cX12_lineAt 28 = .ok (.caload, 1) := by decide +kernel
theorem dX12_lineAt_29 : decode cX12_lineAt 29 = .ok (.ireturn, 1) := by decide +kernel
set_option maxRecDepth 20000 in
theorem ggX12_meanWeight_X5_all : GoodIn wsX12_meanWeight wsX5_all := goodIn_r _ [10, 11, 12, 13, 14, 45, 46, 47, 48, 49, 50] rfl (by decide +kernel)
set_option maxRecDepth 20000 in
theorem gX12_meanWeight_X5_all : GoodIn wsX12_meanWeight (wsV RX12 138 RX5 yX5_all wsX5_all) := goodIn_app (goodIn_of _ (by decide +kernel)) ggX12_meanWeight_X5_all
set_option maxRecDepth 20000 in
theorem ggX12_meanWeight_X5_weightOfSet : GoodIn wsX12_meanWeight wsX5_weightOfSet := goodIn_ca (goodIn_r _ [18, 11, 19, 20, 13, 21, 45, 46, 47, 48, 49, 50] rfl (by decide +kernel)) (goodIn_sub (fun _ h => List.mem_cons_of_mem _ (List.mem_append_right _ h)) (by decide +kernel))
set_option maxRecDepth 20000 in
theorem gX12_meanWeight_X5_weightOfSet : GoodIn wsX12_meanWeight (wsV RX12 163 RX5 yX5_weightOfSet wsX5_weightOfSet) := goodIn_app (goodIn_of _ (by decide +kernel)) ggX12_meanWeight_X5_weightOfSet
theorem dX12_meanWeight_0 : decode cX12_meanWeight 0 = .ok (.aload_n 0, 1) := by decide +kernel
theorem dX12_meanWeight_1 : decode cX12_meanWeight 1 = .ok (.getfield 10, 3) := by decide +kernel
theorem dX12_meanWeight_4 : decode cX12_meanWeight 4 = .ok (.getfield 85, 3) := by decide +kernel
theorem dX12_meanWeight_7 : decode cX12_meanWeight 7 = .ok (.astore_n 1, 1) := by decide +kernel
theorem dX12_meanWeight_8 : decode cX12_meanWeight 8 = .ok (.aload_n 1, 1) := by decide +kernel
theorem dX12_meanWeight_9 : decode cX12_meanWeight 9 = .ok (.getfield 106, 3) := by decide +kernel
theorem dX12_meanWeight_12 : decode cX12_meanWeight 12 = .ok (.ifCond .ne 14, 3) := by decide +kernel
theorem dX12_meanWeight_15 : decode cX12_meanWeight 15 = .ok (.new 374, 3) := by decide +kernel
theorem dX12_meanWeight_18 : decode cX12_meanWeight 18 = .ok (.dup, 1) := by decide +kernel
theorem dX12_meanWeight_19 : decode cX12_meanWeight 19 = .ok (.ldc_w 376, 3) := by decide +kernel
theorem dX12_meanWeight_22 : decode cX12_meanWeight 22 = .ok (.invokespecial 378, 3) := by decide +kernel
theorem dX12_meanWeight_25 : decode cX12_meanWeight 25 = .ok (.athrow, 1) := by decide +kernel
theorem dX12_meanWeight_26 : decode cX12_meanWeight 26 = .ok (.aload_n 1, 1) := by decide +kernel
theorem dX12_meanWeight_27 : decode cX12_meanWeight 27 = .ok (.aload_n 1, 1) := by decide +kernel
theorem dX12_meanWeight_28 : decode cX12_meanWeight 28 = .ok (.invokevirtual 138, 3) := by decide +kernel
theorem dX12_meanWeight_31 : decode cX12_meanWeight 31 = .ok (.invokevirtual 163, 3) := by decide +kernel
theorem dX12_meanWeight_34 : decode cX12_meanWeight 34 = .ok (.i2d, 1) := by decide +kernel
theorem dX12_meanWeight_35 : decode cX12_meanWeight 35 = .ok (.aload_n 1, 1) := by decide +kernel
theorem dX12_meanWeight_36 : decode cX12_meanWeight 36 = .ok (.getfield 106, 3) := by decide +kernel
theorem dX12_meanWeight_39 : decode cX12_meanWeight 39 = .ok (.i2d, 1) := by decide +kernel
theorem dX12_meanWeight_40 : decode cX12_meanWeight 40 = .ok (.ddiv, 1) := by decide +kernel
theorem dX12_meanWeight_41 : decode cX12_meanWeight 41 = .ok (.dreturn, 1) := by decide +kernel
set_option maxRecDepth 20000 in
theorem ggX12_isConsistent_X12_acceptedBits : GoodIn wsX12_isConsistent wsX12_acceptedBits := goodIn_ca (goodIn_r _ [7, 1, 2, 8, 9, 10, 11, 12, 13, 14, 15, 16, 17, 18, 19, 20, 21, 22, 23, 24, 6, 25, 26, 27, 209, 210, 211, 212, 213, 214, 215, 216, 217, 218, 219, 220, 221, 222, 223, 224, 225, 226, 227, 228, 229, 230, 231, 232, 233, 234, 235, 236, 237] rfl (by decide +kernel)) (goodIn_sub (fun _ h => List.mem_cons_of_mem _ (List.mem_append_left _ (List.mem_append_left _ (List.mem_append_right _ h)))) (by decide +kernel))
set_option maxRecDepth 20000 in
theorem gX12_isConsistent_X12_acceptedBits : GoodIn wsX12_isConsistent (wsV RX12 141 RX12 yX12_acceptedBits wsX12_acceptedBits) := goodIn_app (goodIn_of _ (by decide +kernel)) ggX12_isConsistent_X12_acceptedBits
set_option maxRecDepth 20000 in
theorem ggX12_isConsistent_X12_acceptedBitsByLabels : GoodIn wsX12_isConsistent wsX12_acceptedBitsByLabels := goodIn_ca (goodIn_r _ [31, 32, 1, 2, 33, 34, 35, 10, 36, 12, 37, 16, 38, 39, 40, 41, 42, 43, 44, 45, 46, 47, 48, 49, 24, 6, 25, 26, 27, 50, 51, 52, 53, 209, 210, 211, 212, 213, 214, 215, 216, 217, 218, 219, 220, 221, 222, 223, 224, 225, 226, 227, 228, 229, 230, 231, 232, 233, 234, 235, 236, 237, 238] rfl (by decide +kernel)) (goodIn_sub (fun _ h => List.mem_cons_of_mem _ (List.mem_append_left _ (List.mem_append_left _ (List.mem_append_right _ h)))) (by decide +kernel))
set_option maxRecDepth 20000 in
theorem gX12_isConsistent_X12_acceptedBitsByLabels : GoodIn wsX12_isConsistent (wsV RX12 387 RX12 yX12_acceptedBitsByLabels wsX12_acceptedBitsByLabels) := goodIn_app (goodIn_of _ (by decide +kernel)) ggX12_isConsistent_X12_acceptedBitsByLabels
set_option maxRecDepth 20000 in
theorem ggX12_isConsistent_X12_positions : GoodIn wsX12_isConsistent wsX12_positions := goodIn_ca (goodIn_r _ [57, 1, 2, 58, 59, 60, 61, 62, 63, 64, 20, 65, 22, 26, 6, 27, 66, 67, 68, 69, 18, 19, 21, 23, 24, 25, 70, 71, 72, 73, 74, 209, 210, 211, 212, 213, 214, 215, 216, 217, 218, 219, 220, 221, 222, 223, 224, 225, 226, 227, 228, 229, 230, 231, 232, 233, 234, 235, 236, 237] rfl (by decide +kernel)) (goodIn_sub (fun _ h => List.mem_cons_of_mem _ (List.mem_append_left _ (List.mem_append_left _ (List.mem_append_right _ h)))) (by decide +kernel))
set_option maxRecDepth 20000 in
theorem gX12_isConsistent_X12_positions : GoodIn wsX12_isConsistent (wsV RX12 390 RX12 yX12_positions wsX12_positions) := goodIn_app (goodIn_of _ (by decide +kernel)) ggX12_isConsistent_X12_positions
set_option maxRecDepth 20000 in
theorem ggX12_isConsistent_X12_positionsByDeciding : GoodIn wsX12_isConsistent wsX12_positionsByDeciding := goodIn_ca (goodIn_r _ [78, 1, 2, 79, 80, 60, 81, 82, 83, 84, 85, 86, 87, 70, 71, 72, 20, 73, 22, 74, 24, 6, 25, 69, 18, 19, 21, 23, 26, 27, 209, 210, 211, 212, 213, 214, 215, 216, 217, 218, 219, 220, 221, 222, 223, 224, 225, 226, 227, 228, 229, 230, 231, 232, 233, 234, 235, 236, 237] rfl (by decide +kernel)) (goodIn_sub (fun _ h => List.mem_cons_of_mem _ (List.mem_append_left _ (List.mem_append_left _ (List.mem_append_right _ h)))) (by decide +kernel))
set_option maxRecDepth 20000 in
theorem gX12_isConsistent_X12_positionsByDeciding : GoodIn wsX12_isConsistent (wsV RX12 393 RX12 yX12_positionsByDeciding wsX12_positionsByDeciding) := goodIn_app (goodIn_of _ (by decide +kernel)) ggX12_isConsistent_X12_positionsByDeciding
set_option maxRecDepth 20000 in
theorem ggX12_isConsistent_X12_circles : GoodIn wsX12_isConsistent wsX12_circles := goodIn_ca (goodIn_r _ [91, 1, 2, 92, 93, 94, 95, 96, 24, 6, 25, 97, 98, 99, 100, 101, 102, 26, 27, 103, 18, 19, 20, 21, 22, 23, 104, 71, 72, 73, 74, 209, 210, 211, 212, 213, 214, 215, 216, 217, 218, 219, 220, 221, 222, 223, 224, 225, 226, 227, 228, 229, 230, 231, 232, 233, 234, 235, 236, 237] rfl (by decide +kernel)) (goodIn_sub (fun _ h => List.mem_cons_of_mem _ (List.mem_append_left _ (List.mem_append_left _ (List.mem_append_right _ h)))) (by decide +kernel))
set_option maxRecDepth 20000 in
theorem gX12_isConsistent_X12_circles : GoodIn wsX12_isConsistent (wsV RX12 396 RX12 yX12_circles wsX12_circles) := goodIn_app (goodIn_of _ (by decide +kernel)) ggX12_isConsistent_X12_circles
set_option maxRecDepth 20000 in
theorem ggX12_isConsistent_X12_circlesByReach : GoodIn wsX12_isConsistent wsX12_circlesByReach := goodIn_ca (goodIn_r _ [108, 109, 1, 2, 110, 111, 112, 94, 113, 96, 114, 115, 116, 117, 118, 119, 26, 6, 27, 24, 25, 120, 121, 122, 123, 209, 210, 211, 212, 213, 214, 215, 216, 217, 218, 219, 220, 221, 222, 223, 224, 225, 226, 227, 228, 229, 230, 231, 232, 233, 234, 235, 236, 237, 239] rfl (by decide +kernel)) (goodIn_sub (fun _ h => List.mem_cons_of_mem _ (List.mem_append_left _ (List.mem_append_left _ (List.mem_append_right _ h)))) (by decide +kernel))
set_option maxRecDepth 20000 in
theorem gX12_isConsistent_X12_circlesByReach : GoodIn wsX12_isConsistent (wsV RX12 399 RX12 yX12_circlesByReach wsX12_circlesByReach) := goodIn_app (goodIn_of _ (by decide +kernel)) ggX12_isConsistent_X12_circlesByReach
set_option maxRecDepth 20000 in
theorem ggX12_isConsistent_X12_areChainsEqual : GoodIn wsX12_isConsistent wsX12_areChainsEqual := goodIn_ca (goodIn_ca (goodIn_ca (goodIn_r _ [127, 1, 2, 128, 129, 130, 131, 6, 132, 133, 134, 135, 136, 137, 138, 139, 140, 141, 142, 143, 144, 145, 146, 147, 148, 20, 149, 22, 150, 151, 152, 153, 154, 155, 156, 157, 158, 159, 160, 161, 162, 24, 25, 163, 164, 165, 166, 167, 168, 169, 170, 171, 172, 173, 174, 175, 176, 177, 178, 179, 180, 181, 182, 183, 184, 185, 186, 187, 188, 189, 190, 191, 192, 193, 194, 195, 196, 197, 198, 209, 210, 211, 212, 213, 214, 215, 216, 217, 218, 219, 220, 221, 222, 223, 224, 225, 226, 227, 228, 229, 230, 231, 232, 233, 234, 235, 236, 237, 240, 241, 242, 243] rfl (by decide +kernel)) (goodIn_sub (fun _ h => List.mem_cons_of_mem _ (List.mem_append_left _ (List.mem_append_right _ h))) (by decide +kernel))) (goodIn_sub (fun _ h => List.mem_cons_of_mem _ (List.mem_append_right _ h)) (by decide +kernel))) (goodIn_sub (fun _ h => List.mem_cons_of_mem _ (List.mem_append_left _ (List.mem_append_left _ (List.mem_append_right _ h)))) (by decide +kernel))
set_option maxRecDepth 20000 in
theorem gX12_isConsistent_X12_areChainsEqual : GoodIn wsX12_isConsistent (wsV RX12 402 RX12 yX12_areChainsEqual wsX12_areChainsEqual) := goodIn_app (goodIn_of _ (by decide +kernel)) ggX12_isConsistent_X12_areChainsEqual
set_option maxRecDepth 20000 in
theorem ggX12_isConsistent_X9_holds : GoodIn wsX12_isConsistent wsX9_holds := goodIn_ca (goodIn_r _ [68, 69, 18, 19, 20, 21, 22, 23, 24, 6, 25, 70, 71, 72, 73, 74, 232, 233, 234, 235, 236, 237] rfl (by decide +kernel)) (goodIn_sub (fun _ h => List.mem_cons_of_mem _ (List.mem_append_left _ (List.mem_append_left _ (List.mem_append_right _ h)))) (by decide +kernel))
set_option maxRecDepth 20000 in
theorem gX12_isConsistent_X9_holds : GoodIn wsX12_isConsistent (va_wsS RX12 176 yX9_holds wsX9_holds) := goodIn_app (goodIn_of _ (by decide +kernel)) ggX12_isConsistent_X9_holds
set_option maxRecDepth 20000 in
theorem ggX12_isConsistent_X12_power : GoodIn wsX12_isConsistent wsX12_power := goodIn_ca (goodIn_r _ [203, 1, 2, 204, 205, 206, 20, 207, 22, 208, 209, 210, 211, 212, 213, 214, 215, 216, 217, 218, 219, 220, 221, 222, 223, 224, 225, 226, 227, 228, 229, 230, 231, 232, 233, 234, 235, 236, 237] rfl (by decide +kernel)) (goodIn_sub (fun _ h => List.mem_cons_of_mem _ (List.mem_append_left _ (List.mem_append_left _ (List.mem_append_right _ h)))) (by decide +kernel))
set_option maxRecDepth 20000 in
theorem gX12_isConsistent_X12_power : GoodIn wsX12_isConsistent (wsV RX12 267 RX12 yX12_power wsX12_power) := goodIn_app (goodIn_of _ (by decide +kernel)) ggX12_isConsistent_X12_power
theorem dX12_isConsistent_0 : decode cX12_isConsistent 0 = .ok (.aload_n 0, 1) := by decide +kernel
theorem dX12_isConsistent_1 : decode cX12_isConsistent 1 = .ok (.invokevirtual 141, 3) := by decide +kernel
theorem dX12_isConsistent_4 : decode cX12_isConsistent 4 = .ok (.aload_n 0, 1) := by decide +kernel
theorem dX12_isConsistent_5 : decode cX12_isConsistent 5 = .ok (.invokevirtual 387, 3) := by decide +kernel
theorem dX12_isConsistent_8 : decode cX12_isConsistent 8 = .ok (.if_icmp .ne 80, 3) := by decide +kernel
theorem dX12_isConsistent_11 : decode cX12_isConsistent 11 = .ok (.aload_n 0, 1) := by decide +kernel
theorem dX12_isConsistent_12 : decode cX12_isConsistent 12 = .ok (.invokevirtual 390, 3) := by decide +kernel
theorem dX12_isConsistent_15 : decode cX12_isConsistent 15 = .ok (.aload_n 0, 1) := by decide +kernel
theorem dX12_isConsistent_16 : decode cX12_isConsistent 16 = .ok (.invokevirtual 393, 3) := by decide +kernel
theorem dX12_isConsistent_19 : decode cX12_isConsistent 19 = .ok (.if_icmp .ne 69, 3) := by decide +kernel
theorem dX12_isConsistent_22 : decode cX12_isConsistent 22 = .ok (.aload_n 0, 1) := by decide +kernel
theorem dX12_isConsistent_23 : decode cX12_isConsistent 23 = .ok (.invokevirtual 396, 3) := by decide +kernel
theorem dX12_isConsistent_26 : decode cX12_isConsistent 26 = .ok (.aload_n 0, 1) := by decide +kernel
theorem dX12_isConsistent_27 : decode cX12_isConsistent 27 = .ok (.invokevirtual 399, 3) := by decide +kernel
theorem dX12_isConsistent_30 : decode cX12_isConsistent 30 = .ok (.if_icmp .ne 58, 3) := by decide +kernel
theorem dX12_isConsistent_33 : decode cX12_isConsistent 33 = .ok (.aload_n 0, 1) := by decide +kernel
theorem dX12_isConsistent_34 : decode cX12_isConsistent 34 = .ok (.iconst 1, 1) := by decide +kernel
theorem dX12_isConsistent_35 : decode cX12_isConsistent 35 = .ok (.invokevirtual 402, 3) := by decide +kernel
theorem dX12_isConsistent_38 : decode cX12_isConsistent 38 = .ok (.ifCond .eq 50, 3) := by decide +kernel
theorem dX12_isConsistent_41 : decode cX12_isConsistent 41 = .ok (.aload_n 0, 1) := by decide +kernel
theorem dX12_isConsistent_42 : decode cX12_isConsistent 42 = .ok (.iconst 5, 1) := by decide +kernel
theorem dX12_isConsistent_43 : decode cX12_isConsistent 43 = .ok (.invokevirtual 402, 3) := by decide +kernel
theorem dX12_isConsistent_46 : decode cX12_isConsistent 46 = .ok (.ifCond .eq 42, 3) := by decide +kernel
theorem dX12_isConsistent_49 : decode cX12_isConsistent 49 = .ok (.aload_n 0, 1) := by decide +kernel
theorem dX12_isConsistent_50 : decode cX12_isConsistent 50 = .ok (.bipush 30, 2) := by decide +kernel
theorem dX12_isConsistent_52 : decode cX12_isConsistent 52 = .ok (.invokevirtual 402, 3) := by decide +kernel
theorem dX12_isConsistent_55 : decode cX12_isConsistent 55 = .ok (.ifCond .eq 33, 3) := by decide +kernel
theorem dX12_isConsistent_58 : decode cX12_isConsistent 58 = .ok (.aload_n 0, 1) := by decide +kernel
theorem dX12_isConsistent_59 : decode cX12_isConsistent 59 = .ok (.getfield 10, 3) := by decide +kernel
theorem dX12_isConsistent_62 : decode cX12_isConsistent 62 = .ok (.getfield 85, 3) := by decide +kernel
theorem dX12_isConsistent_65 : decode cX12_isConsistent 65 = .ok (.aload_n 0, 1) := by decide +kernel
theorem dX12_isConsistent_66 : decode cX12_isConsistent 66 = .ok (.invokevirtual 141, 3) := by decide +kernel
theorem dX12_isConsistent_69 : decode cX12_isConsistent 69 = .ok (.invokestatic 176, 3) := by decide +kernel
theorem dX12_isConsistent_72 : decode cX12_isConsistent 72 = .ok (.ifCond .eq 16, 3) := by decide +kernel
theorem dX12_isConsistent_75 : decode cX12_isConsistent 75 = .ok (.aload_n 0, 1) := by decide +kernel
theorem dX12_isConsistent_76 : decode cX12_isConsistent 76 = .ok (.invokevirtual 267, 3) := by decide +kernel
theorem dX12_isConsistent_79 : decode cX12_isConsistent 79 = .ok (.fconst 0, 1) := by decide +kernel
theorem dX12_isConsistent_80 : decode cX12_isConsistent 80 = .ok (.fcmp .l, 1) := by decide +kernel
theorem dX12_isConsistent_81 : decode cX12_isConsistent 81 = .ok (.ifCond .lt 7, 3) := by decide +kernel
theorem dX12_isConsistent_84 : decode cX12_isConsistent 84 = .ok (.iconst 1, 1) := by decide +kernel
theorem dX12_isConsistent_85 : decode cX12_isConsistent 85 = .ok (.goto 4, 3) := by decide +kernel
theorem dX12_isConsistent_88 : decode cX12_isConsistent 88 = .ok (.iconst 0, 1) := by decide +kernel
theorem dX12_isConsistent_89 : decode cX12_isConsistent 89 = .ok (.ireturn, 1) := by decide +kernel
set_option maxRecDepth 20000 in
theorem ggX12_areChainsEqual_X12_chains : GoodIn wsX12_areChainsEqual wsX12_chains := goodIn_ca (goodIn_ca (goodIn_ca (goodIn_r _ [8, 9, 1, 2, 10, 11, 12, 7, 13, 14, 15, 16, 17, 18, 19, 20, 21, 22, 23, 24, 25, 26, 27, 28, 29, 30, 31, 32, 33, 34, 35, 36, 37, 38, 39, 40, 41, 42, 43, 44, 45, 46, 47, 48, 49, 50, 51, 52, 53, 54, 55, 56, 57, 58, 59, 60, 61, 62, 63, 64, 65, 79, 80, 81, 82, 83, 84, 85, 86, 87, 88, 89, 90, 91, 92, 93, 94, 95, 96, 97, 98, 99, 100, 101, 102, 103, 104, 105, 106, 107, 108, 109, 110, 111] rfl (by decide +kernel)) (goodIn_sub (fun _ h => List.mem_cons_of_mem _ (List.mem_append_left _ (List.mem_append_left _ (List.mem_append_right _ h)))) (by decide +kernel))) (goodIn_sub (fun _ h => List.mem_cons_of_mem _ (List.mem_append_left _ (List.mem_append_right _ h))) (by decide +kernel))) (goodIn_sub (fun _ h => List.mem_cons_of_mem _ (List.mem_append_right _ h)) (by decide +kernel))
set_option maxRecDepth 20000 in
theorem gX12_areChainsEqual_X12_chains : GoodIn wsX12_areChainsEqual (wsV RX12 405 RX12 yX12_chains wsX12_chains) := goodIn_app (goodIn_of _ (by decide +kernel)) ggX12_areChainsEqual_X12_chains
set_option maxRecDepth 20000 in
theorem ggX12_areChainsEqual_X12_chainsBySteps : GoodIn wsX12_areChainsEqual wsX12_chainsBySteps := goodIn_ca (goodIn_ca (goodIn_ca (goodIn_r _ [69, 9, 1, 2, 10, 11, 12, 7, 13, 14, 15, 16, 17, 18, 19, 20, 21, 22, 23, 24, 25, 26, 27, 70, 71, 72, 31, 73, 33, 51, 74, 34, 43, 44, 45, 46, 75, 76, 77, 78, 56, 41, 42, 57, 58, 59, 60, 79, 80, 81, 82, 83, 84, 85, 86, 87, 88, 89, 90, 91, 92, 93, 94, 95, 96, 97, 98, 99, 100, 101, 102, 103, 104, 105, 106, 107, 108, 109, 110, 111] rfl (by decide +kernel)) (goodIn_sub (fun _ h => List.mem_cons_of_mem _ (List.mem_append_left _ (List.mem_append_left _ (List.mem_append_right _ h)))) (by decide +kernel))) (goodIn_sub (fun _ h => List.mem_cons_of_mem _ (List.mem_append_left _ (List.mem_append_right _ h))) (by decide +kernel))) (goodIn_sub (fun _ h => List.mem_cons_of_mem _ (List.mem_append_right _ h)) (by decide +kernel))
set_option maxRecDepth 20000 in
theorem gX12_areChainsEqual_X12_chainsBySteps : GoodIn wsX12_areChainsEqual (wsV RX12 409 RX12 yX12_chainsBySteps wsX12_chainsBySteps) := goodIn_app (goodIn_of _ (by decide +kernel)) ggX12_areChainsEqual_X12_chainsBySteps
theorem dX12_areChainsEqual_0 : decode cX12_areChainsEqual 0 = .ok (.aload_n 0, 1) := by decide +kernel
theorem dX12_areChainsEqual_1 : decode cX12_areChainsEqual 1 = .ok (.getfield 10, 3) := by decide +kernel
theorem dX12_areChainsEqual_4 : decode cX12_areChainsEqual 4 = .ok (.getfield 85, 3) := by decide +kernel
theorem dX12_areChainsEqual_7 : decode cX12_areChainsEqual 7 = .ok (.getfield 106, 3) := by decide +kernel
theorem dX12_areChainsEqual_10 : decode cX12_areChainsEqual 10 = .ok (.iconst 1, 1) := by decide +kernel
theorem dX12_areChainsEqual_11 : decode cX12_areChainsEqual 11 = .ok (.isub, 1) := by decide +kernel
theorem dX12_areChainsEqual_12 : decode cX12_areChainsEqual 12 = .ok (.istore_n 2, 1) := by decide +kernel
theorem dX12_areChainsEqual_13 : decode cX12_areChainsEqual 13 = .ok (.iload_n 2, 1) := by decide +kernel
theorem dX12_areChainsEqual_14 : decode cX12_areChainsEqual 14 = .ok (.ifCond .lt 20, 3) := by decide +kernel
theorem dX12_areChainsEqual_17 : decode cX12_areChainsEqual 17 = .ok (.aload_n 0, 1) := by decide +kernel
theorem dX12_areChainsEqual_18 : decode cX12_areChainsEqual 18 = .ok (.iconst 0, 1) := by decide +kernel
theorem dX12_areChainsEqual_19 : decode cX12_areChainsEqual 19 = .ok (.iload_n 2, 1) := by decide +kernel
theorem dX12_areChainsEqual_20 : decode cX12_areChainsEqual 20 = .ok (.iload_n 1, 1) := by decide +kernel
theorem dX12_areChainsEqual_21 : decode cX12_areChainsEqual 21 = .ok (.invokevirtual 405, 3) := by decide +kernel
theorem dX12_areChainsEqual_24 : decode cX12_areChainsEqual 24 = .ok (.aload_n 0, 1) := by decide +kernel
theorem dX12_areChainsEqual_25 : decode cX12_areChainsEqual 25 = .ok (.iconst 0, 1) := by decide +kernel
theorem dX12_areChainsEqual_26 : decode cX12_areChainsEqual 26 = .ok (.iload_n 2, 1) := by decide +kernel
theorem dX12_areChainsEqual_27 : decode cX12_areChainsEqual 27 = .ok (.iload_n 1, 1) := by decide +kernel
theorem dX12_areChainsEqual_28 : decode cX12_areChainsEqual 28 = .ok (.invokevirtual 409, 3) := by decide +kernel
theorem dX12_areChainsEqual_31 : decode cX12_areChainsEqual 31 = .ok (.if_icmp .ne 7, 3) := by decide +kernel
theorem dX12_areChainsEqual_34 : decode cX12_areChainsEqual 34 = .ok (.iconst 1, 1) := by decide +kernel
theorem dX12_areChainsEqual_35 : decode cX12_areChainsEqual 35 = .ok (.goto 4, 3) := by decide +kernel
theorem dX12_areChainsEqual_38 : decode cX12_areChainsEqual 38 = .ok (.iconst 0, 1) := by decide +kernel
theorem dX12_areChainsEqual_39 : decode cX12_areChainsEqual 39 = .ok (.ireturn, 1) := by decide +kernel
theorem dX12_undo_0 : decode cX12_undo 0 = .ok (.aload_n 0, 1) := by decide +kernel
theorem dX12_undo_1 : decode cX12_undo 1 = .ok (.getfield 27, 3) := by decide +kernel
theorem dX12_undo_4 : decode cX12_undo 4 = .ok (.ifCond .ne 14, 3) := by decide +kernel
theorem dX12_undo_7 : decode cX12_undo 7 = .ok (.new 316, 3) := by decide +kernel
theorem dX12_undo_10 : decode cX12_undo 10 = .ok (.dup, 1) := by decide +kernel
theorem dX12_undo_11 : decode cX12_undo 11 = .ok (.ldc_w 412, 3) := by decide +kernel
theorem dX12_undo_14 : decode cX12_undo 14 = .ok (.invokespecial 320, 3) := by decide +kernel
theorem dX12_undo_17 : decode cX12_undo 17 = .ok (.athrow, 1) := by decide +kernel
theorem dX12_undo_18 : decode cX12_undo 18 = .ok (.aload_n 0, 1) := by decide +kernel
theorem dX12_undo_19 : decode cX12_undo 19 = .ok (.aload_n 0, 1) := by decide +kernel
theorem dX12_undo_20 : decode cX12_undo 20 = .ok (.getfield 23, 3) := by decide +kernel
theorem dX12_undo_23 : decode cX12_undo 23 = .ok (.bipush 8, 2) := by decide +kernel
theorem dX12_undo_25 : decode cX12_undo 25 = .ok (.iadd, 1) := by decide +kernel
theorem dX12_undo_26 : decode cX12_undo 26 = .ok (.iconst 1, 1) := by decide +kernel
theorem dX12_undo_27 : decode cX12_undo 27 = .ok (.isub, 1) := by decide +kernel
theorem dX12_undo_28 : decode cX12_undo 28 = .ok (.bipush 8, 2) := by decide +kernel
theorem dX12_undo_30 : decode cX12_undo 30 = .ok (.irem, 1) := by decide +kernel
theorem dX12_undo_31 : decode cX12_undo 31 = .ok (.putfield 23, 3) := by decide +kernel
theorem dX12_undo_34 : decode cX12_undo 34 = .ok (.aload_n 0, 1) := by decide +kernel
theorem dX12_undo_35 : decode cX12_undo 35 = .ok (.dup, 1) := by decide +kernel
theorem dX12_undo_36 : decode cX12_undo 36 = .ok (.getfield 27, 3) := by decide +kernel
theorem dX12_undo_39 : decode cX12_undo 39 = .ok (.iconst 1, 1) := by decide +kernel
theorem dX12_undo_40 : decode cX12_undo 40 = .ok (.isub, 1) := by decide +kernel
theorem dX12_undo_41 : decode cX12_undo 41 = .ok (.putfield 27, 3) := by decide +kernel
theorem dX12_undo_44 : decode cX12_undo 44 = .ok (.aload_n 0, 1) := by decide +kernel
theorem dX12_undo_45 : decode cX12_undo 45 = .ok (.getfield 10, 3) := by decide +kernel
theorem dX12_undo_48 : decode cX12_undo 48 = .ok (.astore_n 1, 1) := by decide +kernel
theorem dX12_undo_49 : decode cX12_undo 49 = .ok (.aload_n 0, 1) := by decide +kernel
theorem dX12_undo_50 : decode cX12_undo 50 = .ok (.aload_n 0, 1) := by decide +kernel
theorem dX12_undo_51 : decode cX12_undo 51 = .ok (.getfield 19, 3) := by decide +kernel
theorem dX12_undo_54 : decode cX12_undo 54 = .ok (.aload_n 0, 1) := by decide +kernel
theorem dX12_undo_55 : decode cX12_undo 55 = .ok (.getfield 23, 3) := by decide +kernel
theorem dX12_undo_58 : decode cX12_undo 58 = .ok (.aaload, 1) := by decide +kernel
theorem dX12_undo_59 : decode cX12_undo 59 = .ok (.putfield 10, 3) := by decide +kernel
theorem dX12_undo_62 : decode cX12_undo 62 = .ok (.aload_n 0, 1) := by decide +kernel
theorem dX12_undo_63 : decode cX12_undo 63 = .ok (.getfield 19, 3) := by decide +kernel
theorem dX12_undo_66 : decode cX12_undo 66 = .ok (.aload_n 0, 1) := by decide +kernel
theorem dX12_undo_67 : decode cX12_undo 67 = .ok (.getfield 23, 3) := by decide +kernel
theorem dX12_undo_70 : decode cX12_undo 70 = .ok (.aload_n 1, 1) := by decide +kernel
theorem dX12_undo_71 : decode cX12_undo 71 = .ok (.aastore, 1) := by decide +kernel
theorem dX12_undo_72 : decode cX12_undo 72 = .ok (.aload_n 0, 1) := by decide +kernel
theorem dX12_undo_73 : decode cX12_undo 73 = .ok (.getfield 27, 3) := by decide +kernel
theorem dX12_undo_76 : decode cX12_undo 76 = .ok (.ireturn, 1) := by decide +kernel
set_option maxRecDepth 20000 in
theorem ggX12_save_X11_copyFrom : GoodIn wsX12_save wsX11_copyFrom := goodIn_ca (goodIn_r _ [10, 11, 12, 13, 14, 15, 16, 17, 18, 19, 20, 21, 22, 23, 24, 25, 26, 27, 28, 29, 30, 31, 32, 33, 34, 35, 36, 37, 38, 39, 40, 41, 42, 43, 44, 45, 46, 47, 64, 65, 66, 67, 68, 69, 70, 71, 72, 73, 74, 75, 76, 77, 78, 79, 80, 81, 82] rfl (by decide +kernel)) (goodIn_sub (fun _ h => List.mem_cons_of_mem _ (List.mem_append_right _ h)) (by decide +kernel))
set_option maxRecDepth 20000 in
theorem gX12_save_X11_copyFrom : GoodIn wsX12_save (wsV RX12 81 RX11 yX11_copyFrom wsX11_copyFrom) := goodIn_app (goodIn_of _ (by decide +kernel)) ggX12_save_X11_copyFrom
theorem dX12_save_0 : decode cX12_save 0 = .ok (.aload_n 0, 1) := by decide +kernel
theorem dX12_save_1 : decode cX12_save 1 = .ok (.getfield 30, 3) := by decide +kernel
theorem dX12_save_4 : decode cX12_save 4 = .ok (.aload_n 0, 1) := by decide +kernel
theorem dX12_save_5 : decode cX12_save 5 = .ok (.getfield 10, 3) := by decide +kernel
theorem dX12_save_8 : decode cX12_save 8 = .ok (.invokevirtual 81, 3) := by decide +kernel
theorem dX12_save_11 : decode cX12_save 11 = .ok (.aload_n 0, 1) := by decide +kernel
theorem dX12_save_12 : decode cX12_save 12 = .ok (.iconst 1, 1) := by decide +kernel
theorem dX12_save_13 : decode cX12_save 13 = .ok (.putfield 33, 3) := by decide +kernel
theorem dX12_save_16 : decode cX12_save 16 = .ok (.aload_n 0, 1) := by decide +kernel
theorem dX12_save_17 : decode cX12_save 17 = .ok (.getfield 10, 3) := by decide +kernel
theorem dX12_save_20 : decode cX12_save 20 = .ok (.getfield 85, 3) := by decide +kernel
theorem dX12_save_23 : decode cX12_save 23 = .ok (.getfield 106, 3) := by decide +kernel
theorem dX12_save_26 : decode cX12_save 26 = .ok (.ireturn, 1) := by decide +kernel
set_option maxRecDepth 20000 in
theorem ggX12_restore_X11_copyFrom : GoodIn wsX12_restore wsX11_copyFrom := goodIn_ca (goodIn_r _ [13, 14, 15, 16, 17, 18, 19, 20, 21, 22, 23, 24, 25, 26, 27, 28, 29, 30, 31, 32, 33, 34, 35, 36, 37, 38, 39, 40, 41, 42, 43, 44, 45, 46, 47, 48, 49, 50, 67, 68, 69, 70, 71, 72, 73, 74, 75, 76, 77, 78, 79, 80, 81, 82, 83, 84, 85] rfl (by decide +kernel)) (goodIn_sub (fun _ h => List.mem_cons_of_mem _ (List.mem_append_right _ h)) (by decide +kernel))
set_option maxRecDepth 20000 in
theorem gX12_restore_X11_copyFrom : GoodIn wsX12_restore (wsV RX12 81 RX11 yX11_copyFrom wsX11_copyFrom) := goodIn_app (goodIn_of _ (by decide +kernel)) ggX12_restore_X11_copyFrom
theorem dX12_restore_0 : decode cX12_restore 0 = .ok (.aload_n 0, 1) := by decide +kernel
theorem dX12_restore_1 : decode cX12_restore 1 = .ok (.getfield 33, 3) := by decide +kernel
theorem dX12_restore_4 : decode cX12_restore 4 = .ok (.ifCond .ne 14, 3) := by decide +kernel
theorem dX12_restore_7 : decode cX12_restore 7 = .ok (.new 316, 3) := by decide +kernel
theorem dX12_restore_10 : decode cX12_restore 10 = .ok (.dup, 1) := by decide +kernel
theorem dX12_restore_11 : decode cX12_restore 11 = .ok (.ldc_w 414, 3) := by decide +kernel
theorem dX12_restore_14 : decode cX12_restore 14 = .ok (.invokespecial 320, 3) := by decide +kernel
theorem dX12_restore_17 : decode cX12_restore 17 = .ok (.athrow, 1) := by decide +kernel
theorem dX12_restore_18 : decode cX12_restore 18 = .ok (.aload_n 0, 1) := by decide +kernel
theorem dX12_restore_19 : decode cX12_restore 19 = .ok (.getfield 10, 3) := by decide +kernel
theorem dX12_restore_22 : decode cX12_restore 22 = .ok (.aload_n 0, 1) := by decide +kernel
theorem dX12_restore_23 : decode cX12_restore 23 = .ok (.getfield 30, 3) := by decide +kernel
theorem dX12_restore_26 : decode cX12_restore 26 = .ok (.invokevirtual 81, 3) := by decide +kernel
theorem dX12_restore_29 : decode cX12_restore 29 = .ok (.aload_n 0, 1) := by decide +kernel
theorem dX12_restore_30 : decode cX12_restore 30 = .ok (.iconst 0, 1) := by decide +kernel
theorem dX12_restore_31 : decode cX12_restore 31 = .ok (.putfield 27, 3) := by decide +kernel
theorem dX12_restore_34 : decode cX12_restore 34 = .ok (.aload_n 0, 1) := by decide +kernel
theorem dX12_restore_35 : decode cX12_restore 35 = .ok (.getfield 10, 3) := by decide +kernel
theorem dX12_restore_38 : decode cX12_restore 38 = .ok (.getfield 85, 3) := by decide +kernel
theorem dX12_restore_41 : decode cX12_restore 41 = .ok (.getfield 106, 3) := by decide +kernel
theorem dX12_restore_44 : decode cX12_restore 44 = .ok (.ireturn, 1) := by decide +kernel
set_option maxRecDepth 20000 in
theorem ggX12_settled_X12_refuse : GoodIn wsX12_settled wsX12_refuse := goodIn_ca (goodIn_ca (goodIn_ca (goodIn_ca (goodIn_ca (goodIn_r _ [12, 13, 14, 15, 16, 17, 18, 19, 20, 21, 22] rfl (by decide +kernel)) (goodIn_sub (fun _ h => List.mem_cons_of_mem _ (List.mem_append_left _ (List.mem_append_left _ (List.mem_append_left _ (List.mem_append_left _ (List.mem_append_right _ h)))))) (by decide +kernel))) (goodIn_sub (fun _ h => List.mem_cons_of_mem _ (List.mem_append_left _ (List.mem_append_left _ (List.mem_append_left _ (List.mem_append_right _ h))))) (by decide +kernel))) (goodIn_sub (fun _ h => List.mem_cons_of_mem _ (List.mem_append_left _ (List.mem_append_left _ (List.mem_append_right _ h)))) (by decide +kernel))) (goodIn_sub (fun _ h => List.mem_cons_of_mem _ (List.mem_append_left _ (List.mem_append_right _ h))) (by decide +kernel))) (goodIn_sub (fun _ h => List.mem_cons_of_mem _ (List.mem_append_right _ h)) (by decide +kernel))
set_option maxRecDepth 20000 in
theorem gX12_settled_X12_refuse : GoodIn wsX12_settled (va_wsS RX12 416 yX12_refuse wsX12_refuse) := goodIn_app (goodIn_of _ (by decide +kernel)) ggX12_settled_X12_refuse
theorem dX12_settled_0 : decode cX12_settled 0 = .ok (.iload_n 1, 1) := by decide +kernel
theorem dX12_settled_1 : decode cX12_settled 1 = .ok (.ifCond .ge 7, 3) := by decide +kernel
theorem dX12_settled_4 : decode cX12_settled 4 = .ok (.iload_n 1, 1) := by decide +kernel
theorem dX12_settled_5 : decode cX12_settled 5 = .ok (.invokestatic 416, 3) := by decide +kernel
theorem dX12_settled_8 : decode cX12_settled 8 = .ok (.aload_n 0, 1) := by decide +kernel
theorem dX12_settled_9 : decode cX12_settled 9 = .ok (.getfield 19, 3) := by decide +kernel
theorem dX12_settled_12 : decode cX12_settled 12 = .ok (.aload_n 0, 1) := by decide +kernel
theorem dX12_settled_13 : decode cX12_settled 13 = .ok (.getfield 23, 3) := by decide +kernel
theorem dX12_settled_16 : decode cX12_settled 16 = .ok (.aaload, 1) := by decide +kernel
theorem dX12_settled_17 : decode cX12_settled 17 = .ok (.astore_n 2, 1) := by decide +kernel
theorem dX12_settled_18 : decode cX12_settled 18 = .ok (.aload_n 0, 1) := by decide +kernel
theorem dX12_settled_19 : decode cX12_settled 19 = .ok (.getfield 19, 3) := by decide +kernel
theorem dX12_settled_22 : decode cX12_settled 22 = .ok (.aload_n 0, 1) := by decide +kernel
theorem dX12_settled_23 : decode cX12_settled 23 = .ok (.getfield 23, 3) := by decide +kernel
theorem dX12_settled_26 : decode cX12_settled 26 = .ok (.aload_n 0, 1) := by decide +kernel
theorem dX12_settled_27 : decode cX12_settled 27 = .ok (.getfield 16, 3) := by decide +kernel
theorem dX12_settled_30 : decode cX12_settled 30 = .ok (.aastore, 1) := by decide +kernel
theorem dX12_settled_31 : decode cX12_settled 31 = .ok (.aload_n 0, 1) := by decide +kernel
theorem dX12_settled_32 : decode cX12_settled 32 = .ok (.aload_n 2, 1) := by decide +kernel
theorem dX12_settled_33 : decode cX12_settled 33 = .ok (.putfield 16, 3) := by decide +kernel
theorem dX12_settled_36 : decode cX12_settled 36 = .ok (.aload_n 0, 1) := by decide +kernel
theorem dX12_settled_37 : decode cX12_settled 37 = .ok (.aload_n 0, 1) := by decide +kernel
theorem dX12_settled_38 : decode cX12_settled 38 = .ok (.getfield 23, 3) := by decide +kernel
theorem dX12_settled_41 : decode cX12_settled 41 = .ok (.iconst 1, 1) := by decide +kernel
theorem dX12_settled_42 : decode cX12_settled 42 = .ok (.iadd, 1) := by decide +kernel
theorem dX12_settled_43 : decode cX12_settled 43 = .ok (.bipush 8, 2) := by decide +kernel
theorem dX12_settled_45 : decode cX12_settled 45 = .ok (.irem, 1) := by decide +kernel
theorem dX12_settled_46 : decode cX12_settled 46 = .ok (.putfield 23, 3) := by decide +kernel
theorem dX12_settled_49 : decode cX12_settled 49 = .ok (.aload_n 0, 1) := by decide +kernel
theorem dX12_settled_50 : decode cX12_settled 50 = .ok (.aload_n 0, 1) := by decide +kernel
theorem dX12_settled_51 : decode cX12_settled 51 = .ok (.getfield 27, 3) := by decide +kernel
theorem dX12_settled_54 : decode cX12_settled 54 = .ok (.iconst 1, 1) := by decide +kernel
theorem dX12_settled_55 : decode cX12_settled 55 = .ok (.iadd, 1) := by decide +kernel
theorem dX12_settled_56 : decode cX12_settled 56 = .ok (.bipush 8, 2) := by decide +kernel
theorem dX12_settled_58 : decode cX12_settled 58 = .ok (.invokestatic 419, 3) := by decide +kernel
theorem dX12_settled_61 : decode cX12_settled 61 = .ok (.putfield 27, 3) := by decide +kernel
theorem dX12_settled_64 : decode cX12_settled 64 = .ok (.iload_n 1, 1) := by decide +kernel
theorem dX12_settled_65 : decode cX12_settled 65 = .ok (.ireturn, 1) := by decide +kernel
theorem dX12_refuse_0 : decode cX12_refuse 0 = .ok (.iload_n 0, 1) := by decide +kernel
theorem dX12_refuse_1 : decode cX12_refuse 1 = .ok (.tableswitch 75 (-4) (-1) #[64, 53, 42, 31], 31) := by decide +kernel
theorem dX12_refuse_32 : decode cX12_refuse 32 = .ok (.new 227, 3) := by decide +kernel
theorem dX12_refuse_35 : decode cX12_refuse 35 = .ok (.dup, 1) := by decide +kernel
theorem dX12_refuse_36 : decode cX12_refuse 36 = .ok (.ldc_w 424, 3) := by decide +kernel
theorem dX12_refuse_39 : decode cX12_refuse 39 = .ok (.invokespecial 231, 3) := by decide +kernel
theorem dX12_refuse_42 : decode cX12_refuse 42 = .ok (.athrow, 1) := by decide +kernel
theorem dX12_refuse_43 : decode cX12_refuse 43 = .ok (.new 169, 3) := by decide +kernel
theorem dX12_refuse_46 : decode cX12_refuse 46 = .ok (.dup, 1) := by decide +kernel
theorem dX12_refuse_47 : decode cX12_refuse 47 = .ok (.ldc_w 426, 3) := by decide +kernel
theorem dX12_refuse_50 : decode cX12_refuse 50 = .ok (.invokespecial 173, 3) := by decide +kernel
theorem dX12_refuse_53 : decode cX12_refuse 53 = .ok (.athrow, 1) := by decide +kernel
theorem dX12_refuse_54 : decode cX12_refuse 54 = .ok (.new 316, 3) := by decide +kernel
theorem dX12_refuse_57 : decode cX12_refuse 57 = .ok (.dup, 1) := by decide +kernel
theorem dX12_refuse_58 : decode cX12_refuse 58 = .ok (.ldc_w 428, 3) := by decide +kernel
theorem dX12_refuse_61 : decode cX12_refuse 61 = .ok (.invokespecial 320, 3) := by decide +kernel
theorem dX12_refuse_64 : decode cX12_refuse 64 = .ok (.athrow, 1) := by decide +kernel
theorem dX12_refuse_65 : decode cX12_refuse 65 = .ok (.new 430, 3) := by decide +kernel
theorem dX12_refuse_68 : decode cX12_refuse 68 = .ok (.dup, 1) := by decide +kernel
theorem dX12_refuse_69 : decode cX12_refuse 69 = .ok (.ldc_w 432, 3) := by decide +kernel
theorem dX12_refuse_72 : decode cX12_refuse 72 = .ok (.invokespecial 434, 3) := by decide +kernel
theorem dX12_refuse_75 : decode cX12_refuse 75 = .ok (.athrow, 1) := by decide +kernel
theorem dX12_refuse_76 : decode cX12_refuse 76 = .ok (.new 275, 3) := by decide +kernel
theorem dX12_refuse_79 : decode cX12_refuse 79 = .ok (.dup, 1) := by decide +kernel
theorem dX12_refuse_80 : decode cX12_refuse 80 = .ok (.ldc_w 435, 3) := by decide +kernel
theorem dX12_refuse_83 : decode cX12_refuse 83 = .ok (.invokespecial 279, 3) := by decide +kernel
theorem dX12_refuse_86 : decode cX12_refuse 86 = .ok (.athrow, 1) := by decide +kernel
set_option maxRecDepth 20000 in
theorem ggX12_needClaim_X5_has : GoodIn wsX12_needClaim wsX5_has := goodIn_r _ [9, 10, 34, 35, 36, 37, 38, 39] rfl (by decide +kernel)
set_option maxRecDepth 20000 in
theorem gX12_needClaim_X5_has : GoodIn wsX12_needClaim (wsV RX12 437 RX5 yX5_has wsX5_has) := goodIn_app (goodIn_of _ (by decide +kernel)) ggX12_needClaim_X5_has
theorem dX12_needClaim_0 : decode cX12_needClaim 0 = .ok (.aload_n 0, 1) := by decide +kernel
theorem dX12_needClaim_1 : decode cX12_needClaim 1 = .ok (.getfield 10, 3) := by decide +kernel
theorem dX12_needClaim_4 : decode cX12_needClaim 4 = .ok (.getfield 85, 3) := by decide +kernel
theorem dX12_needClaim_7 : decode cX12_needClaim 7 = .ok (.iload_n 1, 1) := by decide +kernel
theorem dX12_needClaim_8 : decode cX12_needClaim 8 = .ok (.invokevirtual 437, 3) := by decide +kernel
theorem dX12_needClaim_11 : decode cX12_needClaim 11 = .ok (.ifCond .ne 14, 3) := by decide +kernel
theorem dX12_needClaim_14 : decode cX12_needClaim 14 = .ok (.new 227, 3) := by decide +kernel
theorem dX12_needClaim_17 : decode cX12_needClaim 17 = .ok (.dup, 1) := by decide +kernel
theorem dX12_needClaim_18 : decode cX12_needClaim 18 = .ok (.ldc_w 440, 3) := by decide +kernel
theorem dX12_needClaim_21 : decode cX12_needClaim 21 = .ok (.invokespecial 231, 3) := by decide +kernel
theorem dX12_needClaim_24 : decode cX12_needClaim 24 = .ok (.athrow, 1) := by decide +kernel
theorem dX12_needClaim_25 : decode cX12_needClaim 25 = .ok (.return_, 1) := by decide +kernel
theorem dX12_isLayer_0 : decode cX12_isLayer 0 = .ok (.iload_n 0, 1) := by decide +kernel
theorem dX12_isLayer_1 : decode cX12_isLayer 1 = .ok (.ifCond .lt 12, 3) := by decide +kernel
theorem dX12_isLayer_4 : decode cX12_isLayer 4 = .ok (.iload_n 0, 1) := by decide +kernel
theorem dX12_isLayer_5 : decode cX12_isLayer 5 = .ok (.iconst 4, 1) := by decide +kernel
theorem dX12_isLayer_6 : decode cX12_isLayer 6 = .ok (.if_icmp .ge 7, 3) := by decide +kernel
theorem dX12_isLayer_9 : decode cX12_isLayer 9 = .ok (.iconst 1, 1) := by decide +kernel
theorem dX12_isLayer_10 : decode cX12_isLayer 10 = .ok (.goto 4, 3) := by decide +kernel
theorem dX12_isLayer_13 : decode cX12_isLayer 13 = .ok (.iconst 0, 1) := by decide +kernel
theorem dX12_isLayer_14 : decode cX12_isLayer 14 = .ok (.ireturn, 1) := by decide +kernel
theorem dX12_isSlot_0 : decode cX12_isSlot 0 = .ok (.iload_n 0, 1) := by decide +kernel
theorem dX12_isSlot_1 : decode cX12_isSlot 1 = .ok (.ifCond .lt 12, 3) := by decide +kernel
theorem dX12_isSlot_4 : decode cX12_isSlot 4 = .ok (.iload_n 0, 1) := by decide +kernel
theorem dX12_isSlot_5 : decode cX12_isSlot 5 = .ok (.iconst 3, 1) := by decide +kernel
theorem dX12_isSlot_6 : decode cX12_isSlot 6 = .ok (.if_icmp .ge 7, 3) := by decide +kernel
theorem dX12_isSlot_9 : decode cX12_isSlot 9 = .ok (.iconst 1, 1) := by decide +kernel
theorem dX12_isSlot_10 : decode cX12_isSlot 10 = .ok (.goto 4, 3) := by decide +kernel
theorem dX12_isSlot_13 : decode cX12_isSlot 13 = .ok (.iconst 0, 1) := by decide +kernel
theorem dX12_isSlot_14 : decode cX12_isSlot 14 = .ok (.ireturn, 1) := by decide +kernel
theorem dX12_bit_0 : decode cX12_bit 0 = .ok (.iconst 1, 1) := by decide +kernel
theorem dX12_bit_1 : decode cX12_bit 1 = .ok (.iload_n 0, 1) := by decide +kernel
theorem dX12_bit_2 : decode cX12_bit 2 = .ok (.ishl, 1) := by decide +kernel
theorem dX12_bit_3 : decode cX12_bit 3 = .ok (.ireturn, 1) := by decide +kernel
theorem dX12_contains_0 : decode cX12_contains 0 = .ok (.iload_n 0, 1) := by decide +kernel
theorem dX12_contains_1 : decode cX12_contains 1 = .ok (.iload_n 1, 1) := by decide +kernel
theorem dX12_contains_2 : decode cX12_contains 2 = .ok (.ishr, 1) := by decide +kernel
theorem dX12_contains_3 : decode cX12_contains 3 = .ok (.iconst 1, 1) := by decide +kernel
theorem dX12_contains_4 : decode cX12_contains 4 = .ok (.iand, 1) := by decide +kernel
theorem dX12_contains_5 : decode cX12_contains 5 = .ok (.ifCond .eq 7, 3) := by decide +kernel
theorem dX12_contains_8 : decode cX12_contains 8 = .ok (.iconst 1, 1) := by decide +kernel
theorem dX12_contains_9 : decode cX12_contains 9 = .ok (.goto 4, 3) := by decide +kernel
theorem dX12_contains_12 : decode cX12_contains 12 = .ok (.iconst 0, 1) := by decide +kernel
theorem dX12_contains_13 : decode cX12_contains 13 = .ok (.ireturn, 1) := by decide +kernel
theorem dX12_digit_0 : decode cX12_digit 0 = .ok (.bipush 48, 2) := by decide +kernel
theorem dX12_digit_2 : decode cX12_digit 2 = .ok (.iload_n 0, 1) := by decide +kernel
theorem dX12_digit_3 : decode cX12_digit 3 = .ok (.iadd, 1) := by decide +kernel
theorem dX12_digit_4 : decode cX12_digit 4 = .ok (.i2c, 1) := by decide +kernel
theorem dX12_digit_5 : decode cX12_digit 5 = .ok (.ireturn, 1) := by decide +kernel
theorem dX12_capped_0 : decode cX12_capped 0 = .ok (.fload_n 0, 1) := by decide +kernel
theorem dX12_capped_1 : decode cX12_capped 1 = .ok (.ldc_w 442, 3) := by decide +kernel
theorem dX12_capped_4 : decode cX12_capped 4 = .ok (.fcmp .l, 1) := by decide +kernel
theorem dX12_capped_5 : decode cX12_capped 5 = .ok (.ifCond .le 9, 3) := by decide +kernel
theorem dX12_capped_8 : decode cX12_capped 8 = .ok (.ldc_w 442, 3) := by decide +kernel
theorem dX12_capped_11 : decode cX12_capped 11 = .ok (.goto 4, 3) := by decide +kernel
theorem dX12_capped_14 : decode cX12_capped 14 = .ok (.fload_n 0, 1) := by decide +kernel
theorem dX12_capped_15 : decode cX12_capped 15 = .ok (.freturn, 1) := by decide +kernel
