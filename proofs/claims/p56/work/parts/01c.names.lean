theorem dX1_init_0 : decode cX1_init 0 = .ok (.aload_n 0, 1) := by decide +kernel
theorem dX1_init_1 : decode cX1_init 1 = .ok (.invokespecial 3, 3) := by decide +kernel
theorem dX1_init_4 : decode cX1_init 4 = .ok (.aload_n 0, 1) := by decide +kernel
theorem dX1_init_5 : decode cX1_init 5 = .ok (.bipush 10, 2) := by decide +kernel
theorem dX1_init_7 : decode cX1_init 7 = .ok (.newarray .int, 2) := by decide +kernel
theorem dX1_init_9 : decode cX1_init 9 = .ok (.putfield 9, 3) := by decide +kernel
theorem dX1_init_12 : decode cX1_init 12 = .ok (.return_, 1) := by decide +kernel
set_option maxRecDepth 20000 in
theorem ggX1_byRounds_X1_defended : GoodIn wsX1_byRounds wsX1_defended := goodIn_ca (goodIn_r _ [5, 1, 6, 7, 8, 9, 10, 11, 12, 13, 14, 15, 16, 17, 18, 19, 20, 21, 22, 23, 24] rfl (by decide +kernel)) (goodIn_sub (fun _ h => List.mem_cons_of_mem _ (List.mem_append_right _ h)) (by decide +kernel))
set_option maxRecDepth 20000 in
theorem gX1_byRounds_X1_defended : GoodIn wsX1_byRounds (va_wsS RX1 21 yX1_defended wsX1_defended) := goodIn_app (goodIn_of _ (by decide +kernel)) ggX1_byRounds_X1_defended
theorem dX1_byRounds_0 : decode cX1_byRounds 0 = .ok (.iconst 0, 1) := by decide +kernel
theorem dX1_byRounds_1 : decode cX1_byRounds 1 = .ok (.istore_n 1, 1) := by decide +kernel
theorem dX1_byRounds_2 : decode cX1_byRounds 2 = .ok (.iconst 0, 1) := by decide +kernel
theorem dX1_byRounds_3 : decode cX1_byRounds 3 = .ok (.istore_n 2, 1) := by decide +kernel
theorem dX1_byRounds_4 : decode cX1_byRounds 4 = .ok (.iload_n 2, 1) := by decide +kernel
theorem dX1_byRounds_5 : decode cX1_byRounds 5 = .ok (.aload_n 0, 1) := by decide +kernel
theorem dX1_byRounds_6 : decode cX1_byRounds 6 = .ok (.getfield 15, 3) := by decide +kernel
theorem dX1_byRounds_9 : decode cX1_byRounds 9 = .ok (.if_icmp .gt 27, 3) := by decide +kernel
theorem dX1_byRounds_12 : decode cX1_byRounds 12 = .ok (.iload_n 1, 1) := by decide +kernel
theorem dX1_byRounds_13 : decode cX1_byRounds 13 = .ok (.aload_n 0, 1) := by decide +kernel
theorem dX1_byRounds_14 : decode cX1_byRounds 14 = .ok (.iload_n 1, 1) := by decide +kernel
theorem dX1_byRounds_15 : decode cX1_byRounds 15 = .ok (.invokestatic 21, 3) := by decide +kernel
theorem dX1_byRounds_18 : decode cX1_byRounds 18 = .ok (.ior, 1) := by decide +kernel
theorem dX1_byRounds_19 : decode cX1_byRounds 19 = .ok (.istore_n 3, 1) := by decide +kernel
theorem dX1_byRounds_20 : decode cX1_byRounds 20 = .ok (.iload_n 3, 1) := by decide +kernel
theorem dX1_byRounds_21 : decode cX1_byRounds 21 = .ok (.iload_n 1, 1) := by decide +kernel
theorem dX1_byRounds_22 : decode cX1_byRounds 22 = .ok (.if_icmp .ne 6, 3) := by decide +kernel
theorem dX1_byRounds_25 : decode cX1_byRounds 25 = .ok (.goto 11, 3) := by decide +kernel
theorem dX1_byRounds_28 : decode cX1_byRounds 28 = .ok (.iload_n 3, 1) := by decide +kernel
theorem dX1_byRounds_29 : decode cX1_byRounds 29 = .ok (.istore_n 1, 1) := by decide +kernel
theorem dX1_byRounds_30 : decode cX1_byRounds 30 = .ok (.iinc 2 1, 3) := by decide +kernel
theorem dX1_byRounds_33 : decode cX1_byRounds 33 = .ok (.goto (-29), 3) := by decide +kernel
theorem dX1_byRounds_36 : decode cX1_byRounds 36 = .ok (.iload_n 1, 1) := by decide +kernel
theorem dX1_byRounds_37 : decode cX1_byRounds 37 = .ok (.ireturn, 1) := by decide +kernel
set_option maxRecDepth 20000 in
theorem ggX1_defended_X5_targetsOf : GoodIn wsX1_defended wsX5_targetsOf := goodIn_ca (goodIn_r _ [7, 8, 9, 10, 11, 12, 15, 16, 17, 18, 19, 20] rfl (by decide +kernel)) (goodIn_sub (fun _ h => List.mem_cons_of_mem _ (List.mem_append_right _ h)) (by decide +kernel))
set_option maxRecDepth 20000 in
theorem gX1_defended_X5_targetsOf : GoodIn wsX1_defended (wsV RX1 25 RX5 yX5_targetsOf wsX5_targetsOf) := goodIn_app (goodIn_of _ (by decide +kernel)) ggX1_defended_X5_targetsOf
set_option maxRecDepth 20000 in
theorem ggX1_defended_X12_bit : GoodIn wsX1_defended wsX12_bit := goodIn_r _ [14] rfl (by decide +kernel)
set_option maxRecDepth 20000 in
theorem gX1_defended_X12_bit_n32 : GoodIn wsX1_defended (wsX12_bit) := ggX1_defended_X12_bit
theorem dX1_defended_0 : decode cX1_defended 0 = .ok (.aload_n 0, 1) := by decide +kernel
theorem dX1_defended_1 : decode cX1_defended 1 = .ok (.iload_n 1, 1) := by decide +kernel
theorem dX1_defended_2 : decode cX1_defended 2 = .ok (.invokevirtual 25, 3) := by decide +kernel
theorem dX1_defended_5 : decode cX1_defended 5 = .ok (.istore_n 2, 1) := by decide +kernel
theorem dX1_defended_6 : decode cX1_defended 6 = .ok (.iconst 0, 1) := by decide +kernel
theorem dX1_defended_7 : decode cX1_defended 7 = .ok (.istore_n 3, 1) := by decide +kernel
theorem dX1_defended_8 : decode cX1_defended 8 = .ok (.iconst 0, 1) := by decide +kernel
theorem dX1_defended_9 : decode cX1_defended 9 = .ok (.istore 4, 2) := by decide +kernel
theorem dX1_defended_11 : decode cX1_defended 11 = .ok (.iload 4, 2) := by decide +kernel
theorem dX1_defended_13 : decode cX1_defended 13 = .ok (.aload_n 0, 1) := by decide +kernel
theorem dX1_defended_14 : decode cX1_defended 14 = .ok (.getfield 15, 3) := by decide +kernel
theorem dX1_defended_17 : decode cX1_defended 17 = .ok (.if_icmp .ge 31, 3) := by decide +kernel
theorem dX1_defended_20 : decode cX1_defended 20 = .ok (.aload_n 0, 1) := by decide +kernel
theorem dX1_defended_21 : decode cX1_defended 21 = .ok (.getfield 29, 3) := by decide +kernel
theorem dX1_defended_24 : decode cX1_defended 24 = .ok (.iload 4, 2) := by decide +kernel
theorem dX1_defended_26 : decode cX1_defended 26 = .ok (.iaload, 1) := by decide +kernel
theorem dX1_defended_27 : decode cX1_defended 27 = .ok (.iload_n 2, 1) := by decide +kernel
theorem dX1_defended_28 : decode cX1_defended 28 = .ok (.iconst (-1), 1) := by decide +kernel
theorem dX1_defended_29 : decode cX1_defended 29 = .ok (.ixor, 1) := by decide +kernel
theorem dX1_defended_30 : decode cX1_defended 30 = .ok (.iand, 1) := by decide +kernel
theorem dX1_defended_31 : decode cX1_defended 31 = .ok (.ifCond .ne 11, 3) := by decide +kernel
theorem dX1_defended_34 : decode cX1_defended 34 = .ok (.iload_n 3, 1) := by decide +kernel
theorem dX1_defended_35 : decode cX1_defended 35 = .ok (.iload 4, 2) := by decide +kernel
theorem dX1_defended_37 : decode cX1_defended 37 = .ok (.invokestatic 32, 3) := by decide +kernel
theorem dX1_defended_40 : decode cX1_defended 40 = .ok (.ior, 1) := by decide +kernel
theorem dX1_defended_41 : decode cX1_defended 41 = .ok (.istore_n 3, 1) := by decide +kernel
theorem dX1_defended_42 : decode cX1_defended 42 = .ok (.iinc 4 1, 3) := by decide +kernel
theorem dX1_defended_45 : decode cX1_defended 45 = .ok (.goto (-34), 3) := by decide +kernel
theorem dX1_defended_48 : decode cX1_defended 48 = .ok (.iload_n 3, 1) := by decide +kernel
theorem dX1_defended_49 : decode cX1_defended 49 = .ok (.ireturn, 1) := by decide +kernel
set_option maxRecDepth 20000 in
theorem ggX1_byLabels_J6_bitCount_0f7a4 : GoodIn wsX1_byLabels wsJ6_bitCount_0f7a4 := goodIn_r _ [8, 9, 10, 11] rfl (by decide +kernel)
set_option maxRecDepth 20000 in
theorem gX1_byLabels_J6_bitCount_0f7a4 : GoodIn wsX1_byLabels (va_wsS RX1 35 yJ6_bitCount_0f7a4 wsJ6_bitCount_0f7a4) := goodIn_app (goodIn_of _ (by decide +kernel)) ggX1_byLabels_J6_bitCount_0f7a4
set_option maxRecDepth 20000 in
theorem ggX1_byLabels_X1_nextFree : GoodIn wsX1_byLabels wsX1_nextFree := goodIn_ca (goodIn_r _ [16, 1, 2, 17, 18, 19, 26, 27, 28, 29, 30, 31, 32] rfl (by decide +kernel)) (goodIn_sub (fun _ h => List.mem_cons_of_mem _ (List.mem_append_right _ h)) (by decide +kernel))
set_option maxRecDepth 20000 in
theorem gX1_byLabels_X1_nextFree : GoodIn wsX1_byLabels (wsV RX1 40 RX1 yX1_nextFree wsX1_nextFree) := goodIn_app (goodIn_of _ (by decide +kernel)) ggX1_byLabels_X1_nextFree
set_option maxRecDepth 20000 in
theorem ggX1_byLabels_X12_bit : GoodIn wsX1_byLabels wsX12_bit := goodIn_r _ [21] rfl (by decide +kernel)
set_option maxRecDepth 20000 in
theorem gX1_byLabels_X12_bit_n32 : GoodIn wsX1_byLabels (wsX12_bit) := ggX1_byLabels_X12_bit
set_option maxRecDepth 20000 in
theorem ggX1_byLabels_X1_release : GoodIn wsX1_byLabels wsX1_release := goodIn_ca (goodIn_r _ [25, 1, 2, 3, 5, 6, 7, 8, 9, 10, 11, 26, 27, 28, 29, 30, 31, 32] rfl (by decide +kernel)) (goodIn_sub (fun _ h => List.mem_cons_of_mem _ (List.mem_append_right _ h)) (by decide +kernel))
set_option maxRecDepth 20000 in
theorem gX1_byLabels_X1_release : GoodIn wsX1_byLabels (wsV RX1 46 RX1 yX1_release wsX1_release) := goodIn_app (goodIn_of _ (by decide +kernel)) ggX1_byLabels_X1_release
theorem dX1_byLabels_0 : decode cX1_byLabels 0 = .ok (.iconst 0, 1) := by decide +kernel
theorem dX1_byLabels_1 : decode cX1_byLabels 1 = .ok (.istore_n 2, 1) := by decide +kernel
theorem dX1_byLabels_2 : decode cX1_byLabels 2 = .ok (.iload_n 2, 1) := by decide +kernel
theorem dX1_byLabels_3 : decode cX1_byLabels 3 = .ok (.aload_n 1, 1) := by decide +kernel
theorem dX1_byLabels_4 : decode cX1_byLabels 4 = .ok (.getfield 15, 3) := by decide +kernel
theorem dX1_byLabels_7 : decode cX1_byLabels 7 = .ok (.if_icmp .ge 24, 3) := by decide +kernel
theorem dX1_byLabels_10 : decode cX1_byLabels 10 = .ok (.aload_n 0, 1) := by decide +kernel
theorem dX1_byLabels_11 : decode cX1_byLabels 11 = .ok (.getfield 9, 3) := by decide +kernel
theorem dX1_byLabels_14 : decode cX1_byLabels 14 = .ok (.iload_n 2, 1) := by decide +kernel
theorem dX1_byLabels_15 : decode cX1_byLabels 15 = .ok (.aload_n 1, 1) := by decide +kernel
theorem dX1_byLabels_16 : decode cX1_byLabels 16 = .ok (.getfield 29, 3) := by decide +kernel
theorem dX1_byLabels_19 : decode cX1_byLabels 19 = .ok (.iload_n 2, 1) := by decide +kernel
theorem dX1_byLabels_20 : decode cX1_byLabels 20 = .ok (.iaload, 1) := by decide +kernel
theorem dX1_byLabels_21 : decode cX1_byLabels 21 = .ok (.invokestatic 35, 3) := by decide +kernel
theorem dX1_byLabels_24 : decode cX1_byLabels 24 = .ok (.iastore, 1) := by decide +kernel
theorem dX1_byLabels_25 : decode cX1_byLabels 25 = .ok (.iinc 2 1, 3) := by decide +kernel
theorem dX1_byLabels_28 : decode cX1_byLabels 28 = .ok (.goto (-26), 3) := by decide +kernel
theorem dX1_byLabels_31 : decode cX1_byLabels 31 = .ok (.iconst 0, 1) := by decide +kernel
theorem dX1_byLabels_32 : decode cX1_byLabels 32 = .ok (.istore_n 2, 1) := by decide +kernel
theorem dX1_byLabels_33 : decode cX1_byLabels 33 = .ok (.iconst 0, 1) := by decide +kernel
theorem dX1_byLabels_34 : decode cX1_byLabels 34 = .ok (.istore_n 3, 1) := by decide +kernel
theorem dX1_byLabels_35 : decode cX1_byLabels 35 = .ok (.iconst 0, 1) := by decide +kernel
theorem dX1_byLabels_36 : decode cX1_byLabels 36 = .ok (.istore 4, 2) := by decide +kernel
theorem dX1_byLabels_38 : decode cX1_byLabels 38 = .ok (.iload 4, 2) := by decide +kernel
theorem dX1_byLabels_40 : decode cX1_byLabels 40 = .ok (.aload_n 1, 1) := by decide +kernel
theorem dX1_byLabels_41 : decode cX1_byLabels 41 = .ok (.getfield 15, 3) := by decide +kernel
theorem dX1_byLabels_44 : decode cX1_byLabels 44 = .ok (.if_icmp .ge 59, 3) := by decide +kernel
theorem dX1_byLabels_47 : decode cX1_byLabels 47 = .ok (.aload_n 0, 1) := by decide +kernel
theorem dX1_byLabels_48 : decode cX1_byLabels 48 = .ok (.aload_n 1, 1) := by decide +kernel
theorem dX1_byLabels_49 : decode cX1_byLabels 49 = .ok (.iload_n 2, 1) := by decide +kernel
theorem dX1_byLabels_50 : decode cX1_byLabels 50 = .ok (.invokevirtual 40, 3) := by decide +kernel
theorem dX1_byLabels_53 : decode cX1_byLabels 53 = .ok (.istore 5, 2) := by decide +kernel
theorem dX1_byLabels_55 : decode cX1_byLabels 55 = .ok (.iload 5, 2) := by decide +kernel
theorem dX1_byLabels_57 : decode cX1_byLabels 57 = .ok (.iconst (-1), 1) := by decide +kernel
theorem dX1_byLabels_58 : decode cX1_byLabels 58 = .ok (.if_icmp .ne 6, 3) := by decide +kernel
theorem dX1_byLabels_61 : decode cX1_byLabels 61 = .ok (.goto 42, 3) := by decide +kernel
theorem dX1_byLabels_64 : decode cX1_byLabels 64 = .ok (.iload_n 2, 1) := by decide +kernel
theorem dX1_byLabels_65 : decode cX1_byLabels 65 = .ok (.iload 5, 2) := by decide +kernel
theorem dX1_byLabels_67 : decode cX1_byLabels 67 = .ok (.invokestatic 32, 3) := by decide +kernel
theorem dX1_byLabels_70 : decode cX1_byLabels 70 = .ok (.ior, 1) := by decide +kernel
theorem dX1_byLabels_71 : decode cX1_byLabels 71 = .ok (.istore_n 2, 1) := by decide +kernel
theorem dX1_byLabels_72 : decode cX1_byLabels 72 = .ok (.aload_n 1, 1) := by decide +kernel
theorem dX1_byLabels_73 : decode cX1_byLabels 73 = .ok (.getfield 43, 3) := by decide +kernel
theorem dX1_byLabels_76 : decode cX1_byLabels 76 = .ok (.iload 5, 2) := by decide +kernel
theorem dX1_byLabels_78 : decode cX1_byLabels 78 = .ok (.iaload, 1) := by decide +kernel
theorem dX1_byLabels_79 : decode cX1_byLabels 79 = .ok (.iload_n 3, 1) := by decide +kernel
theorem dX1_byLabels_80 : decode cX1_byLabels 80 = .ok (.iconst (-1), 1) := by decide +kernel
theorem dX1_byLabels_81 : decode cX1_byLabels 81 = .ok (.ixor, 1) := by decide +kernel
theorem dX1_byLabels_82 : decode cX1_byLabels 82 = .ok (.iand, 1) := by decide +kernel
theorem dX1_byLabels_83 : decode cX1_byLabels 83 = .ok (.istore 6, 2) := by decide +kernel
theorem dX1_byLabels_85 : decode cX1_byLabels 85 = .ok (.iload_n 3, 1) := by decide +kernel
theorem dX1_byLabels_86 : decode cX1_byLabels 86 = .ok (.iload 6, 2) := by decide +kernel
theorem dX1_byLabels_88 : decode cX1_byLabels 88 = .ok (.ior, 1) := by decide +kernel
theorem dX1_byLabels_89 : decode cX1_byLabels 89 = .ok (.istore_n 3, 1) := by decide +kernel
theorem dX1_byLabels_90 : decode cX1_byLabels 90 = .ok (.aload_n 0, 1) := by decide +kernel
theorem dX1_byLabels_91 : decode cX1_byLabels 91 = .ok (.aload_n 1, 1) := by decide +kernel
theorem dX1_byLabels_92 : decode cX1_byLabels 92 = .ok (.iload 6, 2) := by decide +kernel
theorem dX1_byLabels_94 : decode cX1_byLabels 94 = .ok (.invokevirtual 46, 3) := by decide +kernel
theorem dX1_byLabels_97 : decode cX1_byLabels 97 = .ok (.iinc 4 1, 3) := by decide +kernel
theorem dX1_byLabels_100 : decode cX1_byLabels 100 = .ok (.goto (-62), 3) := by decide +kernel
theorem dX1_byLabels_103 : decode cX1_byLabels 103 = .ok (.iload_n 2, 1) := by decide +kernel
theorem dX1_byLabels_104 : decode cX1_byLabels 104 = .ok (.ireturn, 1) := by decide +kernel
set_option maxRecDepth 20000 in
theorem ggX1_nextFree_X12_contains : GoodIn wsX1_nextFree wsX12_contains := goodIn_r _ [5] rfl (by decide +kernel)
set_option maxRecDepth 20000 in
theorem gX1_nextFree_X12_contains_n50 : GoodIn wsX1_nextFree (wsX12_contains) := ggX1_nextFree_X12_contains
theorem dX1_nextFree_0 : decode cX1_nextFree 0 = .ok (.iconst 0, 1) := by decide +kernel
theorem dX1_nextFree_1 : decode cX1_nextFree 1 = .ok (.istore_n 3, 1) := by decide +kernel
theorem dX1_nextFree_2 : decode cX1_nextFree 2 = .ok (.iload_n 3, 1) := by decide +kernel
theorem dX1_nextFree_3 : decode cX1_nextFree 3 = .ok (.aload_n 1, 1) := by decide +kernel
theorem dX1_nextFree_4 : decode cX1_nextFree 4 = .ok (.getfield 15, 3) := by decide +kernel
theorem dX1_nextFree_7 : decode cX1_nextFree 7 = .ok (.if_icmp .ge 28, 3) := by decide +kernel
theorem dX1_nextFree_10 : decode cX1_nextFree 10 = .ok (.aload_n 0, 1) := by decide +kernel
theorem dX1_nextFree_11 : decode cX1_nextFree 11 = .ok (.getfield 9, 3) := by decide +kernel
theorem dX1_nextFree_14 : decode cX1_nextFree 14 = .ok (.iload_n 3, 1) := by decide +kernel
theorem dX1_nextFree_15 : decode cX1_nextFree 15 = .ok (.iaload, 1) := by decide +kernel
theorem dX1_nextFree_16 : decode cX1_nextFree 16 = .ok (.ifCond .ne 13, 3) := by decide +kernel
theorem dX1_nextFree_19 : decode cX1_nextFree 19 = .ok (.iload_n 2, 1) := by decide +kernel
theorem dX1_nextFree_20 : decode cX1_nextFree 20 = .ok (.iload_n 3, 1) := by decide +kernel
theorem dX1_nextFree_21 : decode cX1_nextFree 21 = .ok (.invokestatic 50, 3) := by decide +kernel
theorem dX1_nextFree_24 : decode cX1_nextFree 24 = .ok (.ifCond .ne 5, 3) := by decide +kernel
theorem dX1_nextFree_27 : decode cX1_nextFree 27 = .ok (.iload_n 3, 1) := by decide +kernel
theorem dX1_nextFree_28 : decode cX1_nextFree 28 = .ok (.ireturn, 1) := by decide +kernel
theorem dX1_nextFree_29 : decode cX1_nextFree 29 = .ok (.iinc 3 1, 3) := by decide +kernel
theorem dX1_nextFree_32 : decode cX1_nextFree 32 = .ok (.goto (-30), 3) := by decide +kernel
theorem dX1_nextFree_35 : decode cX1_nextFree 35 = .ok (.iconst (-1), 1) := by decide +kernel
theorem dX1_nextFree_36 : decode cX1_nextFree 36 = .ok (.ireturn, 1) := by decide +kernel
set_option maxRecDepth 20000 in
theorem ggX1_release_J6_bitCount_0f7a4 : GoodIn wsX1_release wsJ6_bitCount_0f7a4 := goodIn_r _ [7, 8, 9, 10] rfl (by decide +kernel)
set_option maxRecDepth 20000 in
theorem gX1_release_J6_bitCount_0f7a4 : GoodIn wsX1_release (va_wsS RX1 35 yJ6_bitCount_0f7a4 wsJ6_bitCount_0f7a4) := goodIn_app (goodIn_of _ (by decide +kernel)) ggX1_release_J6_bitCount_0f7a4
theorem dX1_release_0 : decode cX1_release 0 = .ok (.iconst 0, 1) := by decide +kernel
theorem dX1_release_1 : decode cX1_release 1 = .ok (.istore_n 3, 1) := by decide +kernel
theorem dX1_release_2 : decode cX1_release 2 = .ok (.iload_n 3, 1) := by decide +kernel
theorem dX1_release_3 : decode cX1_release 3 = .ok (.aload_n 1, 1) := by decide +kernel
theorem dX1_release_4 : decode cX1_release 4 = .ok (.getfield 15, 3) := by decide +kernel
theorem dX1_release_7 : decode cX1_release 7 = .ok (.if_icmp .ge 29, 3) := by decide +kernel
theorem dX1_release_10 : decode cX1_release 10 = .ok (.aload_n 0, 1) := by decide +kernel
theorem dX1_release_11 : decode cX1_release 11 = .ok (.getfield 9, 3) := by decide +kernel
theorem dX1_release_14 : decode cX1_release 14 = .ok (.iload_n 3, 1) := by decide +kernel
theorem dX1_release_15 : decode cX1_release 15 = .ok (.dup2, 1) := by decide +kernel
theorem dX1_release_16 : decode cX1_release 16 = .ok (.iaload, 1) := by decide +kernel
theorem dX1_release_17 : decode cX1_release 17 = .ok (.aload_n 1, 1) := by decide +kernel
theorem dX1_release_18 : decode cX1_release 18 = .ok (.getfield 29, 3) := by decide +kernel
theorem dX1_release_21 : decode cX1_release 21 = .ok (.iload_n 3, 1) := by decide +kernel
theorem dX1_release_22 : decode cX1_release 22 = .ok (.iaload, 1) := by decide +kernel
theorem dX1_release_23 : decode cX1_release 23 = .ok (.iload_n 2, 1) := by decide +kernel
theorem dX1_release_24 : decode cX1_release 24 = .ok (.iand, 1) := by decide +kernel
theorem dX1_release_25 : decode cX1_release 25 = .ok (.invokestatic 35, 3) := by decide +kernel
theorem dX1_release_28 : decode cX1_release 28 = .ok (.isub, 1) := by decide +kernel
theorem dX1_release_29 : decode cX1_release 29 = .ok (.iastore, 1) := by decide +kernel
theorem dX1_release_30 : decode cX1_release 30 = .ok (.iinc 3 1, 3) := by decide +kernel
theorem dX1_release_33 : decode cX1_release 33 = .ok (.goto (-31), 3) := by decide +kernel
theorem dX1_release_36 : decode cX1_release 36 = .ok (.return_, 1) := by decide +kernel
theorem dX3_init_0 : decode cX3_init 0 = .ok (.aload_n 0, 1) := by decide +kernel
theorem dX3_init_1 : decode cX3_init 1 = .ok (.invokespecial 3, 3) := by decide +kernel
theorem dX3_init_4 : decode cX3_init 4 = .ok (.aload_n 0, 1) := by decide +kernel
theorem dX3_init_5 : decode cX3_init 5 = .ok (.bipush 10, 2) := by decide +kernel
theorem dX3_init_7 : decode cX3_init 7 = .ok (.bipush 10, 2) := by decide +kernel
theorem dX3_init_9 : decode cX3_init 9 = .ok (.multianewarray 9 2, 4) := by decide +kernel
theorem dX3_init_13 : decode cX3_init 13 = .ok (.putfield 11, 3) := by decide +kernel
theorem dX3_init_16 : decode cX3_init 16 = .ok (.aload_n 0, 1) := by decide +kernel
theorem dX3_init_17 : decode cX3_init 17 = .ok (.bipush 10, 2) := by decide +kernel
theorem dX3_init_19 : decode cX3_init 19 = .ok (.bipush 10, 2) := by decide +kernel
theorem dX3_init_21 : decode cX3_init 21 = .ok (.multianewarray 9 2, 4) := by decide +kernel
theorem dX3_init_25 : decode cX3_init 25 = .ok (.putfield 16, 3) := by decide +kernel
theorem dX3_init_28 : decode cX3_init 28 = .ok (.aload_n 0, 1) := by decide +kernel
theorem dX3_init_29 : decode cX3_init 29 = .ok (.bipush 10, 2) := by decide +kernel
theorem dX3_init_31 : decode cX3_init 31 = .ok (.newarray .long, 2) := by decide +kernel
theorem dX3_init_33 : decode cX3_init 33 = .ok (.putfield 19, 3) := by decide +kernel
theorem dX3_init_36 : decode cX3_init 36 = .ok (.aload_n 0, 1) := by decide +kernel
theorem dX3_init_37 : decode cX3_init 37 = .ok (.bipush 10, 2) := by decide +kernel
theorem dX3_init_39 : decode cX3_init 39 = .ok (.newarray .long, 2) := by decide +kernel
theorem dX3_init_41 : decode cX3_init 41 = .ok (.putfield 23, 3) := by decide +kernel
theorem dX3_init_44 : decode cX3_init 44 = .ok (.return_, 1) := by decide +kernel
set_option maxRecDepth 20000 in
theorem ggX3_bySquaring_X3_fillMatrix : GoodIn wsX3_bySquaring wsX3_fillMatrix := goodIn_ca (goodIn_r _ [7, 1, 8, 9, 10, 11, 12, 36, 37, 38, 39, 40, 41, 42, 43, 44, 45] rfl (by decide +kernel)) (goodIn_sub (fun _ h => List.mem_cons_of_mem _ (List.mem_append_right _ h)) (by decide +kernel))
set_option maxRecDepth 20000 in
theorem gX3_bySquaring_X3_fillMatrix : GoodIn wsX3_bySquaring (wsV RX3 26 RX3 yX3_fillMatrix wsX3_fillMatrix) := goodIn_app (goodIn_of _ (by decide +kernel)) ggX3_bySquaring_X3_fillMatrix
set_option maxRecDepth 20000 in
theorem ggX3_bySquaring_X3_startRow : GoodIn wsX3_bySquaring wsX3_startRow := goodIn_ca (goodIn_r _ [16, 1, 2, 36, 37, 38, 39, 40, 41, 42, 43, 44, 45] rfl (by decide +kernel)) (goodIn_sub (fun _ h => List.mem_cons_of_mem _ (List.mem_append_right _ h)) (by decide +kernel))
set_option maxRecDepth 20000 in
theorem gX3_bySquaring_X3_startRow : GoodIn wsX3_bySquaring (wsV RX3 30 RX3 yX3_startRow wsX3_startRow) := goodIn_app (goodIn_of _ (by decide +kernel)) ggX3_bySquaring_X3_startRow
set_option maxRecDepth 20000 in
theorem ggX3_bySquaring_X12_contains : GoodIn wsX3_bySquaring wsX12_contains := goodIn_r _ [12] rfl (by decide +kernel)
set_option maxRecDepth 20000 in
theorem gX3_bySquaring_X12_contains_n34 : GoodIn wsX3_bySquaring (wsX12_contains) := ggX3_bySquaring_X12_contains
set_option maxRecDepth 20000 in
theorem ggX3_bySquaring_X3_multiplyRow : GoodIn wsX3_bySquaring wsX3_multiplyRow := goodIn_ca (goodIn_r _ [20, 2, 21, 22, 23, 24, 6, 25, 8, 26, 27, 28, 29, 30, 42, 43, 44, 45] rfl (by decide +kernel)) (goodIn_sub (fun _ h => List.mem_cons_of_mem _ (List.mem_append_right _ h)) (by decide +kernel))
set_option maxRecDepth 20000 in
theorem gX3_bySquaring_X3_multiplyRow : GoodIn wsX3_bySquaring (wsV RX3 44 RX3 yX3_multiplyRow wsX3_multiplyRow) := goodIn_app (goodIn_of _ (by decide +kernel)) ggX3_bySquaring_X3_multiplyRow
set_option maxRecDepth 20000 in
theorem ggX3_bySquaring_X3_squareMatrix : GoodIn wsX3_bySquaring wsX3_squareMatrix := goodIn_ca (goodIn_r _ [34, 8, 35, 22, 23, 24, 6, 25, 26, 42, 43, 44, 45] rfl (by decide +kernel)) (goodIn_sub (fun _ h => List.mem_cons_of_mem _ (List.mem_append_right _ h)) (by decide +kernel))
set_option maxRecDepth 20000 in
theorem gX3_bySquaring_X3_squareMatrix : GoodIn wsX3_bySquaring (wsV RX3 48 RX3 yX3_squareMatrix wsX3_squareMatrix) := goodIn_app (goodIn_of _ (by decide +kernel)) ggX3_bySquaring_X3_squareMatrix
theorem dX3_bySquaring_0 : decode cX3_bySquaring 0 = .ok (.aload_n 0, 1) := by decide +kernel
theorem dX3_bySquaring_1 : decode cX3_bySquaring 1 = .ok (.aload_n 1, 1) := by decide +kernel
theorem dX3_bySquaring_2 : decode cX3_bySquaring 2 = .ok (.invokevirtual 26, 3) := by decide +kernel
theorem dX3_bySquaring_5 : decode cX3_bySquaring 5 = .ok (.aload_n 0, 1) := by decide +kernel
theorem dX3_bySquaring_6 : decode cX3_bySquaring 6 = .ok (.aload_n 1, 1) := by decide +kernel
theorem dX3_bySquaring_7 : decode cX3_bySquaring 7 = .ok (.iload_n 2, 1) := by decide +kernel
theorem dX3_bySquaring_8 : decode cX3_bySquaring 8 = .ok (.invokevirtual 30, 3) := by decide +kernel
theorem dX3_bySquaring_11 : decode cX3_bySquaring 11 = .ok (.iconst 0, 1) := by decide +kernel
theorem dX3_bySquaring_12 : decode cX3_bySquaring 12 = .ok (.istore 5, 2) := by decide +kernel
theorem dX3_bySquaring_14 : decode cX3_bySquaring 14 = .ok (.iload 5, 2) := by decide +kernel
theorem dX3_bySquaring_16 : decode cX3_bySquaring 16 = .ok (.bipush 10, 2) := by decide +kernel
theorem dX3_bySquaring_18 : decode cX3_bySquaring 18 = .ok (.if_icmp .ge 35, 3) := by decide +kernel
theorem dX3_bySquaring_21 : decode cX3_bySquaring 21 = .ok (.iload 4, 2) := by decide +kernel
theorem dX3_bySquaring_23 : decode cX3_bySquaring 23 = .ok (.iload 5, 2) := by decide +kernel
theorem dX3_bySquaring_25 : decode cX3_bySquaring 25 = .ok (.invokestatic 34, 3) := by decide +kernel
theorem dX3_bySquaring_28 : decode cX3_bySquaring 28 = .ok (.ifCond .eq 11, 3) := by decide +kernel
theorem dX3_bySquaring_31 : decode cX3_bySquaring 31 = .ok (.aload_n 0, 1) := by decide +kernel
theorem dX3_bySquaring_32 : decode cX3_bySquaring 32 = .ok (.aload_n 1, 1) := by decide +kernel
theorem dX3_bySquaring_33 : decode cX3_bySquaring 33 = .ok (.getfield 38, 3) := by decide +kernel
theorem dX3_bySquaring_36 : decode cX3_bySquaring 36 = .ok (.invokevirtual 44, 3) := by decide +kernel
theorem dX3_bySquaring_39 : decode cX3_bySquaring 39 = .ok (.aload_n 0, 1) := by decide +kernel
theorem dX3_bySquaring_40 : decode cX3_bySquaring 40 = .ok (.aload_n 1, 1) := by decide +kernel
theorem dX3_bySquaring_41 : decode cX3_bySquaring 41 = .ok (.getfield 38, 3) := by decide +kernel
theorem dX3_bySquaring_44 : decode cX3_bySquaring 44 = .ok (.invokevirtual 48, 3) := by decide +kernel
theorem dX3_bySquaring_47 : decode cX3_bySquaring 47 = .ok (.iinc 5 1, 3) := by decide +kernel
theorem dX3_bySquaring_50 : decode cX3_bySquaring 50 = .ok (.goto (-36), 3) := by decide +kernel
theorem dX3_bySquaring_53 : decode cX3_bySquaring 53 = .ok (.aload_n 0, 1) := by decide +kernel
theorem dX3_bySquaring_54 : decode cX3_bySquaring 54 = .ok (.getfield 19, 3) := by decide +kernel
theorem dX3_bySquaring_57 : decode cX3_bySquaring 57 = .ok (.iload_n 3, 1) := by decide +kernel
theorem dX3_bySquaring_58 : decode cX3_bySquaring 58 = .ok (.laload, 1) := by decide +kernel
theorem dX3_bySquaring_59 : decode cX3_bySquaring 59 = .ok (.l2i, 1) := by decide +kernel
theorem dX3_bySquaring_60 : decode cX3_bySquaring 60 = .ok (.ireturn, 1) := by decide +kernel
theorem dX3_startRow_0 : decode cX3_startRow 0 = .ok (.iconst 0, 1) := by decide +kernel
theorem dX3_startRow_1 : decode cX3_startRow 1 = .ok (.istore_n 3, 1) := by decide +kernel
theorem dX3_startRow_2 : decode cX3_startRow 2 = .ok (.iload_n 3, 1) := by decide +kernel
theorem dX3_startRow_3 : decode cX3_startRow 3 = .ok (.aload_n 1, 1) := by decide +kernel
theorem dX3_startRow_4 : decode cX3_startRow 4 = .ok (.getfield 38, 3) := by decide +kernel
theorem dX3_startRow_7 : decode cX3_startRow 7 = .ok (.if_icmp .ge 25, 3) := by decide +kernel
theorem dX3_startRow_10 : decode cX3_startRow 10 = .ok (.aload_n 0, 1) := by decide +kernel
theorem dX3_startRow_11 : decode cX3_startRow 11 = .ok (.getfield 19, 3) := by decide +kernel
theorem dX3_startRow_14 : decode cX3_startRow 14 = .ok (.iload_n 3, 1) := by decide +kernel
theorem dX3_startRow_15 : decode cX3_startRow 15 = .ok (.iload_n 3, 1) := by decide +kernel
theorem dX3_startRow_16 : decode cX3_startRow 16 = .ok (.iload_n 2, 1) := by decide +kernel
theorem dX3_startRow_17 : decode cX3_startRow 17 = .ok (.if_icmp .ne 7, 3) := by decide +kernel
theorem dX3_startRow_20 : decode cX3_startRow 20 = .ok (.lconst 1, 1) := by decide +kernel
theorem dX3_startRow_21 : decode cX3_startRow 21 = .ok (.goto 4, 3) := by decide +kernel
theorem dX3_startRow_24 : decode cX3_startRow 24 = .ok (.lconst 0, 1) := by decide +kernel
theorem dX3_startRow_25 : decode cX3_startRow 25 = .ok (.lastore, 1) := by decide +kernel
theorem dX3_startRow_26 : decode cX3_startRow 26 = .ok (.iinc 3 1, 3) := by decide +kernel
theorem dX3_startRow_29 : decode cX3_startRow 29 = .ok (.goto (-27), 3) := by decide +kernel
theorem dX3_startRow_32 : decode cX3_startRow 32 = .ok (.return_, 1) := by decide +kernel
set_option maxRecDepth 20000 in
theorem ggX3_fillMatrix_X12_contains : GoodIn wsX3_fillMatrix wsX12_contains := goodIn_r _ [6] rfl (by decide +kernel)
set_option maxRecDepth 20000 in
theorem gX3_fillMatrix_X12_contains_n34 : GoodIn wsX3_fillMatrix (wsX12_contains) := ggX3_fillMatrix_X12_contains
theorem dX3_fillMatrix_0 : decode cX3_fillMatrix 0 = .ok (.iconst 0, 1) := by decide +kernel
theorem dX3_fillMatrix_1 : decode cX3_fillMatrix 1 = .ok (.istore_n 2, 1) := by decide +kernel
theorem dX3_fillMatrix_2 : decode cX3_fillMatrix 2 = .ok (.iload_n 2, 1) := by decide +kernel
theorem dX3_fillMatrix_3 : decode cX3_fillMatrix 3 = .ok (.aload_n 1, 1) := by decide +kernel
theorem dX3_fillMatrix_4 : decode cX3_fillMatrix 4 = .ok (.getfield 38, 3) := by decide +kernel
theorem dX3_fillMatrix_7 : decode cX3_fillMatrix 7 = .ok (.if_icmp .ge 51, 3) := by decide +kernel
theorem dX3_fillMatrix_10 : decode cX3_fillMatrix 10 = .ok (.iconst 0, 1) := by decide +kernel
theorem dX3_fillMatrix_11 : decode cX3_fillMatrix 11 = .ok (.istore_n 3, 1) := by decide +kernel
theorem dX3_fillMatrix_12 : decode cX3_fillMatrix 12 = .ok (.iload_n 3, 1) := by decide +kernel
theorem dX3_fillMatrix_13 : decode cX3_fillMatrix 13 = .ok (.aload_n 1, 1) := by decide +kernel
theorem dX3_fillMatrix_14 : decode cX3_fillMatrix 14 = .ok (.getfield 38, 3) := by decide +kernel
theorem dX3_fillMatrix_17 : decode cX3_fillMatrix 17 = .ok (.if_icmp .ge 35, 3) := by decide +kernel
theorem dX3_fillMatrix_20 : decode cX3_fillMatrix 20 = .ok (.aload_n 0, 1) := by decide +kernel
theorem dX3_fillMatrix_21 : decode cX3_fillMatrix 21 = .ok (.getfield 11, 3) := by decide +kernel
theorem dX3_fillMatrix_24 : decode cX3_fillMatrix 24 = .ok (.iload_n 2, 1) := by decide +kernel
theorem dX3_fillMatrix_25 : decode cX3_fillMatrix 25 = .ok (.aaload, 1) := by decide +kernel
theorem dX3_fillMatrix_26 : decode cX3_fillMatrix 26 = .ok (.iload_n 3, 1) := by decide +kernel
theorem dX3_fillMatrix_27 : decode cX3_fillMatrix 27 = .ok (.aload_n 1, 1) := by decide +kernel
theorem dX3_fillMatrix_28 : decode cX3_fillMatrix 28 = .ok (.getfield 51, 3) := by decide +kernel
theorem dX3_fillMatrix_31 : decode cX3_fillMatrix 31 = .ok (.iload_n 2, 1) := by decide +kernel
theorem dX3_fillMatrix_32 : decode cX3_fillMatrix 32 = .ok (.iaload, 1) := by decide +kernel
theorem dX3_fillMatrix_33 : decode cX3_fillMatrix 33 = .ok (.iload_n 3, 1) := by decide +kernel
theorem dX3_fillMatrix_34 : decode cX3_fillMatrix 34 = .ok (.invokestatic 34, 3) := by decide +kernel
theorem dX3_fillMatrix_37 : decode cX3_fillMatrix 37 = .ok (.ifCond .eq 7, 3) := by decide +kernel
theorem dX3_fillMatrix_40 : decode cX3_fillMatrix 40 = .ok (.lconst 1, 1) := by decide +kernel
theorem dX3_fillMatrix_41 : decode cX3_fillMatrix 41 = .ok (.goto 4, 3) := by decide +kernel
theorem dX3_fillMatrix_44 : decode cX3_fillMatrix 44 = .ok (.lconst 0, 1) := by decide +kernel
theorem dX3_fillMatrix_45 : decode cX3_fillMatrix 45 = .ok (.lastore, 1) := by decide +kernel
theorem dX3_fillMatrix_46 : decode cX3_fillMatrix 46 = .ok (.iinc 3 1, 3) := by decide +kernel
theorem dX3_fillMatrix_49 : decode cX3_fillMatrix 49 = .ok (.goto (-37), 3) := by decide +kernel
theorem dX3_fillMatrix_52 : decode cX3_fillMatrix 52 = .ok (.iinc 2 1, 3) := by decide +kernel
theorem dX3_fillMatrix_55 : decode cX3_fillMatrix 55 = .ok (.goto (-53), 3) := by decide +kernel
theorem dX3_fillMatrix_58 : decode cX3_fillMatrix 58 = .ok (.return_, 1) := by decide +kernel
set_option maxRecDepth 20000 in
theorem ggX3_multiplyRow_X3_multiply : GoodIn wsX3_multiplyRow wsX3_multiply := goodIn_ca (goodIn_r _ [7, 8, 9, 14, 15, 16, 17] rfl (by decide +kernel)) (goodIn_sub (fun _ h => List.mem_cons_of_mem _ (List.mem_append_right _ h)) (by decide +kernel))
set_option maxRecDepth 20000 in
theorem gX3_multiplyRow_X3_multiply : GoodIn wsX3_multiplyRow (wsV RX3 55 RX3 yX3_multiply wsX3_multiply) := goodIn_app (goodIn_of _ (by decide +kernel)) ggX3_multiplyRow_X3_multiply
set_option maxRecDepth 20000 in
theorem ggX3_multiplyRow_X3_swapRows : GoodIn wsX3_multiplyRow wsX3_swapRows := goodIn_r _ [13, 1, 2, 14, 15, 16, 17] rfl (by decide +kernel)
set_option maxRecDepth 20000 in
theorem gX3_multiplyRow_X3_swapRows : GoodIn wsX3_multiplyRow (wsV RX3 59 RX3 yX3_swapRows wsX3_swapRows) := goodIn_app (goodIn_of _ (by decide +kernel)) ggX3_multiplyRow_X3_swapRows
theorem dX3_multiplyRow_0 : decode cX3_multiplyRow 0 = .ok (.aload_n 0, 1) := by decide +kernel
theorem dX3_multiplyRow_1 : decode cX3_multiplyRow 1 = .ok (.aload_n 0, 1) := by decide +kernel
theorem dX3_multiplyRow_2 : decode cX3_multiplyRow 2 = .ok (.getfield 19, 3) := by decide +kernel
theorem dX3_multiplyRow_5 : decode cX3_multiplyRow 5 = .ok (.aload_n 0, 1) := by decide +kernel
theorem dX3_multiplyRow_6 : decode cX3_multiplyRow 6 = .ok (.getfield 23, 3) := by decide +kernel
theorem dX3_multiplyRow_9 : decode cX3_multiplyRow 9 = .ok (.iload_n 1, 1) := by decide +kernel
theorem dX3_multiplyRow_10 : decode cX3_multiplyRow 10 = .ok (.invokevirtual 55, 3) := by decide +kernel
theorem dX3_multiplyRow_13 : decode cX3_multiplyRow 13 = .ok (.aload_n 0, 1) := by decide +kernel
theorem dX3_multiplyRow_14 : decode cX3_multiplyRow 14 = .ok (.invokevirtual 59, 3) := by decide +kernel
theorem dX3_multiplyRow_17 : decode cX3_multiplyRow 17 = .ok (.return_, 1) := by decide +kernel
set_option maxRecDepth 20000 in
theorem ggX3_squareMatrix_X3_multiply : GoodIn wsX3_squareMatrix wsX3_multiply := goodIn_ca (goodIn_r _ [7, 1, 8, 9, 10, 11, 12] rfl (by decide +kernel)) (goodIn_sub (fun _ h => List.mem_cons_of_mem _ (List.mem_append_right _ h)) (by decide +kernel))
set_option maxRecDepth 20000 in
theorem gX3_squareMatrix_X3_multiply : GoodIn wsX3_squareMatrix (wsV RX3 55 RX3 yX3_multiply wsX3_multiply) := goodIn_app (goodIn_of _ (by decide +kernel)) ggX3_squareMatrix_X3_multiply
theorem dX3_squareMatrix_0 : decode cX3_squareMatrix 0 = .ok (.iconst 0, 1) := by decide +kernel
theorem dX3_squareMatrix_1 : decode cX3_squareMatrix 1 = .ok (.istore_n 2, 1) := by decide +kernel
theorem dX3_squareMatrix_2 : decode cX3_squareMatrix 2 = .ok (.iload_n 2, 1) := by decide +kernel
theorem dX3_squareMatrix_3 : decode cX3_squareMatrix 3 = .ok (.iload_n 1, 1) := by decide +kernel
theorem dX3_squareMatrix_4 : decode cX3_squareMatrix 4 = .ok (.if_icmp .ge 26, 3) := by decide +kernel
theorem dX3_squareMatrix_7 : decode cX3_squareMatrix 7 = .ok (.aload_n 0, 1) := by decide +kernel
theorem dX3_squareMatrix_8 : decode cX3_squareMatrix 8 = .ok (.aload_n 0, 1) := by decide +kernel
theorem dX3_squareMatrix_9 : decode cX3_squareMatrix 9 = .ok (.getfield 11, 3) := by decide +kernel
theorem dX3_squareMatrix_12 : decode cX3_squareMatrix 12 = .ok (.iload_n 2, 1) := by decide +kernel
theorem dX3_squareMatrix_13 : decode cX3_squareMatrix 13 = .ok (.aaload, 1) := by decide +kernel
theorem dX3_squareMatrix_14 : decode cX3_squareMatrix 14 = .ok (.aload_n 0, 1) := by decide +kernel
theorem dX3_squareMatrix_15 : decode cX3_squareMatrix 15 = .ok (.getfield 16, 3) := by decide +kernel
theorem dX3_squareMatrix_18 : decode cX3_squareMatrix 18 = .ok (.iload_n 2, 1) := by decide +kernel
theorem dX3_squareMatrix_19 : decode cX3_squareMatrix 19 = .ok (.aaload, 1) := by decide +kernel
theorem dX3_squareMatrix_20 : decode cX3_squareMatrix 20 = .ok (.iload_n 1, 1) := by decide +kernel
theorem dX3_squareMatrix_21 : decode cX3_squareMatrix 21 = .ok (.invokevirtual 55, 3) := by decide +kernel
theorem dX3_squareMatrix_24 : decode cX3_squareMatrix 24 = .ok (.iinc 2 1, 3) := by decide +kernel
theorem dX3_squareMatrix_27 : decode cX3_squareMatrix 27 = .ok (.goto (-25), 3) := by decide +kernel
theorem dX3_squareMatrix_30 : decode cX3_squareMatrix 30 = .ok (.aload_n 0, 1) := by decide +kernel
theorem dX3_squareMatrix_31 : decode cX3_squareMatrix 31 = .ok (.getfield 11, 3) := by decide +kernel
theorem dX3_squareMatrix_34 : decode cX3_squareMatrix 34 = .ok (.astore_n 2, 1) := by decide +kernel
theorem dX3_squareMatrix_35 : decode cX3_squareMatrix 35 = .ok (.aload_n 0, 1) := by decide +kernel
theorem dX3_squareMatrix_36 : decode cX3_squareMatrix 36 = .ok (.aload_n 0, 1) := by decide +kernel
theorem dX3_squareMatrix_37 : decode cX3_squareMatrix 37 = .ok (.getfield 16, 3) := by decide +kernel
theorem dX3_squareMatrix_40 : decode cX3_squareMatrix 40 = .ok (.putfield 11, 3) := by decide +kernel
theorem dX3_squareMatrix_43 : decode cX3_squareMatrix 43 = .ok (.aload_n 0, 1) := by decide +kernel
theorem dX3_squareMatrix_44 : decode cX3_squareMatrix 44 = .ok (.aload_n 2, 1) := by decide +kernel
theorem dX3_squareMatrix_45 : decode cX3_squareMatrix 45 = .ok (.putfield 16, 3) := by decide +kernel
theorem dX3_squareMatrix_48 : decode cX3_squareMatrix 48 = .ok (.return_, 1) := by decide +kernel
theorem dX3_multiply_0 : decode cX3_multiply 0 = .ok (.iconst 0, 1) := by decide +kernel
theorem dX3_multiply_1 : decode cX3_multiply 1 = .ok (.istore 4, 2) := by decide +kernel
theorem dX3_multiply_3 : decode cX3_multiply 3 = .ok (.iload 4, 2) := by decide +kernel
theorem dX3_multiply_5 : decode cX3_multiply 5 = .ok (.iload_n 3, 1) := by decide +kernel
theorem dX3_multiply_6 : decode cX3_multiply 6 = .ok (.if_icmp .ge 57, 3) := by decide +kernel
theorem dX3_multiply_9 : decode cX3_multiply 9 = .ok (.lconst 0, 1) := by decide +kernel
theorem dX3_multiply_10 : decode cX3_multiply 10 = .ok (.lstore 5, 2) := by decide +kernel
theorem dX3_multiply_12 : decode cX3_multiply 12 = .ok (.iconst 0, 1) := by decide +kernel
theorem dX3_multiply_13 : decode cX3_multiply 13 = .ok (.istore 7, 2) := by decide +kernel
theorem dX3_multiply_15 : decode cX3_multiply 15 = .ok (.iload 7, 2) := by decide +kernel
theorem dX3_multiply_17 : decode cX3_multiply 17 = .ok (.iload_n 3, 1) := by decide +kernel
theorem dX3_multiply_18 : decode cX3_multiply 18 = .ok (.if_icmp .ge 29, 3) := by decide +kernel
theorem dX3_multiply_21 : decode cX3_multiply 21 = .ok (.lload 5, 2) := by decide +kernel
theorem dX3_multiply_23 : decode cX3_multiply 23 = .ok (.aload_n 1, 1) := by decide +kernel
theorem dX3_multiply_24 : decode cX3_multiply 24 = .ok (.iload 7, 2) := by decide +kernel
theorem dX3_multiply_26 : decode cX3_multiply 26 = .ok (.laload, 1) := by decide +kernel
theorem dX3_multiply_27 : decode cX3_multiply 27 = .ok (.aload_n 0, 1) := by decide +kernel
theorem dX3_multiply_28 : decode cX3_multiply 28 = .ok (.getfield 11, 3) := by decide +kernel
theorem dX3_multiply_31 : decode cX3_multiply 31 = .ok (.iload 7, 2) := by decide +kernel
theorem dX3_multiply_33 : decode cX3_multiply 33 = .ok (.aaload, 1) := by decide +kernel
theorem dX3_multiply_34 : decode cX3_multiply 34 = .ok (.iload 4, 2) := by decide +kernel
theorem dX3_multiply_36 : decode cX3_multiply 36 = .ok (.laload, 1) := by decide +kernel
theorem dX3_multiply_37 : decode cX3_multiply 37 = .ok (.lmul, 1) := by decide +kernel
theorem dX3_multiply_38 : decode cX3_multiply 38 = .ok (.ladd, 1) := by decide +kernel
theorem dX3_multiply_39 : decode cX3_multiply 39 = .ok (.lstore 5, 2) := by decide +kernel
theorem dX3_multiply_41 : decode cX3_multiply 41 = .ok (.iinc 7 1, 3) := by decide +kernel
theorem dX3_multiply_44 : decode cX3_multiply 44 = .ok (.goto (-29), 3) := by decide +kernel
theorem dX3_multiply_47 : decode cX3_multiply 47 = .ok (.aload_n 2, 1) := by decide +kernel
theorem dX3_multiply_48 : decode cX3_multiply 48 = .ok (.iload 4, 2) := by decide +kernel
theorem dX3_multiply_50 : decode cX3_multiply 50 = .ok (.lload 5, 2) := by decide +kernel
theorem dX3_multiply_52 : decode cX3_multiply 52 = .ok (.ldc2_w 62, 3) := by decide +kernel
theorem dX3_multiply_55 : decode cX3_multiply 55 = .ok (.lrem, 1) := by decide +kernel
theorem dX3_multiply_56 : decode cX3_multiply 56 = .ok (.lastore, 1) := by decide +kernel
theorem dX3_multiply_57 : decode cX3_multiply 57 = .ok (.iinc 4 1, 3) := by decide +kernel
theorem dX3_multiply_60 : decode cX3_multiply 60 = .ok (.goto (-57), 3) := by decide +kernel
theorem dX3_multiply_63 : decode cX3_multiply 63 = .ok (.return_, 1) := by decide +kernel
theorem dX3_swapRows_0 : decode cX3_swapRows 0 = .ok (.aload_n 0, 1) := by decide +kernel
theorem dX3_swapRows_1 : decode cX3_swapRows 1 = .ok (.getfield 19, 3) := by decide +kernel
theorem dX3_swapRows_4 : decode cX3_swapRows 4 = .ok (.astore_n 1, 1) := by decide +kernel
theorem dX3_swapRows_5 : decode cX3_swapRows 5 = .ok (.aload_n 0, 1) := by decide +kernel
theorem dX3_swapRows_6 : decode cX3_swapRows 6 = .ok (.aload_n 0, 1) := by decide +kernel
theorem dX3_swapRows_7 : decode cX3_swapRows 7 = .ok (.getfield 23, 3) := by decide +kernel
theorem dX3_swapRows_10 : decode cX3_swapRows 10 = .ok (.putfield 19, 3) := by decide +kernel
theorem dX3_swapRows_13 : decode cX3_swapRows 13 = .ok (.aload_n 0, 1) := by decide +kernel
theorem dX3_swapRows_14 : decode cX3_swapRows 14 = .ok (.aload_n 1, 1) := by decide +kernel
theorem dX3_swapRows_15 : decode cX3_swapRows 15 = .ok (.putfield 23, 3) := by decide +kernel
theorem dX3_swapRows_18 : decode cX3_swapRows 18 = .ok (.return_, 1) := by decide +kernel
set_option maxRecDepth 20000 in
theorem ggX3_byStepping_X3_startRow : GoodIn wsX3_byStepping wsX3_startRow := goodIn_ca (goodIn_r _ [9, 1, 4, 22, 23, 24, 25, 26, 27, 28, 29, 30, 31] rfl (by decide +kernel)) (goodIn_sub (fun _ h => List.mem_cons_of_mem _ (List.mem_append_right _ h)) (by decide +kernel))
set_option maxRecDepth 20000 in
theorem gX3_byStepping_X3_startRow : GoodIn wsX3_byStepping (wsV RX3 30 RX3 yX3_startRow wsX3_startRow) := goodIn_app (goodIn_of _ (by decide +kernel)) ggX3_byStepping_X3_startRow
set_option maxRecDepth 20000 in
theorem ggX3_byStepping_X3_sumOf : GoodIn wsX3_byStepping wsX3_sumOf := goodIn_ca (goodIn_r _ [13, 4, 14, 15, 16, 17, 28, 29, 30, 31] rfl (by decide +kernel)) (goodIn_sub (fun _ h => List.mem_cons_of_mem _ (List.mem_append_right _ h)) (by decide +kernel))
set_option maxRecDepth 20000 in
theorem gX3_byStepping_X3_sumOf : GoodIn wsX3_byStepping (wsV RX3 67 RX3 yX3_sumOf wsX3_sumOf) := goodIn_app (goodIn_of _ (by decide +kernel)) ggX3_byStepping_X3_sumOf
set_option maxRecDepth 20000 in
theorem ggX3_byStepping_X3_swapRows : GoodIn wsX3_byStepping wsX3_swapRows := goodIn_r _ [21, 4, 2, 28, 29, 30, 31] rfl (by decide +kernel)
set_option maxRecDepth 20000 in
theorem gX3_byStepping_X3_swapRows : GoodIn wsX3_byStepping (wsV RX3 59 RX3 yX3_swapRows wsX3_swapRows) := goodIn_app (goodIn_of _ (by decide +kernel)) ggX3_byStepping_X3_swapRows
theorem dX3_byStepping_0 : decode cX3_byStepping 0 = .ok (.aload_n 0, 1) := by decide +kernel
theorem dX3_byStepping_1 : decode cX3_byStepping 1 = .ok (.aload_n 1, 1) := by decide +kernel
theorem dX3_byStepping_2 : decode cX3_byStepping 2 = .ok (.iload_n 2, 1) := by decide +kernel
theorem dX3_byStepping_3 : decode cX3_byStepping 3 = .ok (.invokevirtual 30, 3) := by decide +kernel
theorem dX3_byStepping_6 : decode cX3_byStepping 6 = .ok (.iconst 0, 1) := by decide +kernel
theorem dX3_byStepping_7 : decode cX3_byStepping 7 = .ok (.istore 5, 2) := by decide +kernel
theorem dX3_byStepping_9 : decode cX3_byStepping 9 = .ok (.iload 5, 2) := by decide +kernel
theorem dX3_byStepping_11 : decode cX3_byStepping 11 = .ok (.iload 4, 2) := by decide +kernel
theorem dX3_byStepping_13 : decode cX3_byStepping 13 = .ok (.if_icmp .ge 53, 3) := by decide +kernel
theorem dX3_byStepping_16 : decode cX3_byStepping 16 = .ok (.iconst 0, 1) := by decide +kernel
theorem dX3_byStepping_17 : decode cX3_byStepping 17 = .ok (.istore 6, 2) := by decide +kernel
theorem dX3_byStepping_19 : decode cX3_byStepping 19 = .ok (.iload 6, 2) := by decide +kernel
theorem dX3_byStepping_21 : decode cX3_byStepping 21 = .ok (.aload_n 1, 1) := by decide +kernel
theorem dX3_byStepping_22 : decode cX3_byStepping 22 = .ok (.getfield 38, 3) := by decide +kernel
theorem dX3_byStepping_25 : decode cX3_byStepping 25 = .ok (.if_icmp .ge 31, 3) := by decide +kernel
theorem dX3_byStepping_28 : decode cX3_byStepping 28 = .ok (.aload_n 0, 1) := by decide +kernel
theorem dX3_byStepping_29 : decode cX3_byStepping 29 = .ok (.getfield 23, 3) := by decide +kernel
theorem dX3_byStepping_32 : decode cX3_byStepping 32 = .ok (.iload 6, 2) := by decide +kernel
theorem dX3_byStepping_34 : decode cX3_byStepping 34 = .ok (.aload_n 0, 1) := by decide +kernel
theorem dX3_byStepping_35 : decode cX3_byStepping 35 = .ok (.aload_n 1, 1) := by decide +kernel
theorem dX3_byStepping_36 : decode cX3_byStepping 36 = .ok (.getfield 64, 3) := by decide +kernel
theorem dX3_byStepping_39 : decode cX3_byStepping 39 = .ok (.iload 6, 2) := by decide +kernel
theorem dX3_byStepping_41 : decode cX3_byStepping 41 = .ok (.iaload, 1) := by decide +kernel
theorem dX3_byStepping_42 : decode cX3_byStepping 42 = .ok (.aload_n 1, 1) := by decide +kernel
theorem dX3_byStepping_43 : decode cX3_byStepping 43 = .ok (.getfield 38, 3) := by decide +kernel
theorem dX3_byStepping_46 : decode cX3_byStepping 46 = .ok (.invokevirtual 67, 3) := by decide +kernel
theorem dX3_byStepping_49 : decode cX3_byStepping 49 = .ok (.lastore, 1) := by decide +kernel
theorem dX3_byStepping_50 : decode cX3_byStepping 50 = .ok (.iinc 6 1, 3) := by decide +kernel
theorem dX3_byStepping_53 : decode cX3_byStepping 53 = .ok (.goto (-34), 3) := by decide +kernel
theorem dX3_byStepping_56 : decode cX3_byStepping 56 = .ok (.aload_n 0, 1) := by decide +kernel
theorem dX3_byStepping_57 : decode cX3_byStepping 57 = .ok (.invokevirtual 59, 3) := by decide +kernel
theorem dX3_byStepping_60 : decode cX3_byStepping 60 = .ok (.iinc 5 1, 3) := by decide +kernel
theorem dX3_byStepping_63 : decode cX3_byStepping 63 = .ok (.goto (-54), 3) := by decide +kernel
theorem dX3_byStepping_66 : decode cX3_byStepping 66 = .ok (.aload_n 0, 1) := by decide +kernel
theorem dX3_byStepping_67 : decode cX3_byStepping 67 = .ok (.getfield 19, 3) := by decide +kernel
theorem dX3_byStepping_70 : decode cX3_byStepping 70 = .ok (.iload_n 3, 1) := by decide +kernel
theorem dX3_byStepping_71 : decode cX3_byStepping 71 = .ok (.laload, 1) := by decide +kernel
theorem dX3_byStepping_72 : decode cX3_byStepping 72 = .ok (.l2i, 1) := by decide +kernel
theorem dX3_byStepping_73 : decode cX3_byStepping 73 = .ok (.ireturn, 1) := by decide +kernel
set_option maxRecDepth 20000 in
theorem ggX3_sumOf_X12_contains : GoodIn wsX3_sumOf wsX12_contains := goodIn_r _ [5] rfl (by decide +kernel)
set_option maxRecDepth 20000 in
theorem gX3_sumOf_X12_contains_n34 : GoodIn wsX3_sumOf (wsX12_contains) := ggX3_sumOf_X12_contains
theorem dX3_sumOf_0 : decode cX3_sumOf 0 = .ok (.lconst 0, 1) := by decide +kernel
theorem dX3_sumOf_1 : decode cX3_sumOf 1 = .ok (.lstore_n 3, 1) := by decide +kernel
theorem dX3_sumOf_2 : decode cX3_sumOf 2 = .ok (.iconst 0, 1) := by decide +kernel
theorem dX3_sumOf_3 : decode cX3_sumOf 3 = .ok (.istore 5, 2) := by decide +kernel
theorem dX3_sumOf_5 : decode cX3_sumOf 5 = .ok (.iload 5, 2) := by decide +kernel
theorem dX3_sumOf_7 : decode cX3_sumOf 7 = .ok (.iload_n 2, 1) := by decide +kernel
theorem dX3_sumOf_8 : decode cX3_sumOf 8 = .ok (.if_icmp .ge 28, 3) := by decide +kernel
theorem dX3_sumOf_11 : decode cX3_sumOf 11 = .ok (.iload_n 1, 1) := by decide +kernel
theorem dX3_sumOf_12 : decode cX3_sumOf 12 = .ok (.iload 5, 2) := by decide +kernel
theorem dX3_sumOf_14 : decode cX3_sumOf 14 = .ok (.invokestatic 34, 3) := by decide +kernel
theorem dX3_sumOf_17 : decode cX3_sumOf 17 = .ok (.ifCond .eq 13, 3) := by decide +kernel
theorem dX3_sumOf_20 : decode cX3_sumOf 20 = .ok (.lload_n 3, 1) := by decide +kernel
theorem dX3_sumOf_21 : decode cX3_sumOf 21 = .ok (.aload_n 0, 1) := by decide +kernel
theorem dX3_sumOf_22 : decode cX3_sumOf 22 = .ok (.getfield 19, 3) := by decide +kernel
theorem dX3_sumOf_25 : decode cX3_sumOf 25 = .ok (.iload 5, 2) := by decide +kernel
theorem dX3_sumOf_27 : decode cX3_sumOf 27 = .ok (.laload, 1) := by decide +kernel
theorem dX3_sumOf_28 : decode cX3_sumOf 28 = .ok (.ladd, 1) := by decide +kernel
theorem dX3_sumOf_29 : decode cX3_sumOf 29 = .ok (.lstore_n 3, 1) := by decide +kernel
theorem dX3_sumOf_30 : decode cX3_sumOf 30 = .ok (.iinc 5 1, 3) := by decide +kernel
theorem dX3_sumOf_33 : decode cX3_sumOf 33 = .ok (.goto (-28), 3) := by decide +kernel
theorem dX3_sumOf_36 : decode cX3_sumOf 36 = .ok (.lload_n 3, 1) := by decide +kernel
theorem dX3_sumOf_37 : decode cX3_sumOf 37 = .ok (.ldc2_w 62, 3) := by decide +kernel
theorem dX3_sumOf_40 : decode cX3_sumOf 40 = .ok (.lrem, 1) := by decide +kernel
theorem dX3_sumOf_41 : decode cX3_sumOf 41 = .ok (.lreturn, 1) := by decide +kernel
theorem dX4_init_0 : decode cX4_init 0 = .ok (.aload_n 0, 1) := by decide +kernel
theorem dX4_init_1 : decode cX4_init 1 = .ok (.invokespecial 3, 3) := by decide +kernel
theorem dX4_init_4 : decode cX4_init 4 = .ok (.aload_n 0, 1) := by decide +kernel
theorem dX4_init_5 : decode cX4_init 5 = .ok (.bipush 10, 2) := by decide +kernel
theorem dX4_init_7 : decode cX4_init 7 = .ok (.newarray .int, 2) := by decide +kernel
theorem dX4_init_9 : decode cX4_init 9 = .ok (.putfield 9, 3) := by decide +kernel
theorem dX4_init_12 : decode cX4_init 12 = .ok (.return_, 1) := by decide +kernel
set_option maxRecDepth 20000 in
theorem ggX4_bySearches_X12_contains : GoodIn wsX4_bySearches wsX12_contains := goodIn_r _ [4] rfl (by decide +kernel)
set_option maxRecDepth 20000 in
theorem gX4_bySearches_X12_contains_n21 : GoodIn wsX4_bySearches (wsX12_contains) := ggX4_bySearches_X12_contains
set_option maxRecDepth 20000 in
theorem ggX4_bySearches_X4_around : GoodIn wsX4_bySearches wsX4_around := goodIn_ca (goodIn_r _ [8, 9, 10, 7, 11, 1, 12, 3, 13, 14, 15, 16, 17, 18, 19, 20, 2, 4, 21, 22, 23, 24, 25, 26, 27, 28, 29, 30, 31] rfl (by decide +kernel)) (goodIn_sub (fun _ h => List.mem_cons_of_mem _ (List.mem_append_right _ h)) (by decide +kernel))
set_option maxRecDepth 20000 in
theorem gX4_bySearches_X4_around : GoodIn wsX4_bySearches (va_wsS RX4 25 yX4_around wsX4_around) := goodIn_app (goodIn_of _ (by decide +kernel)) ggX4_bySearches_X4_around
theorem dX4_bySearches_0 : decode cX4_bySearches 0 = .ok (.iconst 0, 1) := by decide +kernel
theorem dX4_bySearches_1 : decode cX4_bySearches 1 = .ok (.istore_n 1, 1) := by decide +kernel
theorem dX4_bySearches_2 : decode cX4_bySearches 2 = .ok (.iconst 0, 1) := by decide +kernel
theorem dX4_bySearches_3 : decode cX4_bySearches 3 = .ok (.istore_n 2, 1) := by decide +kernel
theorem dX4_bySearches_4 : decode cX4_bySearches 4 = .ok (.iconst 0, 1) := by decide +kernel
theorem dX4_bySearches_5 : decode cX4_bySearches 5 = .ok (.istore_n 3, 1) := by decide +kernel
theorem dX4_bySearches_6 : decode cX4_bySearches 6 = .ok (.iload_n 3, 1) := by decide +kernel
theorem dX4_bySearches_7 : decode cX4_bySearches 7 = .ok (.aload_n 0, 1) := by decide +kernel
theorem dX4_bySearches_8 : decode cX4_bySearches 8 = .ok (.getfield 15, 3) := by decide +kernel
theorem dX4_bySearches_11 : decode cX4_bySearches 11 = .ok (.if_icmp .ge 28, 3) := by decide +kernel
theorem dX4_bySearches_14 : decode cX4_bySearches 14 = .ok (.iload_n 2, 1) := by decide +kernel
theorem dX4_bySearches_15 : decode cX4_bySearches 15 = .ok (.iload_n 3, 1) := by decide +kernel
theorem dX4_bySearches_16 : decode cX4_bySearches 16 = .ok (.invokestatic 21, 3) := by decide +kernel
theorem dX4_bySearches_19 : decode cX4_bySearches 19 = .ok (.ifCond .ne 14, 3) := by decide +kernel
theorem dX4_bySearches_22 : decode cX4_bySearches 22 = .ok (.iinc 1 1, 3) := by decide +kernel
theorem dX4_bySearches_25 : decode cX4_bySearches 25 = .ok (.iload_n 2, 1) := by decide +kernel
theorem dX4_bySearches_26 : decode cX4_bySearches 26 = .ok (.aload_n 0, 1) := by decide +kernel
theorem dX4_bySearches_27 : decode cX4_bySearches 27 = .ok (.iload_n 3, 1) := by decide +kernel
theorem dX4_bySearches_28 : decode cX4_bySearches 28 = .ok (.invokestatic 25, 3) := by decide +kernel
theorem dX4_bySearches_31 : decode cX4_bySearches 31 = .ok (.ior, 1) := by decide +kernel
theorem dX4_bySearches_32 : decode cX4_bySearches 32 = .ok (.istore_n 2, 1) := by decide +kernel
theorem dX4_bySearches_33 : decode cX4_bySearches 33 = .ok (.iinc 3 1, 3) := by decide +kernel
theorem dX4_bySearches_36 : decode cX4_bySearches 36 = .ok (.goto (-30), 3) := by decide +kernel
theorem dX4_bySearches_39 : decode cX4_bySearches 39 = .ok (.iload_n 1, 1) := by decide +kernel
theorem dX4_bySearches_40 : decode cX4_bySearches 40 = .ok (.ireturn, 1) := by decide +kernel
set_option maxRecDepth 20000 in
theorem ggX4_around_X4_search : GoodIn wsX4_around wsX4_search := goodIn_ca (goodIn_r _ [4, 5, 6, 7, 8, 9, 10, 11, 12, 13, 14, 15, 16, 17, 18, 19, 20, 21, 22, 23, 24, 25, 26, 27, 28] rfl (by decide +kernel)) (goodIn_sub (fun _ h => List.mem_cons_of_mem _ (List.mem_append_right _ h)) (by decide +kernel))
set_option maxRecDepth 20000 in
theorem gX4_around_X4_search : GoodIn wsX4_around (va_wsS RX4 29 yX4_search wsX4_search) := goodIn_app (goodIn_of _ (by decide +kernel)) ggX4_around_X4_search
theorem dX4_around_0 : decode cX4_around 0 = .ok (.aload_n 0, 1) := by decide +kernel
theorem dX4_around_1 : decode cX4_around 1 = .ok (.iload_n 1, 1) := by decide +kernel
theorem dX4_around_2 : decode cX4_around 2 = .ok (.iconst 1, 1) := by decide +kernel
theorem dX4_around_3 : decode cX4_around 3 = .ok (.invokestatic 29, 3) := by decide +kernel
theorem dX4_around_6 : decode cX4_around 6 = .ok (.aload_n 0, 1) := by decide +kernel
theorem dX4_around_7 : decode cX4_around 7 = .ok (.iload_n 1, 1) := by decide +kernel
theorem dX4_around_8 : decode cX4_around 8 = .ok (.iconst 0, 1) := by decide +kernel
theorem dX4_around_9 : decode cX4_around 9 = .ok (.invokestatic 29, 3) := by decide +kernel
theorem dX4_around_12 : decode cX4_around 12 = .ok (.iand, 1) := by decide +kernel
theorem dX4_around_13 : decode cX4_around 13 = .ok (.ireturn, 1) := by decide +kernel
set_option maxRecDepth 20000 in
theorem ggX4_search_X12_bit : GoodIn wsX4_search wsX12_bit := goodIn_r _ [4] rfl (by decide +kernel)
set_option maxRecDepth 20000 in
theorem gX4_search_X12_bit_n33 : GoodIn wsX4_search (wsX12_bit) := ggX4_search_X12_bit
set_option maxRecDepth 20000 in
theorem ggX4_search_X5_targetsOf : GoodIn wsX4_search wsX5_targetsOf := goodIn_ca (goodIn_r _ [9, 10, 11, 12, 3, 13, 19, 20, 21, 22, 23, 24] rfl (by decide +kernel)) (goodIn_sub (fun _ h => List.mem_cons_of_mem _ (List.mem_append_right _ h)) (by decide +kernel))
set_option maxRecDepth 20000 in
theorem gX4_search_X5_targetsOf : GoodIn wsX4_search (wsV RX4 37 RX5 yX5_targetsOf wsX5_targetsOf) := goodIn_app (goodIn_of _ (by decide +kernel)) ggX4_search_X5_targetsOf
set_option maxRecDepth 20000 in
theorem ggX4_search_X5_attackersOf : GoodIn wsX4_search wsX5_attackersOf := goodIn_ca (goodIn_r _ [17, 10, 18, 12, 3, 13, 19, 20, 21, 22, 23, 24] rfl (by decide +kernel)) (goodIn_sub (fun _ h => List.mem_cons_of_mem _ (List.mem_append_right _ h)) (by decide +kernel))
set_option maxRecDepth 20000 in
theorem gX4_search_X5_attackersOf : GoodIn wsX4_search (wsV RX4 40 RX5 yX5_attackersOf wsX5_attackersOf) := goodIn_app (goodIn_of _ (by decide +kernel)) ggX4_search_X5_attackersOf
theorem dX4_search_0 : decode cX4_search 0 = .ok (.iload_n 1, 1) := by decide +kernel
theorem dX4_search_1 : decode cX4_search 1 = .ok (.invokestatic 33, 3) := by decide +kernel
theorem dX4_search_4 : decode cX4_search 4 = .ok (.istore_n 3, 1) := by decide +kernel
theorem dX4_search_5 : decode cX4_search 5 = .ok (.iload_n 3, 1) := by decide +kernel
theorem dX4_search_6 : decode cX4_search 6 = .ok (.istore 4, 2) := by decide +kernel
theorem dX4_search_8 : decode cX4_search 8 = .ok (.iconst 0, 1) := by decide +kernel
theorem dX4_search_9 : decode cX4_search 9 = .ok (.istore 5, 2) := by decide +kernel
theorem dX4_search_11 : decode cX4_search 11 = .ok (.iload 5, 2) := by decide +kernel
theorem dX4_search_13 : decode cX4_search 13 = .ok (.aload_n 0, 1) := by decide +kernel
theorem dX4_search_14 : decode cX4_search 14 = .ok (.getfield 15, 3) := by decide +kernel
theorem dX4_search_17 : decode cX4_search 17 = .ok (.if_icmp .ge 43, 3) := by decide +kernel
theorem dX4_search_20 : decode cX4_search 20 = .ok (.iload_n 2, 1) := by decide +kernel
theorem dX4_search_21 : decode cX4_search 21 = .ok (.ifCond .eq 12, 3) := by decide +kernel
theorem dX4_search_24 : decode cX4_search 24 = .ok (.aload_n 0, 1) := by decide +kernel
theorem dX4_search_25 : decode cX4_search 25 = .ok (.iload 4, 2) := by decide +kernel
theorem dX4_search_27 : decode cX4_search 27 = .ok (.invokevirtual 37, 3) := by decide +kernel
theorem dX4_search_30 : decode cX4_search 30 = .ok (.goto 9, 3) := by decide +kernel
theorem dX4_search_33 : decode cX4_search 33 = .ok (.aload_n 0, 1) := by decide +kernel
theorem dX4_search_34 : decode cX4_search 34 = .ok (.iload 4, 2) := by decide +kernel
theorem dX4_search_36 : decode cX4_search 36 = .ok (.invokevirtual 40, 3) := by decide +kernel
theorem dX4_search_39 : decode cX4_search 39 = .ok (.istore 6, 2) := by decide +kernel
theorem dX4_search_41 : decode cX4_search 41 = .ok (.iload 6, 2) := by decide +kernel
theorem dX4_search_43 : decode cX4_search 43 = .ok (.iload_n 3, 1) := by decide +kernel
theorem dX4_search_44 : decode cX4_search 44 = .ok (.iconst (-1), 1) := by decide +kernel
theorem dX4_search_45 : decode cX4_search 45 = .ok (.ixor, 1) := by decide +kernel
theorem dX4_search_46 : decode cX4_search 46 = .ok (.iand, 1) := by decide +kernel
theorem dX4_search_47 : decode cX4_search 47 = .ok (.istore 4, 2) := by decide +kernel
theorem dX4_search_49 : decode cX4_search 49 = .ok (.iload_n 3, 1) := by decide +kernel
theorem dX4_search_50 : decode cX4_search 50 = .ok (.iload 4, 2) := by decide +kernel
theorem dX4_search_52 : decode cX4_search 52 = .ok (.ior, 1) := by decide +kernel
theorem dX4_search_53 : decode cX4_search 53 = .ok (.istore_n 3, 1) := by decide +kernel
theorem dX4_search_54 : decode cX4_search 54 = .ok (.iinc 5 1, 3) := by decide +kernel
theorem dX4_search_57 : decode cX4_search 57 = .ok (.goto (-46), 3) := by decide +kernel
theorem dX4_search_60 : decode cX4_search 60 = .ok (.iload_n 3, 1) := by decide +kernel
theorem dX4_search_61 : decode cX4_search 61 = .ok (.ireturn, 1) := by decide +kernel
set_option maxRecDepth 20000 in
theorem ggX4_byReach_X4_fillReached : GoodIn wsX4_byReach wsX4_fillReached := goodIn_ca (goodIn_r _ [6, 1, 7, 8, 9, 10, 11, 12, 13, 18, 19, 20, 21, 22, 23, 24] rfl (by decide +kernel)) (goodIn_sub (fun _ h => List.mem_cons_of_mem _ (List.mem_append_right _ h)) (by decide +kernel))
set_option maxRecDepth 20000 in
theorem gX4_byReach_X4_fillReached : GoodIn wsX4_byReach (wsV RX4 43 RX4 yX4_fillReached wsX4_fillReached) := goodIn_app (goodIn_of _ (by decide +kernel)) ggX4_byReach_X4_fillReached
set_option maxRecDepth 20000 in
theorem ggX4_byReach_X4_isLowest : GoodIn wsX4_byReach wsX4_isLowest := goodIn_ca (goodIn_r _ [17, 7, 12, 10, 13, 24] rfl (by decide +kernel)) (goodIn_sub (fun _ h => List.mem_cons_of_mem _ (List.mem_append_right _ h)) (by decide +kernel))
set_option maxRecDepth 20000 in
theorem gX4_byReach_X4_isLowest : GoodIn wsX4_byReach (wsV RX4 47 RX4 yX4_isLowest wsX4_isLowest) := goodIn_app (goodIn_of _ (by decide +kernel)) ggX4_byReach_X4_isLowest
theorem dX4_byReach_0 : decode cX4_byReach 0 = .ok (.aload_n 0, 1) := by decide +kernel
theorem dX4_byReach_1 : decode cX4_byReach 1 = .ok (.aload_n 1, 1) := by decide +kernel
theorem dX4_byReach_2 : decode cX4_byReach 2 = .ok (.invokevirtual 43, 3) := by decide +kernel
theorem dX4_byReach_5 : decode cX4_byReach 5 = .ok (.iconst 0, 1) := by decide +kernel
theorem dX4_byReach_6 : decode cX4_byReach 6 = .ok (.istore_n 2, 1) := by decide +kernel
theorem dX4_byReach_7 : decode cX4_byReach 7 = .ok (.iconst 0, 1) := by decide +kernel
theorem dX4_byReach_8 : decode cX4_byReach 8 = .ok (.istore_n 3, 1) := by decide +kernel
theorem dX4_byReach_9 : decode cX4_byReach 9 = .ok (.iload_n 3, 1) := by decide +kernel
theorem dX4_byReach_10 : decode cX4_byReach 10 = .ok (.aload_n 1, 1) := by decide +kernel
theorem dX4_byReach_11 : decode cX4_byReach 11 = .ok (.getfield 15, 3) := by decide +kernel
theorem dX4_byReach_14 : decode cX4_byReach 14 = .ok (.if_icmp .ge 20, 3) := by decide +kernel
theorem dX4_byReach_17 : decode cX4_byReach 17 = .ok (.aload_n 0, 1) := by decide +kernel
theorem dX4_byReach_18 : decode cX4_byReach 18 = .ok (.iload_n 3, 1) := by decide +kernel
theorem dX4_byReach_19 : decode cX4_byReach 19 = .ok (.invokevirtual 47, 3) := by decide +kernel
theorem dX4_byReach_22 : decode cX4_byReach 22 = .ok (.ifCond .eq 6, 3) := by decide +kernel
theorem dX4_byReach_25 : decode cX4_byReach 25 = .ok (.iinc 2 1, 3) := by decide +kernel
theorem dX4_byReach_28 : decode cX4_byReach 28 = .ok (.iinc 3 1, 3) := by decide +kernel
theorem dX4_byReach_31 : decode cX4_byReach 31 = .ok (.goto (-22), 3) := by decide +kernel
theorem dX4_byReach_34 : decode cX4_byReach 34 = .ok (.iload_n 2, 1) := by decide +kernel
theorem dX4_byReach_35 : decode cX4_byReach 35 = .ok (.ireturn, 1) := by decide +kernel
set_option maxRecDepth 20000 in
theorem ggX4_fillReached_X12_bit : GoodIn wsX4_fillReached wsX12_bit := goodIn_r _ [6] rfl (by decide +kernel)
set_option maxRecDepth 20000 in
theorem gX4_fillReached_X12_bit_n33 : GoodIn wsX4_fillReached (wsX12_bit) := ggX4_fillReached_X12_bit
set_option maxRecDepth 20000 in
theorem ggX4_fillReached_X12_contains : GoodIn wsX4_fillReached wsX12_contains := goodIn_r _ [8] rfl (by decide +kernel)
set_option maxRecDepth 20000 in
theorem gX4_fillReached_X12_contains_n21 : GoodIn wsX4_fillReached (wsX12_contains) := ggX4_fillReached_X12_contains
theorem dX4_fillReached_0 : decode cX4_fillReached 0 = .ok (.iconst 0, 1) := by decide +kernel
theorem dX4_fillReached_1 : decode cX4_fillReached 1 = .ok (.istore_n 2, 1) := by decide +kernel
theorem dX4_fillReached_2 : decode cX4_fillReached 2 = .ok (.iload_n 2, 1) := by decide +kernel
theorem dX4_fillReached_3 : decode cX4_fillReached 3 = .ok (.aload_n 1, 1) := by decide +kernel
theorem dX4_fillReached_4 : decode cX4_fillReached 4 = .ok (.getfield 15, 3) := by decide +kernel
theorem dX4_fillReached_7 : decode cX4_fillReached 7 = .ok (.if_icmp .ge 26, 3) := by decide +kernel
theorem dX4_fillReached_10 : decode cX4_fillReached 10 = .ok (.aload_n 0, 1) := by decide +kernel
theorem dX4_fillReached_11 : decode cX4_fillReached 11 = .ok (.getfield 9, 3) := by decide +kernel
theorem dX4_fillReached_14 : decode cX4_fillReached 14 = .ok (.iload_n 2, 1) := by decide +kernel
theorem dX4_fillReached_15 : decode cX4_fillReached 15 = .ok (.aload_n 1, 1) := by decide +kernel
theorem dX4_fillReached_16 : decode cX4_fillReached 16 = .ok (.getfield 51, 3) := by decide +kernel
theorem dX4_fillReached_19 : decode cX4_fillReached 19 = .ok (.iload_n 2, 1) := by decide +kernel
theorem dX4_fillReached_20 : decode cX4_fillReached 20 = .ok (.iaload, 1) := by decide +kernel
theorem dX4_fillReached_21 : decode cX4_fillReached 21 = .ok (.iload_n 2, 1) := by decide +kernel
theorem dX4_fillReached_22 : decode cX4_fillReached 22 = .ok (.invokestatic 33, 3) := by decide +kernel
theorem dX4_fillReached_25 : decode cX4_fillReached 25 = .ok (.ior, 1) := by decide +kernel
theorem dX4_fillReached_26 : decode cX4_fillReached 26 = .ok (.iastore, 1) := by decide +kernel
theorem dX4_fillReached_27 : decode cX4_fillReached 27 = .ok (.iinc 2 1, 3) := by decide +kernel
theorem dX4_fillReached_30 : decode cX4_fillReached 30 = .ok (.goto (-28), 3) := by decide +kernel
theorem dX4_fillReached_33 : decode cX4_fillReached 33 = .ok (.iconst 0, 1) := by decide +kernel
theorem dX4_fillReached_34 : decode cX4_fillReached 34 = .ok (.istore_n 2, 1) := by decide +kernel
theorem dX4_fillReached_35 : decode cX4_fillReached 35 = .ok (.iload_n 2, 1) := by decide +kernel
theorem dX4_fillReached_36 : decode cX4_fillReached 36 = .ok (.aload_n 1, 1) := by decide +kernel
theorem dX4_fillReached_37 : decode cX4_fillReached 37 = .ok (.getfield 15, 3) := by decide +kernel
theorem dX4_fillReached_40 : decode cX4_fillReached 40 = .ok (.if_icmp .ge 53, 3) := by decide +kernel
theorem dX4_fillReached_43 : decode cX4_fillReached 43 = .ok (.iconst 0, 1) := by decide +kernel
theorem dX4_fillReached_44 : decode cX4_fillReached 44 = .ok (.istore_n 3, 1) := by decide +kernel
theorem dX4_fillReached_45 : decode cX4_fillReached 45 = .ok (.iload_n 3, 1) := by decide +kernel
theorem dX4_fillReached_46 : decode cX4_fillReached 46 = .ok (.aload_n 1, 1) := by decide +kernel
theorem dX4_fillReached_47 : decode cX4_fillReached 47 = .ok (.getfield 15, 3) := by decide +kernel
theorem dX4_fillReached_50 : decode cX4_fillReached 50 = .ok (.if_icmp .ge 37, 3) := by decide +kernel
theorem dX4_fillReached_53 : decode cX4_fillReached 53 = .ok (.aload_n 0, 1) := by decide +kernel
theorem dX4_fillReached_54 : decode cX4_fillReached 54 = .ok (.getfield 9, 3) := by decide +kernel
theorem dX4_fillReached_57 : decode cX4_fillReached 57 = .ok (.iload_n 3, 1) := by decide +kernel
theorem dX4_fillReached_58 : decode cX4_fillReached 58 = .ok (.iaload, 1) := by decide +kernel
theorem dX4_fillReached_59 : decode cX4_fillReached 59 = .ok (.iload_n 2, 1) := by decide +kernel
theorem dX4_fillReached_60 : decode cX4_fillReached 60 = .ok (.invokestatic 21, 3) := by decide +kernel
theorem dX4_fillReached_63 : decode cX4_fillReached 63 = .ok (.ifCond .eq 18, 3) := by decide +kernel
theorem dX4_fillReached_66 : decode cX4_fillReached 66 = .ok (.aload_n 0, 1) := by decide +kernel
theorem dX4_fillReached_67 : decode cX4_fillReached 67 = .ok (.getfield 9, 3) := by decide +kernel
theorem dX4_fillReached_70 : decode cX4_fillReached 70 = .ok (.iload_n 3, 1) := by decide +kernel
theorem dX4_fillReached_71 : decode cX4_fillReached 71 = .ok (.dup2, 1) := by decide +kernel
theorem dX4_fillReached_72 : decode cX4_fillReached 72 = .ok (.iaload, 1) := by decide +kernel
theorem dX4_fillReached_73 : decode cX4_fillReached 73 = .ok (.aload_n 0, 1) := by decide +kernel
theorem dX4_fillReached_74 : decode cX4_fillReached 74 = .ok (.getfield 9, 3) := by decide +kernel
theorem dX4_fillReached_77 : decode cX4_fillReached 77 = .ok (.iload_n 2, 1) := by decide +kernel
theorem dX4_fillReached_78 : decode cX4_fillReached 78 = .ok (.iaload, 1) := by decide +kernel
theorem dX4_fillReached_79 : decode cX4_fillReached 79 = .ok (.ior, 1) := by decide +kernel
theorem dX4_fillReached_80 : decode cX4_fillReached 80 = .ok (.iastore, 1) := by decide +kernel
theorem dX4_fillReached_81 : decode cX4_fillReached 81 = .ok (.iinc 3 1, 3) := by decide +kernel
theorem dX4_fillReached_84 : decode cX4_fillReached 84 = .ok (.goto (-39), 3) := by decide +kernel
theorem dX4_fillReached_87 : decode cX4_fillReached 87 = .ok (.iinc 2 1, 3) := by decide +kernel
theorem dX4_fillReached_90 : decode cX4_fillReached 90 = .ok (.goto (-55), 3) := by decide +kernel
theorem dX4_fillReached_93 : decode cX4_fillReached 93 = .ok (.return_, 1) := by decide +kernel
set_option maxRecDepth 20000 in
theorem ggX4_isLowest_X12_contains : GoodIn wsX4_isLowest wsX12_contains := goodIn_r _ [4] rfl (by decide +kernel)
set_option maxRecDepth 20000 in
theorem gX4_isLowest_X12_contains_n21 : GoodIn wsX4_isLowest (wsX12_contains) := ggX4_isLowest_X12_contains
theorem dX4_isLowest_0 : decode cX4_isLowest 0 = .ok (.iconst 0, 1) := by decide +kernel
theorem dX4_isLowest_1 : decode cX4_isLowest 1 = .ok (.istore_n 2, 1) := by decide +kernel
theorem dX4_isLowest_2 : decode cX4_isLowest 2 = .ok (.iload_n 2, 1) := by decide +kernel
theorem dX4_isLowest_3 : decode cX4_isLowest 3 = .ok (.iload_n 1, 1) := by decide +kernel
theorem dX4_isLowest_4 : decode cX4_isLowest 4 = .ok (.if_icmp .ge 37, 3) := by decide +kernel
theorem dX4_isLowest_7 : decode cX4_isLowest 7 = .ok (.aload_n 0, 1) := by decide +kernel
theorem dX4_isLowest_8 : decode cX4_isLowest 8 = .ok (.getfield 9, 3) := by decide +kernel
theorem dX4_isLowest_11 : decode cX4_isLowest 11 = .ok (.iload_n 1, 1) := by decide +kernel
theorem dX4_isLowest_12 : decode cX4_isLowest 12 = .ok (.iaload, 1) := by decide +kernel
theorem dX4_isLowest_13 : decode cX4_isLowest 13 = .ok (.iload_n 2, 1) := by decide +kernel
theorem dX4_isLowest_14 : decode cX4_isLowest 14 = .ok (.invokestatic 21, 3) := by decide +kernel
theorem dX4_isLowest_17 : decode cX4_isLowest 17 = .ok (.ifCond .eq 18, 3) := by decide +kernel
theorem dX4_isLowest_20 : decode cX4_isLowest 20 = .ok (.aload_n 0, 1) := by decide +kernel
theorem dX4_isLowest_21 : decode cX4_isLowest 21 = .ok (.getfield 9, 3) := by decide +kernel
theorem dX4_isLowest_24 : decode cX4_isLowest 24 = .ok (.iload_n 2, 1) := by decide +kernel
theorem dX4_isLowest_25 : decode cX4_isLowest 25 = .ok (.iaload, 1) := by decide +kernel
theorem dX4_isLowest_26 : decode cX4_isLowest 26 = .ok (.iload_n 1, 1) := by decide +kernel
theorem dX4_isLowest_27 : decode cX4_isLowest 27 = .ok (.invokestatic 21, 3) := by decide +kernel
theorem dX4_isLowest_30 : decode cX4_isLowest 30 = .ok (.ifCond .eq 5, 3) := by decide +kernel
theorem dX4_isLowest_33 : decode cX4_isLowest 33 = .ok (.iconst 0, 1) := by decide +kernel
theorem dX4_isLowest_34 : decode cX4_isLowest 34 = .ok (.ireturn, 1) := by decide +kernel
theorem dX4_isLowest_35 : decode cX4_isLowest 35 = .ok (.iinc 2 1, 3) := by decide +kernel
theorem dX4_isLowest_38 : decode cX4_isLowest 38 = .ok (.goto (-36), 3) := by decide +kernel
theorem dX4_isLowest_41 : decode cX4_isLowest 41 = .ok (.iconst 1, 1) := by decide +kernel
theorem dX4_isLowest_42 : decode cX4_isLowest 42 = .ok (.ireturn, 1) := by decide +kernel
theorem dX5_init_0 : decode cX5_init 0 = .ok (.aload_n 0, 1) := by decide +kernel
theorem dX5_init_1 : decode cX5_init 1 = .ok (.invokespecial 3, 3) := by decide +kernel
theorem dX5_init_4 : decode cX5_init 4 = .ok (.aload_n 0, 1) := by decide +kernel
theorem dX5_init_5 : decode cX5_init 5 = .ok (.iconst 0, 1) := by decide +kernel
theorem dX5_init_6 : decode cX5_init 6 = .ok (.putfield 9, 3) := by decide +kernel
theorem dX5_init_9 : decode cX5_init 9 = .ok (.aload_n 0, 1) := by decide +kernel
theorem dX5_init_10 : decode cX5_init 10 = .ok (.bipush 10, 2) := by decide +kernel
theorem dX5_init_12 : decode cX5_init 12 = .ok (.newarray .int, 2) := by decide +kernel
theorem dX5_init_14 : decode cX5_init 14 = .ok (.putfield 15, 3) := by decide +kernel
theorem dX5_init_17 : decode cX5_init 17 = .ok (.aload_n 0, 1) := by decide +kernel
theorem dX5_init_18 : decode cX5_init 18 = .ok (.bipush 10, 2) := by decide +kernel
theorem dX5_init_20 : decode cX5_init 20 = .ok (.newarray .int, 2) := by decide +kernel
theorem dX5_init_22 : decode cX5_init 22 = .ok (.putfield 19, 3) := by decide +kernel
theorem dX5_init_25 : decode cX5_init 25 = .ok (.aload_n 0, 1) := by decide +kernel
theorem dX5_init_26 : decode cX5_init 26 = .ok (.bipush 10, 2) := by decide +kernel
theorem dX5_init_28 : decode cX5_init 28 = .ok (.newarray .int, 2) := by decide +kernel
theorem dX5_init_30 : decode cX5_init 30 = .ok (.putfield 22, 3) := by decide +kernel
theorem dX5_init_33 : decode cX5_init 33 = .ok (.aload_n 0, 1) := by decide +kernel
theorem dX5_init_34 : decode cX5_init 34 = .ok (.bipush 10, 2) := by decide +kernel
theorem dX5_init_36 : decode cX5_init 36 = .ok (.newarray .int, 2) := by decide +kernel
theorem dX5_init_38 : decode cX5_init 38 = .ok (.putfield 25, 3) := by decide +kernel
theorem dX5_init_41 : decode cX5_init 41 = .ok (.aload_n 0, 1) := by decide +kernel
theorem dX5_init_42 : decode cX5_init 42 = .ok (.bipush 10, 2) := by decide +kernel
theorem dX5_init_44 : decode cX5_init 44 = .ok (.newarray .float, 2) := by decide +kernel
theorem dX5_init_46 : decode cX5_init 46 = .ok (.putfield 28, 3) := by decide +kernel
theorem dX5_init_49 : decode cX5_init 49 = .ok (.return_, 1) := by decide +kernel
theorem dX5_copyFrom_0 : decode cX5_copyFrom 0 = .ok (.aload_n 0, 1) := by decide +kernel
theorem dX5_copyFrom_1 : decode cX5_copyFrom 1 = .ok (.aload_n 1, 1) := by decide +kernel
theorem dX5_copyFrom_2 : decode cX5_copyFrom 2 = .ok (.getfield 9, 3) := by decide +kernel
theorem dX5_copyFrom_5 : decode cX5_copyFrom 5 = .ok (.putfield 9, 3) := by decide +kernel
theorem dX5_copyFrom_8 : decode cX5_copyFrom 8 = .ok (.aload_n 1, 1) := by decide +kernel
theorem dX5_copyFrom_9 : decode cX5_copyFrom 9 = .ok (.getfield 15, 3) := by decide +kernel
theorem dX5_copyFrom_12 : decode cX5_copyFrom 12 = .ok (.iconst 0, 1) := by decide +kernel
theorem dX5_copyFrom_13 : decode cX5_copyFrom 13 = .ok (.aload_n 0, 1) := by decide +kernel
theorem dX5_copyFrom_14 : decode cX5_copyFrom 14 = .ok (.getfield 15, 3) := by decide +kernel
theorem dX5_copyFrom_17 : decode cX5_copyFrom 17 = .ok (.iconst 0, 1) := by decide +kernel
theorem dX5_copyFrom_18 : decode cX5_copyFrom 18 = .ok (.bipush 10, 2) := by decide +kernel
theorem dX5_copyFrom_20 : decode cX5_copyFrom 20 = .ok (.invokestatic 32, 3) := by decide +kernel
theorem dX5_copyFrom_23 : decode cX5_copyFrom 23 = .ok (.aload_n 1, 1) := by decide +kernel
theorem dX5_copyFrom_24 : decode cX5_copyFrom 24 = .ok (.getfield 19, 3) := by decide +kernel
theorem dX5_copyFrom_27 : decode cX5_copyFrom 27 = .ok (.iconst 0, 1) := by decide +kernel
theorem dX5_copyFrom_28 : decode cX5_copyFrom 28 = .ok (.aload_n 0, 1) := by decide +kernel
theorem dX5_copyFrom_29 : decode cX5_copyFrom 29 = .ok (.getfield 19, 3) := by decide +kernel
theorem dX5_copyFrom_32 : decode cX5_copyFrom 32 = .ok (.iconst 0, 1) := by decide +kernel
theorem dX5_copyFrom_33 : decode cX5_copyFrom 33 = .ok (.bipush 10, 2) := by decide +kernel
theorem dX5_copyFrom_35 : decode cX5_copyFrom 35 = .ok (.invokestatic 32, 3) := by decide +kernel
theorem dX5_copyFrom_38 : decode cX5_copyFrom 38 = .ok (.aload_n 1, 1) := by decide +kernel
theorem dX5_copyFrom_39 : decode cX5_copyFrom 39 = .ok (.getfield 22, 3) := by decide +kernel
theorem dX5_copyFrom_42 : decode cX5_copyFrom 42 = .ok (.iconst 0, 1) := by decide +kernel
theorem dX5_copyFrom_43 : decode cX5_copyFrom 43 = .ok (.aload_n 0, 1) := by decide +kernel
theorem dX5_copyFrom_44 : decode cX5_copyFrom 44 = .ok (.getfield 22, 3) := by decide +kernel
theorem dX5_copyFrom_47 : decode cX5_copyFrom 47 = .ok (.iconst 0, 1) := by decide +kernel
theorem dX5_copyFrom_48 : decode cX5_copyFrom 48 = .ok (.bipush 10, 2) := by decide +kernel
theorem dX5_copyFrom_50 : decode cX5_copyFrom 50 = .ok (.invokestatic 32, 3) := by decide +kernel
theorem dX5_copyFrom_53 : decode cX5_copyFrom 53 = .ok (.aload_n 1, 1) := by decide +kernel
theorem dX5_copyFrom_54 : decode cX5_copyFrom 54 = .ok (.getfield 25, 3) := by decide +kernel
theorem dX5_copyFrom_57 : decode cX5_copyFrom 57 = .ok (.iconst 0, 1) := by decide +kernel
theorem dX5_copyFrom_58 : decode cX5_copyFrom 58 = .ok (.aload_n 0, 1) := by decide +kernel
theorem dX5_copyFrom_59 : decode cX5_copyFrom 59 = .ok (.getfield 25, 3) := by decide +kernel
theorem dX5_copyFrom_62 : decode cX5_copyFrom 62 = .ok (.iconst 0, 1) := by decide +kernel
theorem dX5_copyFrom_63 : decode cX5_copyFrom 63 = .ok (.bipush 10, 2) := by decide +kernel
theorem dX5_copyFrom_65 : decode cX5_copyFrom 65 = .ok (.invokestatic 32, 3) := by decide +kernel
theorem dX5_copyFrom_68 : decode cX5_copyFrom 68 = .ok (.aload_n 1, 1) := by decide +kernel
theorem dX5_copyFrom_69 : decode cX5_copyFrom 69 = .ok (.getfield 28, 3) := by decide +kernel
theorem dX5_copyFrom_72 : decode cX5_copyFrom 72 = .ok (.iconst 0, 1) := by decide +kernel
theorem dX5_copyFrom_73 : decode cX5_copyFrom 73 = .ok (.aload_n 0, 1) := by decide +kernel
theorem dX5_copyFrom_74 : decode cX5_copyFrom 74 = .ok (.getfield 28, 3) := by decide +kernel
theorem dX5_copyFrom_77 : decode cX5_copyFrom 77 = .ok (.iconst 0, 1) := by decide +kernel
theorem dX5_copyFrom_78 : decode cX5_copyFrom 78 = .ok (.bipush 10, 2) := by decide +kernel
theorem dX5_copyFrom_80 : decode cX5_copyFrom 80 = .ok (.invokestatic 32, 3) := by decide +kernel
theorem dX5_copyFrom_83 : decode cX5_copyFrom 83 = .ok (.return_, 1) := by decide +kernel
theorem dX5_has_0 : decode cX5_has 0 = .ok (.iload_n 1, 1) := by decide +kernel
theorem dX5_has_1 : decode cX5_has 1 = .ok (.ifCond .lt 15, 3) := by decide +kernel
theorem dX5_has_4 : decode cX5_has 4 = .ok (.iload_n 1, 1) := by decide +kernel
theorem dX5_has_5 : decode cX5_has 5 = .ok (.aload_n 0, 1) := by decide +kernel
theorem dX5_has_6 : decode cX5_has 6 = .ok (.getfield 9, 3) := by decide +kernel
theorem dX5_has_9 : decode cX5_has 9 = .ok (.if_icmp .ge 7, 3) := by decide +kernel
theorem dX5_has_12 : decode cX5_has 12 = .ok (.iconst 1, 1) := by decide +kernel
theorem dX5_has_13 : decode cX5_has 13 = .ok (.goto 4, 3) := by decide +kernel
theorem dX5_has_16 : decode cX5_has 16 = .ok (.iconst 0, 1) := by decide +kernel
theorem dX5_has_17 : decode cX5_has 17 = .ok (.ireturn, 1) := by decide +kernel
set_option maxRecDepth 20000 in
theorem ggX5_all_X12_bit : GoodIn wsX5_all wsX12_bit := goodIn_r _ [4] rfl (by decide +kernel)
set_option maxRecDepth 20000 in
theorem gX5_all_X12_bit_n38 : GoodIn wsX5_all (wsX12_bit) := ggX5_all_X12_bit
theorem dX5_all_0 : decode cX5_all 0 = .ok (.aload_n 0, 1) := by decide +kernel
theorem dX5_all_1 : decode cX5_all 1 = .ok (.getfield 9, 3) := by decide +kernel
theorem dX5_all_4 : decode cX5_all 4 = .ok (.invokestatic 38, 3) := by decide +kernel
theorem dX5_all_7 : decode cX5_all 7 = .ok (.iconst 1, 1) := by decide +kernel
theorem dX5_all_8 : decode cX5_all 8 = .ok (.isub, 1) := by decide +kernel
theorem dX5_all_9 : decode cX5_all 9 = .ok (.ireturn, 1) := by decide +kernel
theorem dX5_enter_0 : decode cX5_enter 0 = .ok (.iload_n 1, 1) := by decide +kernel
theorem dX5_enter_1 : decode cX5_enter 1 = .ok (.iconst 1, 1) := by decide +kernel
theorem dX5_enter_2 : decode cX5_enter 2 = .ok (.if_icmp .lt 9, 3) := by decide +kernel
theorem dX5_enter_5 : decode cX5_enter 5 = .ok (.iload_n 1, 1) := by decide +kernel
theorem dX5_enter_6 : decode cX5_enter 6 = .ok (.bipush 99, 2) := by decide +kernel
theorem dX5_enter_8 : decode cX5_enter 8 = .ok (.if_icmp .le 6, 3) := by decide +kernel
theorem dX5_enter_11 : decode cX5_enter 11 = .ok (.bipush (-2), 2) := by decide +kernel
theorem dX5_enter_13 : decode cX5_enter 13 = .ok (.ireturn, 1) := by decide +kernel
theorem dX5_enter_14 : decode cX5_enter 14 = .ok (.aload_n 0, 1) := by decide +kernel
theorem dX5_enter_15 : decode cX5_enter 15 = .ok (.getfield 9, 3) := by decide +kernel
theorem dX5_enter_18 : decode cX5_enter 18 = .ok (.bipush 10, 2) := by decide +kernel
theorem dX5_enter_20 : decode cX5_enter 20 = .ok (.if_icmp .lt 6, 3) := by decide +kernel
theorem dX5_enter_23 : decode cX5_enter 23 = .ok (.bipush (-3), 2) := by decide +kernel
theorem dX5_enter_25 : decode cX5_enter 25 = .ok (.ireturn, 1) := by decide +kernel
theorem dX5_enter_26 : decode cX5_enter 26 = .ok (.aload_n 0, 1) := by decide +kernel
theorem dX5_enter_27 : decode cX5_enter 27 = .ok (.getfield 15, 3) := by decide +kernel
theorem dX5_enter_30 : decode cX5_enter 30 = .ok (.aload_n 0, 1) := by decide +kernel
theorem dX5_enter_31 : decode cX5_enter 31 = .ok (.getfield 9, 3) := by decide +kernel
theorem dX5_enter_34 : decode cX5_enter 34 = .ok (.iload_n 1, 1) := by decide +kernel
theorem dX5_enter_35 : decode cX5_enter 35 = .ok (.iastore, 1) := by decide +kernel
theorem dX5_enter_36 : decode cX5_enter 36 = .ok (.aload_n 0, 1) := by decide +kernel
theorem dX5_enter_37 : decode cX5_enter 37 = .ok (.dup, 1) := by decide +kernel
theorem dX5_enter_38 : decode cX5_enter 38 = .ok (.getfield 9, 3) := by decide +kernel
theorem dX5_enter_41 : decode cX5_enter 41 = .ok (.iconst 1, 1) := by decide +kernel
theorem dX5_enter_42 : decode cX5_enter 42 = .ok (.iadd, 1) := by decide +kernel
theorem dX5_enter_43 : decode cX5_enter 43 = .ok (.putfield 9, 3) := by decide +kernel
theorem dX5_enter_46 : decode cX5_enter 46 = .ok (.aload_n 0, 1) := by decide +kernel
theorem dX5_enter_47 : decode cX5_enter 47 = .ok (.getfield 9, 3) := by decide +kernel
theorem dX5_enter_50 : decode cX5_enter 50 = .ok (.iconst 1, 1) := by decide +kernel
theorem dX5_enter_51 : decode cX5_enter 51 = .ok (.isub, 1) := by decide +kernel
theorem dX5_enter_52 : decode cX5_enter 52 = .ok (.ireturn, 1) := by decide +kernel
set_option maxRecDepth 20000 in
theorem ggX5_direct_X5_has : GoodIn wsX5_direct wsX5_has := goodIn_r _ [7, 8, 14, 15, 16, 17, 18, 19] rfl (by decide +kernel)
set_option maxRecDepth 20000 in
theorem gX5_direct_X5_has : GoodIn wsX5_direct (wsV RX5 42 RX5 yX5_has wsX5_has) := goodIn_app (goodIn_of _ (by decide +kernel)) ggX5_direct_X5_has
set_option maxRecDepth 20000 in
theorem ggX5_direct_X12_contains : GoodIn wsX5_direct wsX12_contains := goodIn_r _ [11] rfl (by decide +kernel)
set_option maxRecDepth 20000 in
theorem gX5_direct_X12_contains_n46 : GoodIn wsX5_direct (wsX12_contains) := ggX5_direct_X12_contains
set_option maxRecDepth 20000 in
theorem ggX5_direct_X12_bit : GoodIn wsX5_direct wsX12_bit := goodIn_r _ [13] rfl (by decide +kernel)
set_option maxRecDepth 20000 in
theorem gX5_direct_X12_bit_n38 : GoodIn wsX5_direct (wsX12_bit) := ggX5_direct_X12_bit
theorem dX5_direct_0 : decode cX5_direct 0 = .ok (.aload_n 0, 1) := by decide +kernel
theorem dX5_direct_1 : decode cX5_direct 1 = .ok (.iload_n 1, 1) := by decide +kernel
theorem dX5_direct_2 : decode cX5_direct 2 = .ok (.invokevirtual 42, 3) := by decide +kernel
theorem dX5_direct_5 : decode cX5_direct 5 = .ok (.ifCond .eq 11, 3) := by decide +kernel
theorem dX5_direct_8 : decode cX5_direct 8 = .ok (.aload_n 0, 1) := by decide +kernel
theorem dX5_direct_9 : decode cX5_direct 9 = .ok (.iload_n 2, 1) := by decide +kernel
theorem dX5_direct_10 : decode cX5_direct 10 = .ok (.invokevirtual 42, 3) := by decide +kernel
theorem dX5_direct_13 : decode cX5_direct 13 = .ok (.ifCond .ne 5, 3) := by decide +kernel
theorem dX5_direct_16 : decode cX5_direct 16 = .ok (.iconst (-1), 1) := by decide +kernel
theorem dX5_direct_17 : decode cX5_direct 17 = .ok (.ireturn, 1) := by decide +kernel
theorem dX5_direct_18 : decode cX5_direct 18 = .ok (.aload_n 0, 1) := by decide +kernel
theorem dX5_direct_19 : decode cX5_direct 19 = .ok (.getfield 22, 3) := by decide +kernel
theorem dX5_direct_22 : decode cX5_direct 22 = .ok (.iload_n 1, 1) := by decide +kernel
theorem dX5_direct_23 : decode cX5_direct 23 = .ok (.iaload, 1) := by decide +kernel
theorem dX5_direct_24 : decode cX5_direct 24 = .ok (.iload_n 2, 1) := by decide +kernel
theorem dX5_direct_25 : decode cX5_direct 25 = .ok (.invokestatic 46, 3) := by decide +kernel
theorem dX5_direct_28 : decode cX5_direct 28 = .ok (.istore 4, 2) := by decide +kernel
theorem dX5_direct_30 : decode cX5_direct 30 = .ok (.iload_n 3, 1) := by decide +kernel
theorem dX5_direct_31 : decode cX5_direct 31 = .ok (.ifCond .eq 32, 3) := by decide +kernel
theorem dX5_direct_34 : decode cX5_direct 34 = .ok (.aload_n 0, 1) := by decide +kernel
theorem dX5_direct_35 : decode cX5_direct 35 = .ok (.getfield 22, 3) := by decide +kernel
theorem dX5_direct_38 : decode cX5_direct 38 = .ok (.iload_n 1, 1) := by decide +kernel
theorem dX5_direct_39 : decode cX5_direct 39 = .ok (.dup2, 1) := by decide +kernel
theorem dX5_direct_40 : decode cX5_direct 40 = .ok (.iaload, 1) := by decide +kernel
theorem dX5_direct_41 : decode cX5_direct 41 = .ok (.iload_n 2, 1) := by decide +kernel
theorem dX5_direct_42 : decode cX5_direct 42 = .ok (.invokestatic 38, 3) := by decide +kernel
theorem dX5_direct_45 : decode cX5_direct 45 = .ok (.ior, 1) := by decide +kernel
theorem dX5_direct_46 : decode cX5_direct 46 = .ok (.iastore, 1) := by decide +kernel
theorem dX5_direct_47 : decode cX5_direct 47 = .ok (.aload_n 0, 1) := by decide +kernel
theorem dX5_direct_48 : decode cX5_direct 48 = .ok (.getfield 25, 3) := by decide +kernel
theorem dX5_direct_51 : decode cX5_direct 51 = .ok (.iload_n 2, 1) := by decide +kernel
theorem dX5_direct_52 : decode cX5_direct 52 = .ok (.dup2, 1) := by decide +kernel
theorem dX5_direct_53 : decode cX5_direct 53 = .ok (.iaload, 1) := by decide +kernel
theorem dX5_direct_54 : decode cX5_direct 54 = .ok (.iload_n 1, 1) := by decide +kernel
theorem dX5_direct_55 : decode cX5_direct 55 = .ok (.invokestatic 38, 3) := by decide +kernel
theorem dX5_direct_58 : decode cX5_direct 58 = .ok (.ior, 1) := by decide +kernel
theorem dX5_direct_59 : decode cX5_direct 59 = .ok (.iastore, 1) := by decide +kernel
theorem dX5_direct_60 : decode cX5_direct 60 = .ok (.goto 33, 3) := by decide +kernel
theorem dX5_direct_63 : decode cX5_direct 63 = .ok (.aload_n 0, 1) := by decide +kernel
theorem dX5_direct_64 : decode cX5_direct 64 = .ok (.getfield 22, 3) := by decide +kernel
theorem dX5_direct_67 : decode cX5_direct 67 = .ok (.iload_n 1, 1) := by decide +kernel
theorem dX5_direct_68 : decode cX5_direct 68 = .ok (.dup2, 1) := by decide +kernel
theorem dX5_direct_69 : decode cX5_direct 69 = .ok (.iaload, 1) := by decide +kernel
theorem dX5_direct_70 : decode cX5_direct 70 = .ok (.iload_n 2, 1) := by decide +kernel
theorem dX5_direct_71 : decode cX5_direct 71 = .ok (.invokestatic 38, 3) := by decide +kernel
theorem dX5_direct_74 : decode cX5_direct 74 = .ok (.iconst (-1), 1) := by decide +kernel
theorem dX5_direct_75 : decode cX5_direct 75 = .ok (.ixor, 1) := by decide +kernel
theorem dX5_direct_76 : decode cX5_direct 76 = .ok (.iand, 1) := by decide +kernel
theorem dX5_direct_77 : decode cX5_direct 77 = .ok (.iastore, 1) := by decide +kernel
theorem dX5_direct_78 : decode cX5_direct 78 = .ok (.aload_n 0, 1) := by decide +kernel
theorem dX5_direct_79 : decode cX5_direct 79 = .ok (.getfield 25, 3) := by decide +kernel
theorem dX5_direct_82 : decode cX5_direct 82 = .ok (.iload_n 2, 1) := by decide +kernel
theorem dX5_direct_83 : decode cX5_direct 83 = .ok (.dup2, 1) := by decide +kernel
theorem dX5_direct_84 : decode cX5_direct 84 = .ok (.iaload, 1) := by decide +kernel
theorem dX5_direct_85 : decode cX5_direct 85 = .ok (.iload_n 1, 1) := by decide +kernel
theorem dX5_direct_86 : decode cX5_direct 86 = .ok (.invokestatic 38, 3) := by decide +kernel
theorem dX5_direct_89 : decode cX5_direct 89 = .ok (.iconst (-1), 1) := by decide +kernel
theorem dX5_direct_90 : decode cX5_direct 90 = .ok (.ixor, 1) := by decide +kernel
theorem dX5_direct_91 : decode cX5_direct 91 = .ok (.iand, 1) := by decide +kernel
theorem dX5_direct_92 : decode cX5_direct 92 = .ok (.iastore, 1) := by decide +kernel
theorem dX5_direct_93 : decode cX5_direct 93 = .ok (.iload 4, 2) := by decide +kernel
theorem dX5_direct_95 : decode cX5_direct 95 = .ok (.ifCond .eq 7, 3) := by decide +kernel
theorem dX5_direct_98 : decode cX5_direct 98 = .ok (.iconst 1, 1) := by decide +kernel
theorem dX5_direct_99 : decode cX5_direct 99 = .ok (.goto 4, 3) := by decide +kernel
theorem dX5_direct_102 : decode cX5_direct 102 = .ok (.iconst 0, 1) := by decide +kernel
theorem dX5_direct_103 : decode cX5_direct 103 = .ok (.ireturn, 1) := by decide +kernel
set_option maxRecDepth 20000 in
theorem ggX5_move_X5_has : GoodIn wsX5_move wsX5_has := goodIn_r _ [6, 7, 11, 12, 13, 14, 15, 16] rfl (by decide +kernel)
set_option maxRecDepth 20000 in
theorem gX5_move_X5_has : GoodIn wsX5_move (wsV RX5 42 RX5 yX5_has wsX5_has) := goodIn_app (goodIn_of _ (by decide +kernel)) ggX5_move_X5_has
set_option maxRecDepth 20000 in
theorem ggX5_move_X12_isLayer : GoodIn wsX5_move wsX12_isLayer := goodIn_r _ [10] rfl (by decide +kernel)
set_option maxRecDepth 20000 in
theorem gX5_move_X12_isLayer_n50 : GoodIn wsX5_move (wsX12_isLayer) := ggX5_move_X12_isLayer
theorem dX5_move_0 : decode cX5_move 0 = .ok (.aload_n 0, 1) := by decide +kernel
theorem dX5_move_1 : decode cX5_move 1 = .ok (.iload_n 1, 1) := by decide +kernel
theorem dX5_move_2 : decode cX5_move 2 = .ok (.invokevirtual 42, 3) := by decide +kernel
theorem dX5_move_5 : decode cX5_move 5 = .ok (.ifCond .eq 10, 3) := by decide +kernel
theorem dX5_move_8 : decode cX5_move 8 = .ok (.iload_n 2, 1) := by decide +kernel
theorem dX5_move_9 : decode cX5_move 9 = .ok (.invokestatic 50, 3) := by decide +kernel
theorem dX5_move_12 : decode cX5_move 12 = .ok (.ifCond .ne 5, 3) := by decide +kernel
theorem dX5_move_15 : decode cX5_move 15 = .ok (.iconst (-1), 1) := by decide +kernel
theorem dX5_move_16 : decode cX5_move 16 = .ok (.ireturn, 1) := by decide +kernel
theorem dX5_move_17 : decode cX5_move 17 = .ok (.aload_n 0, 1) := by decide +kernel
theorem dX5_move_18 : decode cX5_move 18 = .ok (.getfield 19, 3) := by decide +kernel
theorem dX5_move_21 : decode cX5_move 21 = .ok (.iload_n 1, 1) := by decide +kernel
theorem dX5_move_22 : decode cX5_move 22 = .ok (.iaload, 1) := by decide +kernel
theorem dX5_move_23 : decode cX5_move 23 = .ok (.istore_n 3, 1) := by decide +kernel
theorem dX5_move_24 : decode cX5_move 24 = .ok (.aload_n 0, 1) := by decide +kernel
theorem dX5_move_25 : decode cX5_move 25 = .ok (.getfield 19, 3) := by decide +kernel
theorem dX5_move_28 : decode cX5_move 28 = .ok (.iload_n 1, 1) := by decide +kernel
theorem dX5_move_29 : decode cX5_move 29 = .ok (.iload_n 2, 1) := by decide +kernel
theorem dX5_move_30 : decode cX5_move 30 = .ok (.iastore, 1) := by decide +kernel
theorem dX5_move_31 : decode cX5_move 31 = .ok (.iload_n 3, 1) := by decide +kernel
theorem dX5_move_32 : decode cX5_move 32 = .ok (.ireturn, 1) := by decide +kernel
set_option maxRecDepth 20000 in
theorem ggX5_targetsOf_X12_contains : GoodIn wsX5_targetsOf wsX12_contains := goodIn_r _ [5] rfl (by decide +kernel)
set_option maxRecDepth 20000 in
theorem gX5_targetsOf_X12_contains_n46 : GoodIn wsX5_targetsOf (wsX12_contains) := ggX5_targetsOf_X12_contains
theorem dX5_targetsOf_0 : decode cX5_targetsOf 0 = .ok (.iconst 0, 1) := by decide +kernel
theorem dX5_targetsOf_1 : decode cX5_targetsOf 1 = .ok (.istore_n 2, 1) := by decide +kernel
theorem dX5_targetsOf_2 : decode cX5_targetsOf 2 = .ok (.iconst 0, 1) := by decide +kernel
theorem dX5_targetsOf_3 : decode cX5_targetsOf 3 = .ok (.istore_n 3, 1) := by decide +kernel
theorem dX5_targetsOf_4 : decode cX5_targetsOf 4 = .ok (.iload_n 3, 1) := by decide +kernel
theorem dX5_targetsOf_5 : decode cX5_targetsOf 5 = .ok (.aload_n 0, 1) := by decide +kernel
theorem dX5_targetsOf_6 : decode cX5_targetsOf 6 = .ok (.getfield 9, 3) := by decide +kernel
theorem dX5_targetsOf_9 : decode cX5_targetsOf 9 = .ok (.if_icmp .ge 26, 3) := by decide +kernel
theorem dX5_targetsOf_12 : decode cX5_targetsOf 12 = .ok (.iload_n 1, 1) := by decide +kernel
theorem dX5_targetsOf_13 : decode cX5_targetsOf 13 = .ok (.iload_n 3, 1) := by decide +kernel
theorem dX5_targetsOf_14 : decode cX5_targetsOf 14 = .ok (.invokestatic 46, 3) := by decide +kernel
theorem dX5_targetsOf_17 : decode cX5_targetsOf 17 = .ok (.ifCond .eq 12, 3) := by decide +kernel
theorem dX5_targetsOf_20 : decode cX5_targetsOf 20 = .ok (.iload_n 2, 1) := by decide +kernel
theorem dX5_targetsOf_21 : decode cX5_targetsOf 21 = .ok (.aload_n 0, 1) := by decide +kernel
theorem dX5_targetsOf_22 : decode cX5_targetsOf 22 = .ok (.getfield 22, 3) := by decide +kernel
theorem dX5_targetsOf_25 : decode cX5_targetsOf 25 = .ok (.iload_n 3, 1) := by decide +kernel
theorem dX5_targetsOf_26 : decode cX5_targetsOf 26 = .ok (.iaload, 1) := by decide +kernel
theorem dX5_targetsOf_27 : decode cX5_targetsOf 27 = .ok (.ior, 1) := by decide +kernel
theorem dX5_targetsOf_28 : decode cX5_targetsOf 28 = .ok (.istore_n 2, 1) := by decide +kernel
theorem dX5_targetsOf_29 : decode cX5_targetsOf 29 = .ok (.iinc 3 1, 3) := by decide +kernel
theorem dX5_targetsOf_32 : decode cX5_targetsOf 32 = .ok (.goto (-28), 3) := by decide +kernel
theorem dX5_targetsOf_35 : decode cX5_targetsOf 35 = .ok (.iload_n 2, 1) := by decide +kernel
theorem dX5_targetsOf_36 : decode cX5_targetsOf 36 = .ok (.ireturn, 1) := by decide +kernel
set_option maxRecDepth 20000 in
theorem ggX5_attackersOf_X12_contains : GoodIn wsX5_attackersOf wsX12_contains := goodIn_r _ [5] rfl (by decide +kernel)
set_option maxRecDepth 20000 in
theorem gX5_attackersOf_X12_contains_n46 : GoodIn wsX5_attackersOf (wsX12_contains) := ggX5_attackersOf_X12_contains
theorem dX5_attackersOf_0 : decode cX5_attackersOf 0 = .ok (.iconst 0, 1) := by decide +kernel
theorem dX5_attackersOf_1 : decode cX5_attackersOf 1 = .ok (.istore_n 2, 1) := by decide +kernel
theorem dX5_attackersOf_2 : decode cX5_attackersOf 2 = .ok (.iconst 0, 1) := by decide +kernel
theorem dX5_attackersOf_3 : decode cX5_attackersOf 3 = .ok (.istore_n 3, 1) := by decide +kernel
theorem dX5_attackersOf_4 : decode cX5_attackersOf 4 = .ok (.iload_n 3, 1) := by decide +kernel
theorem dX5_attackersOf_5 : decode cX5_attackersOf 5 = .ok (.aload_n 0, 1) := by decide +kernel
theorem dX5_attackersOf_6 : decode cX5_attackersOf 6 = .ok (.getfield 9, 3) := by decide +kernel
theorem dX5_attackersOf_9 : decode cX5_attackersOf 9 = .ok (.if_icmp .ge 26, 3) := by decide +kernel
theorem dX5_attackersOf_12 : decode cX5_attackersOf 12 = .ok (.iload_n 1, 1) := by decide +kernel
theorem dX5_attackersOf_13 : decode cX5_attackersOf 13 = .ok (.iload_n 3, 1) := by decide +kernel
theorem dX5_attackersOf_14 : decode cX5_attackersOf 14 = .ok (.invokestatic 46, 3) := by decide +kernel
theorem dX5_attackersOf_17 : decode cX5_attackersOf 17 = .ok (.ifCond .eq 12, 3) := by decide +kernel
theorem dX5_attackersOf_20 : decode cX5_attackersOf 20 = .ok (.iload_n 2, 1) := by decide +kernel
theorem dX5_attackersOf_21 : decode cX5_attackersOf 21 = .ok (.aload_n 0, 1) := by decide +kernel
theorem dX5_attackersOf_22 : decode cX5_attackersOf 22 = .ok (.getfield 25, 3) := by decide +kernel
theorem dX5_attackersOf_25 : decode cX5_attackersOf 25 = .ok (.iload_n 3, 1) := by decide +kernel
theorem dX5_attackersOf_26 : decode cX5_attackersOf 26 = .ok (.iaload, 1) := by decide +kernel
theorem dX5_attackersOf_27 : decode cX5_attackersOf 27 = .ok (.ior, 1) := by decide +kernel
theorem dX5_attackersOf_28 : decode cX5_attackersOf 28 = .ok (.istore_n 2, 1) := by decide +kernel
theorem dX5_attackersOf_29 : decode cX5_attackersOf 29 = .ok (.iinc 3 1, 3) := by decide +kernel
theorem dX5_attackersOf_32 : decode cX5_attackersOf 32 = .ok (.goto (-28), 3) := by decide +kernel
theorem dX5_attackersOf_35 : decode cX5_attackersOf 35 = .ok (.iload_n 2, 1) := by decide +kernel
theorem dX5_attackersOf_36 : decode cX5_attackersOf 36 = .ok (.ireturn, 1) := by decide +kernel
set_option maxRecDepth 20000 in
theorem ggX5_weightOfSet_X12_contains : GoodIn wsX5_weightOfSet wsX12_contains := goodIn_r _ [5] rfl (by decide +kernel)
set_option maxRecDepth 20000 in
theorem gX5_weightOfSet_X12_contains_n46 : GoodIn wsX5_weightOfSet (wsX12_contains) := ggX5_weightOfSet_X12_contains
theorem dX5_weightOfSet_0 : decode cX5_weightOfSet 0 = .ok (.iconst 0, 1) := by decide +kernel
theorem dX5_weightOfSet_1 : decode cX5_weightOfSet 1 = .ok (.istore_n 2, 1) := by decide +kernel
theorem dX5_weightOfSet_2 : decode cX5_weightOfSet 2 = .ok (.iconst 0, 1) := by decide +kernel
theorem dX5_weightOfSet_3 : decode cX5_weightOfSet 3 = .ok (.istore_n 3, 1) := by decide +kernel
theorem dX5_weightOfSet_4 : decode cX5_weightOfSet 4 = .ok (.iload_n 3, 1) := by decide +kernel
theorem dX5_weightOfSet_5 : decode cX5_weightOfSet 5 = .ok (.aload_n 0, 1) := by decide +kernel
theorem dX5_weightOfSet_6 : decode cX5_weightOfSet 6 = .ok (.getfield 9, 3) := by decide +kernel
theorem dX5_weightOfSet_9 : decode cX5_weightOfSet 9 = .ok (.if_icmp .ge 26, 3) := by decide +kernel
theorem dX5_weightOfSet_12 : decode cX5_weightOfSet 12 = .ok (.iload_n 1, 1) := by decide +kernel
theorem dX5_weightOfSet_13 : decode cX5_weightOfSet 13 = .ok (.iload_n 3, 1) := by decide +kernel
theorem dX5_weightOfSet_14 : decode cX5_weightOfSet 14 = .ok (.invokestatic 46, 3) := by decide +kernel
theorem dX5_weightOfSet_17 : decode cX5_weightOfSet 17 = .ok (.ifCond .eq 12, 3) := by decide +kernel
theorem dX5_weightOfSet_20 : decode cX5_weightOfSet 20 = .ok (.iload_n 2, 1) := by decide +kernel
theorem dX5_weightOfSet_21 : decode cX5_weightOfSet 21 = .ok (.aload_n 0, 1) := by decide +kernel
theorem dX5_weightOfSet_22 : decode cX5_weightOfSet 22 = .ok (.getfield 15, 3) := by decide +kernel
theorem dX5_weightOfSet_25 : decode cX5_weightOfSet 25 = .ok (.iload_n 3, 1) := by decide +kernel
theorem dX5_weightOfSet_26 : decode cX5_weightOfSet 26 = .ok (.iaload, 1) := by decide +kernel
theorem dX5_weightOfSet_27 : decode cX5_weightOfSet 27 = .ok (.iadd, 1) := by decide +kernel
theorem dX5_weightOfSet_28 : decode cX5_weightOfSet 28 = .ok (.istore_n 2, 1) := by decide +kernel
theorem dX5_weightOfSet_29 : decode cX5_weightOfSet 29 = .ok (.iinc 3 1, 3) := by decide +kernel
theorem dX5_weightOfSet_32 : decode cX5_weightOfSet 32 = .ok (.goto (-28), 3) := by decide +kernel
theorem dX5_weightOfSet_35 : decode cX5_weightOfSet 35 = .ok (.iload_n 2, 1) := by decide +kernel
theorem dX5_weightOfSet_36 : decode cX5_weightOfSet 36 = .ok (.ireturn, 1) := by decide +kernel
theorem dX5_sumOfFluxes_0 : decode cX5_sumOfFluxes 0 = .ok (.fconst 0, 1) := by decide +kernel
theorem dX5_sumOfFluxes_1 : decode cX5_sumOfFluxes 1 = .ok (.fstore_n 1, 1) := by decide +kernel
theorem dX5_sumOfFluxes_2 : decode cX5_sumOfFluxes 2 = .ok (.iconst 0, 1) := by decide +kernel
theorem dX5_sumOfFluxes_3 : decode cX5_sumOfFluxes 3 = .ok (.istore_n 2, 1) := by decide +kernel
theorem dX5_sumOfFluxes_4 : decode cX5_sumOfFluxes 4 = .ok (.iload_n 2, 1) := by decide +kernel
theorem dX5_sumOfFluxes_5 : decode cX5_sumOfFluxes 5 = .ok (.aload_n 0, 1) := by decide +kernel
theorem dX5_sumOfFluxes_6 : decode cX5_sumOfFluxes 6 = .ok (.getfield 9, 3) := by decide +kernel
theorem dX5_sumOfFluxes_9 : decode cX5_sumOfFluxes 9 = .ok (.if_icmp .ge 18, 3) := by decide +kernel
theorem dX5_sumOfFluxes_12 : decode cX5_sumOfFluxes 12 = .ok (.fload_n 1, 1) := by decide +kernel
theorem dX5_sumOfFluxes_13 : decode cX5_sumOfFluxes 13 = .ok (.aload_n 0, 1) := by decide +kernel
theorem dX5_sumOfFluxes_14 : decode cX5_sumOfFluxes 14 = .ok (.getfield 28, 3) := by decide +kernel
theorem dX5_sumOfFluxes_17 : decode cX5_sumOfFluxes 17 = .ok (.iload_n 2, 1) := by decide +kernel
theorem dX5_sumOfFluxes_18 : decode cX5_sumOfFluxes 18 = .ok (.faload, 1) := by decide +kernel
theorem dX5_sumOfFluxes_19 : decode cX5_sumOfFluxes 19 = .ok (.fadd, 1) := by decide +kernel
theorem dX5_sumOfFluxes_20 : decode cX5_sumOfFluxes 20 = .ok (.fstore_n 1, 1) := by decide +kernel
theorem dX5_sumOfFluxes_21 : decode cX5_sumOfFluxes 21 = .ok (.iinc 2 1, 3) := by decide +kernel
theorem dX5_sumOfFluxes_24 : decode cX5_sumOfFluxes 24 = .ok (.goto (-20), 3) := by decide +kernel
theorem dX5_sumOfFluxes_27 : decode cX5_sumOfFluxes 27 = .ok (.fload_n 1, 1) := by decide +kernel
theorem dX5_sumOfFluxes_28 : decode cX5_sumOfFluxes 28 = .ok (.freturn, 1) := by decide +kernel
set_option maxRecDepth 20000 in
theorem ggX5_countAhead_X5_isAhead : GoodIn wsX5_countAhead wsX5_isAhead := goodIn_ca (goodIn_r _ [6, 7, 8, 9, 10, 11, 12, 13, 14] rfl (by decide +kernel)) (goodIn_sub (fun _ h => List.mem_cons_of_mem _ (List.mem_append_right _ h)) (by decide +kernel))
set_option maxRecDepth 20000 in
theorem gX5_countAhead_X5_isAhead : GoodIn wsX5_countAhead (wsV RX5 53 RX5 yX5_isAhead wsX5_isAhead) := goodIn_app (goodIn_of _ (by decide +kernel)) ggX5_countAhead_X5_isAhead
theorem dX5_countAhead_0 : decode cX5_countAhead 0 = .ok (.iconst 0, 1) := by decide +kernel
theorem dX5_countAhead_1 : decode cX5_countAhead 1 = .ok (.istore_n 2, 1) := by decide +kernel
theorem dX5_countAhead_2 : decode cX5_countAhead 2 = .ok (.iconst 0, 1) := by decide +kernel
theorem dX5_countAhead_3 : decode cX5_countAhead 3 = .ok (.istore_n 3, 1) := by decide +kernel
theorem dX5_countAhead_4 : decode cX5_countAhead 4 = .ok (.iload_n 3, 1) := by decide +kernel
theorem dX5_countAhead_5 : decode cX5_countAhead 5 = .ok (.aload_n 0, 1) := by decide +kernel
theorem dX5_countAhead_6 : decode cX5_countAhead 6 = .ok (.getfield 9, 3) := by decide +kernel
theorem dX5_countAhead_9 : decode cX5_countAhead 9 = .ok (.if_icmp .ge 21, 3) := by decide +kernel
theorem dX5_countAhead_12 : decode cX5_countAhead 12 = .ok (.aload_n 0, 1) := by decide +kernel
theorem dX5_countAhead_13 : decode cX5_countAhead 13 = .ok (.iload_n 3, 1) := by decide +kernel
theorem dX5_countAhead_14 : decode cX5_countAhead 14 = .ok (.iload_n 1, 1) := by decide +kernel
theorem dX5_countAhead_15 : decode cX5_countAhead 15 = .ok (.invokevirtual 53, 3) := by decide +kernel
theorem dX5_countAhead_18 : decode cX5_countAhead 18 = .ok (.ifCond .eq 6, 3) := by decide +kernel
theorem dX5_countAhead_21 : decode cX5_countAhead 21 = .ok (.iinc 2 1, 3) := by decide +kernel
theorem dX5_countAhead_24 : decode cX5_countAhead 24 = .ok (.iinc 3 1, 3) := by decide +kernel
theorem dX5_countAhead_27 : decode cX5_countAhead 27 = .ok (.goto (-23), 3) := by decide +kernel
theorem dX5_countAhead_30 : decode cX5_countAhead 30 = .ok (.iload_n 2, 1) := by decide +kernel
theorem dX5_countAhead_31 : decode cX5_countAhead 31 = .ok (.ireturn, 1) := by decide +kernel
theorem dX5_isAhead_0 : decode cX5_isAhead 0 = .ok (.aload_n 0, 1) := by decide +kernel
theorem dX5_isAhead_1 : decode cX5_isAhead 1 = .ok (.getfield 28, 3) := by decide +kernel
theorem dX5_isAhead_4 : decode cX5_isAhead 4 = .ok (.iload_n 1, 1) := by decide +kernel
theorem dX5_isAhead_5 : decode cX5_isAhead 5 = .ok (.faload, 1) := by decide +kernel
theorem dX5_isAhead_6 : decode cX5_isAhead 6 = .ok (.aload_n 0, 1) := by decide +kernel
theorem dX5_isAhead_7 : decode cX5_isAhead 7 = .ok (.getfield 28, 3) := by decide +kernel
theorem dX5_isAhead_10 : decode cX5_isAhead 10 = .ok (.iload_n 2, 1) := by decide +kernel
theorem dX5_isAhead_11 : decode cX5_isAhead 11 = .ok (.faload, 1) := by decide +kernel
theorem dX5_isAhead_12 : decode cX5_isAhead 12 = .ok (.fcmp .l, 1) := by decide +kernel
theorem dX5_isAhead_13 : decode cX5_isAhead 13 = .ok (.ifCond .eq 25, 3) := by decide +kernel
theorem dX5_isAhead_16 : decode cX5_isAhead 16 = .ok (.aload_n 0, 1) := by decide +kernel
theorem dX5_isAhead_17 : decode cX5_isAhead 17 = .ok (.getfield 28, 3) := by decide +kernel
theorem dX5_isAhead_20 : decode cX5_isAhead 20 = .ok (.iload_n 1, 1) := by decide +kernel
theorem dX5_isAhead_21 : decode cX5_isAhead 21 = .ok (.faload, 1) := by decide +kernel
theorem dX5_isAhead_22 : decode cX5_isAhead 22 = .ok (.aload_n 0, 1) := by decide +kernel
theorem dX5_isAhead_23 : decode cX5_isAhead 23 = .ok (.getfield 28, 3) := by decide +kernel
theorem dX5_isAhead_26 : decode cX5_isAhead 26 = .ok (.iload_n 2, 1) := by decide +kernel
theorem dX5_isAhead_27 : decode cX5_isAhead 27 = .ok (.faload, 1) := by decide +kernel
theorem dX5_isAhead_28 : decode cX5_isAhead 28 = .ok (.fcmp .l, 1) := by decide +kernel
theorem dX5_isAhead_29 : decode cX5_isAhead 29 = .ok (.ifCond .le 7, 3) := by decide +kernel
theorem dX5_isAhead_32 : decode cX5_isAhead 32 = .ok (.iconst 1, 1) := by decide +kernel
theorem dX5_isAhead_33 : decode cX5_isAhead 33 = .ok (.goto 4, 3) := by decide +kernel
theorem dX5_isAhead_36 : decode cX5_isAhead 36 = .ok (.iconst 0, 1) := by decide +kernel
theorem dX5_isAhead_37 : decode cX5_isAhead 37 = .ok (.ireturn, 1) := by decide +kernel
theorem dX5_isAhead_38 : decode cX5_isAhead 38 = .ok (.aload_n 0, 1) := by decide +kernel
theorem dX5_isAhead_39 : decode cX5_isAhead 39 = .ok (.getfield 15, 3) := by decide +kernel
theorem dX5_isAhead_42 : decode cX5_isAhead 42 = .ok (.iload_n 1, 1) := by decide +kernel
theorem dX5_isAhead_43 : decode cX5_isAhead 43 = .ok (.iaload, 1) := by decide +kernel
theorem dX5_isAhead_44 : decode cX5_isAhead 44 = .ok (.aload_n 0, 1) := by decide +kernel
theorem dX5_isAhead_45 : decode cX5_isAhead 45 = .ok (.getfield 15, 3) := by decide +kernel
theorem dX5_isAhead_48 : decode cX5_isAhead 48 = .ok (.iload_n 2, 1) := by decide +kernel
theorem dX5_isAhead_49 : decode cX5_isAhead 49 = .ok (.iaload, 1) := by decide +kernel
theorem dX5_isAhead_50 : decode cX5_isAhead 50 = .ok (.if_icmp .eq 24, 3) := by decide +kernel
theorem dX5_isAhead_53 : decode cX5_isAhead 53 = .ok (.aload_n 0, 1) := by decide +kernel
theorem dX5_isAhead_54 : decode cX5_isAhead 54 = .ok (.getfield 15, 3) := by decide +kernel
theorem dX5_isAhead_57 : decode cX5_isAhead 57 = .ok (.iload_n 1, 1) := by decide +kernel
theorem dX5_isAhead_58 : decode cX5_isAhead 58 = .ok (.iaload, 1) := by decide +kernel
theorem dX5_isAhead_59 : decode cX5_isAhead 59 = .ok (.aload_n 0, 1) := by decide +kernel
theorem dX5_isAhead_60 : decode cX5_isAhead 60 = .ok (.getfield 15, 3) := by decide +kernel
theorem dX5_isAhead_63 : decode cX5_isAhead 63 = .ok (.iload_n 2, 1) := by decide +kernel
theorem dX5_isAhead_64 : decode cX5_isAhead 64 = .ok (.iaload, 1) := by decide +kernel
theorem dX5_isAhead_65 : decode cX5_isAhead 65 = .ok (.if_icmp .le 7, 3) := by decide +kernel
theorem dX5_isAhead_68 : decode cX5_isAhead 68 = .ok (.iconst 1, 1) := by decide +kernel
theorem dX5_isAhead_69 : decode cX5_isAhead 69 = .ok (.goto 4, 3) := by decide +kernel
theorem dX5_isAhead_72 : decode cX5_isAhead 72 = .ok (.iconst 0, 1) := by decide +kernel
theorem dX5_isAhead_73 : decode cX5_isAhead 73 = .ok (.ireturn, 1) := by decide +kernel
theorem dX5_isAhead_74 : decode cX5_isAhead 74 = .ok (.iload_n 1, 1) := by decide +kernel
theorem dX5_isAhead_75 : decode cX5_isAhead 75 = .ok (.iload_n 2, 1) := by decide +kernel
theorem dX5_isAhead_76 : decode cX5_isAhead 76 = .ok (.if_icmp .ge 7, 3) := by decide +kernel
theorem dX5_isAhead_79 : decode cX5_isAhead 79 = .ok (.iconst 1, 1) := by decide +kernel
theorem dX5_isAhead_80 : decode cX5_isAhead 80 = .ok (.goto 4, 3) := by decide +kernel
theorem dX5_isAhead_83 : decode cX5_isAhead 83 = .ok (.iconst 0, 1) := by decide +kernel
theorem dX5_isAhead_84 : decode cX5_isAhead 84 = .ok (.ireturn, 1) := by decide +kernel
theorem dX6_init_0 : decode cX6_init 0 = .ok (.aload_n 0, 1) := by decide +kernel
theorem dX6_init_1 : decode cX6_init 1 = .ok (.invokespecial 3, 3) := by decide +kernel
theorem dX6_init_4 : decode cX6_init 4 = .ok (.aload_n 0, 1) := by decide +kernel
theorem dX6_init_5 : decode cX6_init 5 = .ok (.bipush 60, 2) := by decide +kernel
theorem dX6_init_7 : decode cX6_init 7 = .ok (.newarray .char, 2) := by decide +kernel
theorem dX6_init_9 : decode cX6_init 9 = .ok (.putfield 9, 3) := by decide +kernel
theorem dX6_init_12 : decode cX6_init 12 = .ok (.aload_n 0, 1) := by decide +kernel
theorem dX6_init_13 : decode cX6_init 13 = .ok (.iconst 0, 1) := by decide +kernel
theorem dX6_init_14 : decode cX6_init 14 = .ok (.putfield 15, 3) := by decide +kernel
theorem dX6_init_17 : decode cX6_init 17 = .ok (.aload_n 0, 1) := by decide +kernel
theorem dX6_init_18 : decode cX6_init 18 = .ok (.bipush 10, 2) := by decide +kernel
theorem dX6_init_20 : decode cX6_init 20 = .ok (.anewarray 19, 3) := by decide +kernel
theorem dX6_init_23 : decode cX6_init 23 = .ok (.putfield 21, 3) := by decide +kernel
theorem dX6_init_26 : decode cX6_init 26 = .ok (.aload_n 0, 1) := by decide +kernel
theorem dX6_init_27 : decode cX6_init 27 = .ok (.bipush 10, 2) := by decide +kernel
theorem dX6_init_29 : decode cX6_init 29 = .ok (.iconst 3, 1) := by decide +kernel
theorem dX6_init_30 : decode cX6_init 30 = .ok (.multianewarray 25 2, 4) := by decide +kernel
theorem dX6_init_34 : decode cX6_init 34 = .ok (.putfield 27, 3) := by decide +kernel
theorem dX6_init_37 : decode cX6_init 37 = .ok (.aload_n 0, 1) := by decide +kernel
theorem dX6_init_38 : decode cX6_init 38 = .ok (.iconst 0, 1) := by decide +kernel
theorem dX6_init_39 : decode cX6_init 39 = .ok (.putfield 30, 3) := by decide +kernel
theorem dX6_init_42 : decode cX6_init 42 = .ok (.aload_n 0, 1) := by decide +kernel
theorem dX6_init_43 : decode cX6_init 43 = .ok (.iconst 0, 1) := by decide +kernel
theorem dX6_init_44 : decode cX6_init 44 = .ok (.putfield 33, 3) := by decide +kernel
theorem dX6_init_47 : decode cX6_init 47 = .ok (.aload_n 0, 1) := by decide +kernel
theorem dX6_init_48 : decode cX6_init 48 = .ok (.iconst 0, 1) := by decide +kernel
theorem dX6_init_49 : decode cX6_init 49 = .ok (.putfield 36, 3) := by decide +kernel
theorem dX6_init_52 : decode cX6_init 52 = .ok (.return_, 1) := by decide +kernel
set_option maxRecDepth 20000 in
theorem ggX6_parse_X6_readForm : GoodIn wsX6_parse wsX6_readForm := goodIn_ca (goodIn_r _ [10, 2, 11, 12, 13, 14, 15, 16, 17, 9, 18, 19, 20, 21, 22, 23, 24, 25, 26, 27, 28, 29, 30, 31, 32, 33, 34, 35, 36, 37, 38, 39, 40, 41, 42, 43, 44, 45, 46, 47, 48, 49, 50, 51, 52, 53, 54, 55, 56, 57, 58, 59, 60, 61, 62, 63, 64, 65, 66, 67, 68, 69, 70, 71, 72, 73, 74, 75, 76, 77, 5, 78, 79, 80, 81, 4, 82, 83, 84, 85, 1, 86, 87, 88, 89, 90, 91, 92, 93, 94, 95, 96, 97, 98, 99, 100, 101, 102, 103, 104, 105, 106, 107, 108, 109, 110, 111, 112, 113, 114, 115, 116, 117, 118, 119, 120, 121, 122, 123, 124, 125, 126, 127, 128, 129, 130, 131, 132, 133, 134, 135, 136, 137, 138, 139, 140, 141, 142, 143, 144, 145, 146, 147, 148, 149, 150, 151, 152, 153, 154, 155, 156, 157, 158, 159, 160, 161, 162, 163, 164, 165, 166, 167] rfl (by decide +kernel)) (goodIn_sub (fun _ h => List.mem_cons_of_mem _ (List.mem_append_right _ h)) (by decide +kernel))
set_option maxRecDepth 20000 in
theorem gX6_parse_X6_readForm : GoodIn wsX6_parse (wsV RX6 39 RX6 yX6_readForm wsX6_readForm) := goodIn_app (goodIn_of _ (by decide +kernel)) ggX6_parse_X6_readForm
theorem dX6_parse_0 : decode cX6_parse 0 = .ok (.iconst 0, 1) := by decide +kernel
theorem dX6_parse_1 : decode cX6_parse 1 = .ok (.istore_n 1, 1) := by decide +kernel
theorem dX6_parse_2 : decode cX6_parse 2 = .ok (.iconst 0, 1) := by decide +kernel
theorem dX6_parse_3 : decode cX6_parse 3 = .ok (.istore_n 2, 1) := by decide +kernel
theorem dX6_parse_4 : decode cX6_parse 4 = .ok (.iload_n 2, 1) := by decide +kernel
theorem dX6_parse_5 : decode cX6_parse 5 = .ok (.bipush 10, 2) := by decide +kernel
theorem dX6_parse_7 : decode cX6_parse 7 = .ok (.if_icmp .ge 82, 3) := by decide +kernel
theorem dX6_parse_10 : decode cX6_parse 10 = .ok (.aload_n 0, 1) := by decide +kernel
theorem dX6_parse_11 : decode cX6_parse 11 = .ok (.iload_n 2, 1) := by decide +kernel
theorem dX6_parse_12 : decode cX6_parse 12 = .ok (.putfield 30, 3) := by decide +kernel
theorem dX6_parse_15 : decode cX6_parse 15 = .ok (.aload_n 0, 1) := by decide +kernel
theorem dX6_parse_16 : decode cX6_parse 16 = .ok (.iload_n 1, 1) := by decide +kernel
theorem dX6_parse_17 : decode cX6_parse 17 = .ok (.invokevirtual 39, 3) := by decide +kernel
theorem dX6_parse_20 : decode cX6_parse 20 = .ok (.astore_n 3, 1) := by decide +kernel
theorem dX6_parse_21 : decode cX6_parse 21 = .ok (.aload_n 3, 1) := by decide +kernel
theorem dX6_parse_22 : decode cX6_parse 22 = .ok (.ifnonnull 8, 3) := by decide +kernel
theorem dX6_parse_25 : decode cX6_parse 25 = .ok (.aload_n 0, 1) := by decide +kernel
theorem dX6_parse_26 : decode cX6_parse 26 = .ok (.getfield 36, 3) := by decide +kernel
theorem dX6_parse_29 : decode cX6_parse 29 = .ok (.ireturn, 1) := by decide +kernel
theorem dX6_parse_30 : decode cX6_parse 30 = .ok (.aload_n 0, 1) := by decide +kernel
theorem dX6_parse_31 : decode cX6_parse 31 = .ok (.getfield 21, 3) := by decide +kernel
theorem dX6_parse_34 : decode cX6_parse 34 = .ok (.iload_n 2, 1) := by decide +kernel
theorem dX6_parse_35 : decode cX6_parse 35 = .ok (.aload_n 3, 1) := by decide +kernel
theorem dX6_parse_36 : decode cX6_parse 36 = .ok (.aastore, 1) := by decide +kernel
theorem dX6_parse_37 : decode cX6_parse 37 = .ok (.aload_n 0, 1) := by decide +kernel
theorem dX6_parse_38 : decode cX6_parse 38 = .ok (.getfield 36, 3) := by decide +kernel
theorem dX6_parse_41 : decode cX6_parse 41 = .ok (.aload_n 0, 1) := by decide +kernel
theorem dX6_parse_42 : decode cX6_parse 42 = .ok (.getfield 15, 3) := by decide +kernel
theorem dX6_parse_45 : decode cX6_parse 45 = .ok (.if_icmp .lt 12, 3) := by decide +kernel
theorem dX6_parse_48 : decode cX6_parse 48 = .ok (.aload_n 0, 1) := by decide +kernel
theorem dX6_parse_49 : decode cX6_parse 49 = .ok (.iload_n 2, 1) := by decide +kernel
theorem dX6_parse_50 : decode cX6_parse 50 = .ok (.iconst 1, 1) := by decide +kernel
theorem dX6_parse_51 : decode cX6_parse 51 = .ok (.iadd, 1) := by decide +kernel
theorem dX6_parse_52 : decode cX6_parse 52 = .ok (.putfield 30, 3) := by decide +kernel
theorem dX6_parse_55 : decode cX6_parse 55 = .ok (.iconst (-1), 1) := by decide +kernel
theorem dX6_parse_56 : decode cX6_parse 56 = .ok (.ireturn, 1) := by decide +kernel
theorem dX6_parse_57 : decode cX6_parse 57 = .ok (.aload_n 0, 1) := by decide +kernel
theorem dX6_parse_58 : decode cX6_parse 58 = .ok (.getfield 9, 3) := by decide +kernel
theorem dX6_parse_61 : decode cX6_parse 61 = .ok (.aload_n 0, 1) := by decide +kernel
theorem dX6_parse_62 : decode cX6_parse 62 = .ok (.getfield 36, 3) := by decide +kernel
theorem dX6_parse_65 : decode cX6_parse 65 = .ok (.caload, 1) := by decide +kernel
theorem dX6_parse_66 : decode cX6_parse 66 = .ok (.bipush 59, 2) := by decide +kernel
theorem dX6_parse_68 : decode cX6_parse 68 = .ok (.if_icmp .eq 8, 3) := by decide +kernel
theorem dX6_parse_71 : decode cX6_parse 71 = .ok (.aload_n 0, 1) := by decide +kernel
theorem dX6_parse_72 : decode cX6_parse 72 = .ok (.getfield 36, 3) := by decide +kernel
theorem dX6_parse_75 : decode cX6_parse 75 = .ok (.ireturn, 1) := by decide +kernel
theorem dX6_parse_76 : decode cX6_parse 76 = .ok (.aload_n 0, 1) := by decide +kernel
theorem dX6_parse_77 : decode cX6_parse 77 = .ok (.getfield 36, 3) := by decide +kernel
theorem dX6_parse_80 : decode cX6_parse 80 = .ok (.iconst 1, 1) := by decide +kernel
theorem dX6_parse_81 : decode cX6_parse 81 = .ok (.iadd, 1) := by decide +kernel
theorem dX6_parse_82 : decode cX6_parse 82 = .ok (.istore_n 1, 1) := by decide +kernel
theorem dX6_parse_83 : decode cX6_parse 83 = .ok (.iinc 2 1, 3) := by decide +kernel
theorem dX6_parse_86 : decode cX6_parse 86 = .ok (.goto (-82), 3) := by decide +kernel
theorem dX6_parse_89 : decode cX6_parse 89 = .ok (.iload_n 1, 1) := by decide +kernel
theorem dX6_parse_90 : decode cX6_parse 90 = .ok (.ireturn, 1) := by decide +kernel
set_option maxRecDepth 20000 in
theorem ggX6_readForm_X6_takesForm : GoodIn wsX6_readForm wsX6_takesForm := goodIn_ca (goodIn_r _ [10, 1, 11, 12, 13, 14, 15, 16, 17, 18, 19, 20, 21, 22, 23, 24, 25, 26, 27, 28, 29, 30, 31, 32, 33, 34, 35, 36, 37, 38, 39, 40, 41, 42, 43, 44, 45, 46, 47, 48, 49, 50, 51, 52, 53, 54, 55, 56, 57, 58, 59, 60, 61, 62, 63, 64, 9, 65, 66, 67, 68, 69, 70, 71, 72, 73, 74, 75, 76, 77, 78, 79, 80, 81, 82, 83, 84, 85, 86, 87, 88, 89, 90, 91, 92, 93, 94, 95, 96, 97, 98, 99, 100, 101, 102, 3, 4, 5, 103, 104, 105, 106, 107, 108, 109, 110, 111, 112, 113, 114, 115, 116, 117, 118, 119, 120, 121, 122, 123, 124, 125, 126, 127, 128, 129, 130, 131, 132, 133, 134, 135, 136, 137, 138, 139, 140, 141, 142, 143, 144, 145, 146, 147, 148, 149, 150, 151, 152, 153, 154, 155, 156, 157, 158, 159, 160, 161, 162] rfl (by decide +kernel)) (goodIn_sub (fun _ h => List.mem_cons_of_mem _ (List.mem_append_right _ h)) (by decide +kernel))
set_option maxRecDepth 20000 in
theorem gX6_readForm_X6_takesForm : GoodIn wsX6_readForm (wsV RX6 46 RX6 yX6_takesForm wsX6_takesForm) := goodIn_app (goodIn_of _ (by decide +kernel)) ggX6_readForm_X6_takesForm
theorem dX6_readForm_0 : decode cX6_readForm 0 = .ok (.iload_n 1, 1) := by decide +kernel
theorem dX6_readForm_1 : decode cX6_readForm 1 = .ok (.istore_n 2, 1) := by decide +kernel
theorem dX6_readForm_2 : decode cX6_readForm 2 = .ok (.getstatic 43, 3) := by decide +kernel
theorem dX6_readForm_5 : decode cX6_readForm 5 = .ok (.astore_n 3, 1) := by decide +kernel
theorem dX6_readForm_6 : decode cX6_readForm 6 = .ok (.aload_n 3, 1) := by decide +kernel
theorem dX6_readForm_7 : decode cX6_readForm 7 = .ok (.arraylength, 1) := by decide +kernel
theorem dX6_readForm_8 : decode cX6_readForm 8 = .ok (.istore 4, 2) := by decide +kernel
theorem dX6_readForm_10 : decode cX6_readForm 10 = .ok (.iconst 0, 1) := by decide +kernel
theorem dX6_readForm_11 : decode cX6_readForm 11 = .ok (.istore 5, 2) := by decide +kernel
theorem dX6_readForm_13 : decode cX6_readForm 13 = .ok (.iload 5, 2) := by decide +kernel
theorem dX6_readForm_15 : decode cX6_readForm 15 = .ok (.iload 4, 2) := by decide +kernel
theorem dX6_readForm_17 : decode cX6_readForm 17 = .ok (.if_icmp .ge 37, 3) := by decide +kernel
theorem dX6_readForm_20 : decode cX6_readForm 20 = .ok (.aload_n 3, 1) := by decide +kernel
theorem dX6_readForm_21 : decode cX6_readForm 21 = .ok (.iload 5, 2) := by decide +kernel
theorem dX6_readForm_23 : decode cX6_readForm 23 = .ok (.aaload, 1) := by decide +kernel
theorem dX6_readForm_24 : decode cX6_readForm 24 = .ok (.astore 6, 2) := by decide +kernel
theorem dX6_readForm_26 : decode cX6_readForm 26 = .ok (.aload_n 0, 1) := by decide +kernel
theorem dX6_readForm_27 : decode cX6_readForm 27 = .ok (.aload 6, 2) := by decide +kernel
theorem dX6_readForm_29 : decode cX6_readForm 29 = .ok (.iload_n 1, 1) := by decide +kernel
theorem dX6_readForm_30 : decode cX6_readForm 30 = .ok (.invokevirtual 46, 3) := by decide +kernel
theorem dX6_readForm_33 : decode cX6_readForm 33 = .ok (.ifCond .eq 6, 3) := by decide +kernel
theorem dX6_readForm_36 : decode cX6_readForm 36 = .ok (.aload 6, 2) := by decide +kernel
theorem dX6_readForm_38 : decode cX6_readForm 38 = .ok (.areturn, 1) := by decide +kernel
theorem dX6_readForm_39 : decode cX6_readForm 39 = .ok (.iload_n 2, 1) := by decide +kernel
theorem dX6_readForm_40 : decode cX6_readForm 40 = .ok (.aload_n 0, 1) := by decide +kernel
theorem dX6_readForm_41 : decode cX6_readForm 41 = .ok (.getfield 36, 3) := by decide +kernel
theorem dX6_readForm_44 : decode cX6_readForm 44 = .ok (.invokestatic 50, 3) := by decide +kernel
theorem dX6_readForm_47 : decode cX6_readForm 47 = .ok (.istore_n 2, 1) := by decide +kernel
theorem dX6_readForm_48 : decode cX6_readForm 48 = .ok (.iinc 5 1, 3) := by decide +kernel
theorem dX6_readForm_51 : decode cX6_readForm 51 = .ok (.goto (-38), 3) := by decide +kernel
theorem dX6_readForm_54 : decode cX6_readForm 54 = .ok (.aload_n 0, 1) := by decide +kernel
theorem dX6_readForm_55 : decode cX6_readForm 55 = .ok (.iload_n 2, 1) := by decide +kernel
theorem dX6_readForm_56 : decode cX6_readForm 56 = .ok (.putfield 36, 3) := by decide +kernel
theorem dX6_readForm_59 : decode cX6_readForm 59 = .ok (.aconst_null, 1) := by decide +kernel
theorem dX6_readForm_60 : decode cX6_readForm 60 = .ok (.areturn, 1) := by decide +kernel
set_option maxRecDepth 20000 in
theorem ggX6_takesForm_J0_length_8abf5 : GoodIn wsX6_takesForm wsJ0_length_8abf5 := goodIn_r _ [8, 9, 10, 11, 12, 7, 13, 14, 15, 154, 155, 156, 157] rfl (by decide +kernel)
set_option maxRecDepth 20000 in
theorem gX6_takesForm_J0_length_8abf5 : GoodIn wsX6_takesForm (wsV RX6 60 RJ0 yJ0_length_8abf5 wsJ0_length_8abf5) := goodIn_app (goodIn_of _ (by decide +kernel)) ggX6_takesForm_J0_length_8abf5
set_option maxRecDepth 20000 in
theorem ggX6_takesForm_J0_charAt_5068e : GoodIn wsX6_takesForm wsJ0_charAt_5068e := goodIn_r _ [19, 9, 20, 21, 22, 7, 23, 14, 15, 24, 25, 26, 27, 28, 29, 30, 31, 32, 33, 34, 35, 36, 37, 38, 39, 40, 41, 42, 43, 44, 45, 46, 47, 48, 49, 50, 51, 52, 154, 155, 156, 157] rfl (by decide +kernel)
set_option maxRecDepth 20000 in
theorem gX6_takesForm_J0_charAt_5068e : GoodIn wsX6_takesForm (wsV RX6 65 RJ0 yJ0_charAt_5068e wsJ0_charAt_5068e) := goodIn_app (goodIn_of _ (by decide +kernel)) ggX6_takesForm_J0_charAt_5068e
set_option maxRecDepth 20000 in
theorem ggX6_takesForm_X6_takesPart : GoodIn wsX6_takesForm wsX6_takesPart := goodIn_ca (goodIn_r _ [57, 58, 59, 60, 56, 61, 62, 1, 63, 64, 65, 66, 67, 68, 69, 70, 71, 72, 2, 73, 74, 75, 76, 77, 78, 79, 80, 81, 82, 83, 84, 7, 85, 86, 87, 88, 89, 9, 20, 21, 22, 23, 14, 15, 90, 5, 6, 8, 10, 11, 12, 13, 91, 92, 26, 93, 94, 95, 96, 97, 98, 99, 100, 101, 102, 103, 104, 105, 106, 107, 108, 38, 109, 110, 111, 112, 113, 114, 115, 116, 117, 118, 43, 44, 45, 119, 120, 121, 31, 122, 123, 34, 124, 125, 126, 127, 47, 48, 49, 50, 51, 52, 128, 129, 130, 131, 132, 133, 134, 135, 136, 137, 138, 139, 140, 141, 142, 143, 144, 145, 146, 147, 148, 149, 150, 151, 152, 153, 154, 155, 156, 157] rfl (by decide +kernel)) (goodIn_sub (fun _ h => List.mem_cons_of_mem _ (List.mem_append_right _ h)) (by decide +kernel))
set_option maxRecDepth 20000 in
theorem gX6_takesForm_X6_takesPart : GoodIn wsX6_takesForm (wsV RX6 69 RX6 yX6_takesPart wsX6_takesPart) := goodIn_app (goodIn_of _ (by decide +kernel)) ggX6_takesForm_X6_takesPart
theorem dX6_takesForm_0 : decode cX6_takesForm 0 = .ok (.aload_n 0, 1) := by decide +kernel
theorem dX6_takesForm_1 : decode cX6_takesForm 1 = .ok (.iload_n 2, 1) := by decide +kernel
theorem dX6_takesForm_2 : decode cX6_takesForm 2 = .ok (.putfield 36, 3) := by decide +kernel
theorem dX6_takesForm_5 : decode cX6_takesForm 5 = .ok (.aload_n 0, 1) := by decide +kernel
theorem dX6_takesForm_6 : decode cX6_takesForm 6 = .ok (.iconst 0, 1) := by decide +kernel
theorem dX6_takesForm_7 : decode cX6_takesForm 7 = .ok (.putfield 33, 3) := by decide +kernel
theorem dX6_takesForm_10 : decode cX6_takesForm 10 = .ok (.iconst 0, 1) := by decide +kernel
theorem dX6_takesForm_11 : decode cX6_takesForm 11 = .ok (.istore_n 3, 1) := by decide +kernel
theorem dX6_takesForm_12 : decode cX6_takesForm 12 = .ok (.iload_n 3, 1) := by decide +kernel
theorem dX6_takesForm_13 : decode cX6_takesForm 13 = .ok (.aload_n 1, 1) := by decide +kernel
theorem dX6_takesForm_14 : decode cX6_takesForm 14 = .ok (.getfield 56, 3) := by decide +kernel
theorem dX6_takesForm_17 : decode cX6_takesForm 17 = .ok (.invokevirtual 60, 3) := by decide +kernel
theorem dX6_takesForm_20 : decode cX6_takesForm 20 = .ok (.if_icmp .ge 26, 3) := by decide +kernel
theorem dX6_takesForm_23 : decode cX6_takesForm 23 = .ok (.aload_n 0, 1) := by decide +kernel
theorem dX6_takesForm_24 : decode cX6_takesForm 24 = .ok (.aload_n 1, 1) := by decide +kernel
theorem dX6_takesForm_25 : decode cX6_takesForm 25 = .ok (.getfield 56, 3) := by decide +kernel
theorem dX6_takesForm_28 : decode cX6_takesForm 28 = .ok (.iload_n 3, 1) := by decide +kernel
theorem dX6_takesForm_29 : decode cX6_takesForm 29 = .ok (.invokevirtual 65, 3) := by decide +kernel
theorem dX6_takesForm_32 : decode cX6_takesForm 32 = .ok (.invokevirtual 69, 3) := by decide +kernel
theorem dX6_takesForm_35 : decode cX6_takesForm 35 = .ok (.ifCond .ne 5, 3) := by decide +kernel
theorem dX6_takesForm_38 : decode cX6_takesForm 38 = .ok (.iconst 0, 1) := by decide +kernel
theorem dX6_takesForm_39 : decode cX6_takesForm 39 = .ok (.ireturn, 1) := by decide +kernel
theorem dX6_takesForm_40 : decode cX6_takesForm 40 = .ok (.iinc 3 1, 3) := by decide +kernel
theorem dX6_takesForm_43 : decode cX6_takesForm 43 = .ok (.goto (-31), 3) := by decide +kernel
theorem dX6_takesForm_46 : decode cX6_takesForm 46 = .ok (.iconst 1, 1) := by decide +kernel
theorem dX6_takesForm_47 : decode cX6_takesForm 47 = .ok (.ireturn, 1) := by decide +kernel
set_option maxRecDepth 20000 in
theorem ggX6_takesPart_X6_takesNumber : GoodIn wsX6_takesPart wsX6_takesNumber := goodIn_ca (goodIn_r _ [5, 6, 7, 8, 9, 10, 4, 11, 12, 13, 14, 15, 16, 17, 18, 19, 121, 122, 123, 124, 125, 126, 127] rfl (by decide +kernel)) (goodIn_sub (fun _ h => List.mem_cons_of_mem _ (List.mem_append_right _ h)) (by decide +kernel))
set_option maxRecDepth 20000 in
theorem gX6_takesPart_X6_takesNumber : GoodIn wsX6_takesPart (wsV RX6 73 RX6 yX6_takesNumber wsX6_takesNumber) := goodIn_app (goodIn_of _ (by decide +kernel)) ggX6_takesPart_X6_takesNumber
set_option maxRecDepth 20000 in
theorem ggX6_takesPart_X6_takesDigit : GoodIn wsX6_takesPart wsX6_takesDigit := goodIn_ca (goodIn_r _ [23, 6, 7, 8, 9, 10, 4, 11, 12, 13, 14, 15, 16, 17, 18, 19, 121, 122, 123, 124, 125, 126, 127] rfl (by decide +kernel)) (goodIn_sub (fun _ h => List.mem_cons_of_mem _ (List.mem_append_right _ h)) (by decide +kernel))
set_option maxRecDepth 20000 in
theorem gX6_takesPart_X6_takesDigit : GoodIn wsX6_takesPart (wsV RX6 77 RX6 yX6_takesDigit wsX6_takesDigit) := goodIn_app (goodIn_of _ (by decide +kernel)) ggX6_takesPart_X6_takesDigit
set_option maxRecDepth 20000 in
theorem ggX6_takesPart_X6_takesLetter : GoodIn wsX6_takesPart wsX6_takesLetter := goodIn_ca (goodIn_r _ [27, 7, 12, 6, 28, 29, 30, 31, 32, 33, 34, 35, 36, 37, 38, 39, 40, 41, 42, 43, 44, 45, 46, 47, 48, 49, 50, 51, 52, 53, 54, 55, 56, 57, 58, 59, 60, 61, 62, 63, 64, 65, 66, 67, 68, 69, 70, 71, 72, 73, 74, 75, 76, 77, 78, 79, 80, 81, 82, 83, 84, 85, 86, 87, 88, 89, 90, 91, 92, 93, 94, 95, 96, 97, 98, 99, 100, 101, 102, 103, 104, 105, 106, 107, 108, 109, 110, 111, 112, 113, 114, 115, 116, 13, 14, 15, 4, 16, 17, 18, 19, 121, 122, 123, 124, 125, 126, 127, 128, 129, 130, 131] rfl (by decide +kernel)) (goodIn_sub (fun _ h => List.mem_cons_of_mem _ (List.mem_append_right _ h)) (by decide +kernel))
set_option maxRecDepth 20000 in
theorem gX6_takesPart_X6_takesLetter : GoodIn wsX6_takesPart (wsV RX6 82 RX6 yX6_takesLetter wsX6_takesLetter) := goodIn_app (goodIn_of _ (by decide +kernel)) ggX6_takesPart_X6_takesLetter
set_option maxRecDepth 20000 in
theorem ggX6_takesPart_X6_takesSign : GoodIn wsX6_takesPart wsX6_takesSign := goodIn_ca (goodIn_r _ [120, 7, 12, 6, 121, 122, 123, 124, 125, 126, 127] rfl (by decide +kernel)) (goodIn_sub (fun _ h => List.mem_cons_of_mem _ (List.mem_append_right _ h)) (by decide +kernel))
set_option maxRecDepth 20000 in
theorem gX6_takesPart_X6_takesSign : GoodIn wsX6_takesPart (wsV RX6 88 RX6 yX6_takesSign wsX6_takesSign) := goodIn_app (goodIn_of _ (by decide +kernel)) ggX6_takesPart_X6_takesSign
theorem dX6_takesPart_0 : decode cX6_takesPart 0 = .ok (.iload_n 1, 1) := by decide +kernel
theorem dX6_takesPart_1 : decode cX6_takesPart 1 = .ok (.lookupswitch 67 #[(35, 43), (48, 48), (75, 53), (82, 60)], 43) := by decide +kernel
theorem dX6_takesPart_44 : decode cX6_takesPart 44 = .ok (.aload_n 0, 1) := by decide +kernel
theorem dX6_takesPart_45 : decode cX6_takesPart 45 = .ok (.invokevirtual 73, 3) := by decide +kernel
theorem dX6_takesPart_48 : decode cX6_takesPart 48 = .ok (.ireturn, 1) := by decide +kernel
theorem dX6_takesPart_49 : decode cX6_takesPart 49 = .ok (.aload_n 0, 1) := by decide +kernel
theorem dX6_takesPart_50 : decode cX6_takesPart 50 = .ok (.invokevirtual 77, 3) := by decide +kernel
theorem dX6_takesPart_53 : decode cX6_takesPart 53 = .ok (.ireturn, 1) := by decide +kernel
theorem dX6_takesPart_54 : decode cX6_takesPart 54 = .ok (.aload_n 0, 1) := by decide +kernel
theorem dX6_takesPart_55 : decode cX6_takesPart 55 = .ok (.ldc 80, 2) := by decide +kernel
theorem dX6_takesPart_57 : decode cX6_takesPart 57 = .ok (.invokevirtual 82, 3) := by decide +kernel
theorem dX6_takesPart_60 : decode cX6_takesPart 60 = .ok (.ireturn, 1) := by decide +kernel
theorem dX6_takesPart_61 : decode cX6_takesPart 61 = .ok (.aload_n 0, 1) := by decide +kernel
theorem dX6_takesPart_62 : decode cX6_takesPart 62 = .ok (.ldc 86, 2) := by decide +kernel
theorem dX6_takesPart_64 : decode cX6_takesPart 64 = .ok (.invokevirtual 82, 3) := by decide +kernel
theorem dX6_takesPart_67 : decode cX6_takesPart 67 = .ok (.ireturn, 1) := by decide +kernel
theorem dX6_takesPart_68 : decode cX6_takesPart 68 = .ok (.aload_n 0, 1) := by decide +kernel
theorem dX6_takesPart_69 : decode cX6_takesPart 69 = .ok (.iload_n 1, 1) := by decide +kernel
theorem dX6_takesPart_70 : decode cX6_takesPart 70 = .ok (.invokevirtual 88, 3) := by decide +kernel
theorem dX6_takesPart_73 : decode cX6_takesPart 73 = .ok (.ireturn, 1) := by decide +kernel
theorem dX6_takesSign_0 : decode cX6_takesSign 0 = .ok (.aload_n 0, 1) := by decide +kernel
theorem dX6_takesSign_1 : decode cX6_takesSign 1 = .ok (.getfield 36, 3) := by decide +kernel
theorem dX6_takesSign_4 : decode cX6_takesSign 4 = .ok (.aload_n 0, 1) := by decide +kernel
theorem dX6_takesSign_5 : decode cX6_takesSign 5 = .ok (.getfield 15, 3) := by decide +kernel
theorem dX6_takesSign_8 : decode cX6_takesSign 8 = .ok (.if_icmp .ge 16, 3) := by decide +kernel
theorem dX6_takesSign_11 : decode cX6_takesSign 11 = .ok (.aload_n 0, 1) := by decide +kernel
theorem dX6_takesSign_12 : decode cX6_takesSign 12 = .ok (.getfield 9, 3) := by decide +kernel
theorem dX6_takesSign_15 : decode cX6_takesSign 15 = .ok (.aload_n 0, 1) := by decide +kernel
theorem dX6_takesSign_16 : decode cX6_takesSign 16 = .ok (.getfield 36, 3) := by decide +kernel
theorem dX6_takesSign_19 : decode cX6_takesSign 19 = .ok (.caload, 1) := by decide +kernel
theorem dX6_takesSign_20 : decode cX6_takesSign 20 = .ok (.iload_n 1, 1) := by decide +kernel
theorem dX6_takesSign_21 : decode cX6_takesSign 21 = .ok (.if_icmp .eq 5, 3) := by decide +kernel
theorem dX6_takesSign_24 : decode cX6_takesSign 24 = .ok (.iconst 0, 1) := by decide +kernel
theorem dX6_takesSign_25 : decode cX6_takesSign 25 = .ok (.ireturn, 1) := by decide +kernel
theorem dX6_takesSign_26 : decode cX6_takesSign 26 = .ok (.aload_n 0, 1) := by decide +kernel
theorem dX6_takesSign_27 : decode cX6_takesSign 27 = .ok (.dup, 1) := by decide +kernel
theorem dX6_takesSign_28 : decode cX6_takesSign 28 = .ok (.getfield 36, 3) := by decide +kernel
theorem dX6_takesSign_31 : decode cX6_takesSign 31 = .ok (.iconst 1, 1) := by decide +kernel
theorem dX6_takesSign_32 : decode cX6_takesSign 32 = .ok (.iadd, 1) := by decide +kernel
theorem dX6_takesSign_33 : decode cX6_takesSign 33 = .ok (.putfield 36, 3) := by decide +kernel
theorem dX6_takesSign_36 : decode cX6_takesSign 36 = .ok (.iconst 1, 1) := by decide +kernel
theorem dX6_takesSign_37 : decode cX6_takesSign 37 = .ok (.ireturn, 1) := by decide +kernel
set_option maxRecDepth 20000 in
theorem ggX6_takesLetter_J0_indexOf_0f7a4 : GoodIn wsX6_takesLetter wsJ0_indexOf_0f7a4 := goodIn_r _ [8, 9, 10, 11, 7, 12, 13, 14, 15, 16, 17, 18, 19, 20, 21, 22, 23, 24, 25, 26, 27, 28, 29, 30, 31, 32, 33, 34, 35, 36, 37, 38, 39, 40, 41, 42, 43, 44, 45, 46, 47, 48, 49, 50, 51, 52, 53, 54, 55, 56, 57, 58, 59, 60, 61, 62, 63, 64, 65, 66, 67, 68, 69, 70, 71, 72, 73, 74, 75, 76, 77, 78, 79, 80, 81, 82, 83, 84, 85, 86, 87, 88, 89, 90, 91, 92, 108, 109, 110, 111] rfl (by decide +kernel)
set_option maxRecDepth 20000 in
theorem gX6_takesLetter_J0_indexOf_0f7a4 : GoodIn wsX6_takesLetter (wsV RX6 91 RJ0 yJ0_indexOf_0f7a4 wsJ0_indexOf_0f7a4) := goodIn_app (goodIn_of _ (by decide +kernel)) ggX6_takesLetter_J0_indexOf_0f7a4
set_option maxRecDepth 20000 in
theorem ggX6_takesLetter_X6_keep : GoodIn wsX6_takesLetter wsX6_keep := goodIn_ca (goodIn_r _ [97, 98, 99, 100, 101, 102, 103, 104, 105, 106, 107] rfl (by decide +kernel)) (goodIn_sub (fun _ h => List.mem_cons_of_mem _ (List.mem_append_right _ h)) (by decide +kernel))
set_option maxRecDepth 20000 in
theorem gX6_takesLetter_X6_keep : GoodIn wsX6_takesLetter (wsV RX6 95 RX6 yX6_keep wsX6_keep) := goodIn_app (goodIn_of _ (by decide +kernel)) ggX6_takesLetter_X6_keep
theorem dX6_takesLetter_0 : decode cX6_takesLetter 0 = .ok (.aload_n 0, 1) := by decide +kernel
theorem dX6_takesLetter_1 : decode cX6_takesLetter 1 = .ok (.getfield 36, 3) := by decide +kernel
theorem dX6_takesLetter_4 : decode cX6_takesLetter 4 = .ok (.aload_n 0, 1) := by decide +kernel
theorem dX6_takesLetter_5 : decode cX6_takesLetter 5 = .ok (.getfield 15, 3) := by decide +kernel
theorem dX6_takesLetter_8 : decode cX6_takesLetter 8 = .ok (.if_icmp .ge 19, 3) := by decide +kernel
theorem dX6_takesLetter_11 : decode cX6_takesLetter 11 = .ok (.aload_n 1, 1) := by decide +kernel
theorem dX6_takesLetter_12 : decode cX6_takesLetter 12 = .ok (.aload_n 0, 1) := by decide +kernel
theorem dX6_takesLetter_13 : decode cX6_takesLetter 13 = .ok (.getfield 9, 3) := by decide +kernel
theorem dX6_takesLetter_16 : decode cX6_takesLetter 16 = .ok (.aload_n 0, 1) := by decide +kernel
theorem dX6_takesLetter_17 : decode cX6_takesLetter 17 = .ok (.getfield 36, 3) := by decide +kernel
theorem dX6_takesLetter_20 : decode cX6_takesLetter 20 = .ok (.caload, 1) := by decide +kernel
theorem dX6_takesLetter_21 : decode cX6_takesLetter 21 = .ok (.invokevirtual 91, 3) := by decide +kernel
theorem dX6_takesLetter_24 : decode cX6_takesLetter 24 = .ok (.ifCond .ge 5, 3) := by decide +kernel
theorem dX6_takesLetter_27 : decode cX6_takesLetter 27 = .ok (.iconst 0, 1) := by decide +kernel
theorem dX6_takesLetter_28 : decode cX6_takesLetter 28 = .ok (.ireturn, 1) := by decide +kernel
theorem dX6_takesLetter_29 : decode cX6_takesLetter 29 = .ok (.aload_n 0, 1) := by decide +kernel
theorem dX6_takesLetter_30 : decode cX6_takesLetter 30 = .ok (.aload_n 0, 1) := by decide +kernel
theorem dX6_takesLetter_31 : decode cX6_takesLetter 31 = .ok (.getfield 9, 3) := by decide +kernel
theorem dX6_takesLetter_34 : decode cX6_takesLetter 34 = .ok (.aload_n 0, 1) := by decide +kernel
theorem dX6_takesLetter_35 : decode cX6_takesLetter 35 = .ok (.getfield 36, 3) := by decide +kernel
theorem dX6_takesLetter_38 : decode cX6_takesLetter 38 = .ok (.caload, 1) := by decide +kernel
theorem dX6_takesLetter_39 : decode cX6_takesLetter 39 = .ok (.invokevirtual 95, 3) := by decide +kernel
theorem dX6_takesLetter_42 : decode cX6_takesLetter 42 = .ok (.aload_n 0, 1) := by decide +kernel
theorem dX6_takesLetter_43 : decode cX6_takesLetter 43 = .ok (.dup, 1) := by decide +kernel
theorem dX6_takesLetter_44 : decode cX6_takesLetter 44 = .ok (.getfield 36, 3) := by decide +kernel
theorem dX6_takesLetter_47 : decode cX6_takesLetter 47 = .ok (.iconst 1, 1) := by decide +kernel
theorem dX6_takesLetter_48 : decode cX6_takesLetter 48 = .ok (.iadd, 1) := by decide +kernel
theorem dX6_takesLetter_49 : decode cX6_takesLetter 49 = .ok (.putfield 36, 3) := by decide +kernel
theorem dX6_takesLetter_52 : decode cX6_takesLetter 52 = .ok (.iconst 1, 1) := by decide +kernel
theorem dX6_takesLetter_53 : decode cX6_takesLetter 53 = .ok (.ireturn, 1) := by decide +kernel
set_option maxRecDepth 20000 in
theorem ggX6_takesDigit_X6_isDigit : GoodIn wsX6_takesDigit wsX6_isDigit := goodIn_ca (goodIn_r _ [7, 2, 8, 1, 16, 17, 18, 19, 20, 21, 22] rfl (by decide +kernel)) (goodIn_sub (fun _ h => List.mem_cons_of_mem _ (List.mem_append_right _ h)) (by decide +kernel))
set_option maxRecDepth 20000 in
theorem gX6_takesDigit_X6_isDigit : GoodIn wsX6_takesDigit (wsV RX6 99 RX6 yX6_isDigit wsX6_isDigit) := goodIn_app (goodIn_of _ (by decide +kernel)) ggX6_takesDigit_X6_isDigit
set_option maxRecDepth 20000 in
theorem ggX6_takesDigit_X6_keep : GoodIn wsX6_takesDigit wsX6_keep := goodIn_ca (goodIn_r _ [12, 13, 14, 15, 16, 17, 18, 19, 20, 21, 22] rfl (by decide +kernel)) (goodIn_sub (fun _ h => List.mem_cons_of_mem _ (List.mem_append_right _ h)) (by decide +kernel))
set_option maxRecDepth 20000 in
theorem gX6_takesDigit_X6_keep : GoodIn wsX6_takesDigit (wsV RX6 95 RX6 yX6_keep wsX6_keep) := goodIn_app (goodIn_of _ (by decide +kernel)) ggX6_takesDigit_X6_keep
theorem dX6_takesDigit_0 : decode cX6_takesDigit 0 = .ok (.aload_n 0, 1) := by decide +kernel
theorem dX6_takesDigit_1 : decode cX6_takesDigit 1 = .ok (.invokevirtual 99, 3) := by decide +kernel
theorem dX6_takesDigit_4 : decode cX6_takesDigit 4 = .ok (.ifCond .ne 5, 3) := by decide +kernel
theorem dX6_takesDigit_7 : decode cX6_takesDigit 7 = .ok (.iconst 0, 1) := by decide +kernel
theorem dX6_takesDigit_8 : decode cX6_takesDigit 8 = .ok (.ireturn, 1) := by decide +kernel
theorem dX6_takesDigit_9 : decode cX6_takesDigit 9 = .ok (.aload_n 0, 1) := by decide +kernel
theorem dX6_takesDigit_10 : decode cX6_takesDigit 10 = .ok (.aload_n 0, 1) := by decide +kernel
theorem dX6_takesDigit_11 : decode cX6_takesDigit 11 = .ok (.getfield 9, 3) := by decide +kernel
theorem dX6_takesDigit_14 : decode cX6_takesDigit 14 = .ok (.aload_n 0, 1) := by decide +kernel
theorem dX6_takesDigit_15 : decode cX6_takesDigit 15 = .ok (.getfield 36, 3) := by decide +kernel
theorem dX6_takesDigit_18 : decode cX6_takesDigit 18 = .ok (.caload, 1) := by decide +kernel
theorem dX6_takesDigit_19 : decode cX6_takesDigit 19 = .ok (.bipush 48, 2) := by decide +kernel
theorem dX6_takesDigit_21 : decode cX6_takesDigit 21 = .ok (.isub, 1) := by decide +kernel
theorem dX6_takesDigit_22 : decode cX6_takesDigit 22 = .ok (.invokevirtual 95, 3) := by decide +kernel
theorem dX6_takesDigit_25 : decode cX6_takesDigit 25 = .ok (.aload_n 0, 1) := by decide +kernel
theorem dX6_takesDigit_26 : decode cX6_takesDigit 26 = .ok (.dup, 1) := by decide +kernel
theorem dX6_takesDigit_27 : decode cX6_takesDigit 27 = .ok (.getfield 36, 3) := by decide +kernel
theorem dX6_takesDigit_30 : decode cX6_takesDigit 30 = .ok (.iconst 1, 1) := by decide +kernel
theorem dX6_takesDigit_31 : decode cX6_takesDigit 31 = .ok (.iadd, 1) := by decide +kernel
theorem dX6_takesDigit_32 : decode cX6_takesDigit 32 = .ok (.putfield 36, 3) := by decide +kernel
theorem dX6_takesDigit_35 : decode cX6_takesDigit 35 = .ok (.iconst 1, 1) := by decide +kernel
theorem dX6_takesDigit_36 : decode cX6_takesDigit 36 = .ok (.ireturn, 1) := by decide +kernel
set_option maxRecDepth 20000 in
theorem ggX6_takesNumber_X6_isDigit : GoodIn wsX6_takesNumber wsX6_isDigit := goodIn_ca (goodIn_r _ [7, 2, 8, 1, 16, 17, 18, 19, 20, 21, 22] rfl (by decide +kernel)) (goodIn_sub (fun _ h => List.mem_cons_of_mem _ (List.mem_append_right _ h)) (by decide +kernel))
set_option maxRecDepth 20000 in
theorem gX6_takesNumber_X6_isDigit : GoodIn wsX6_takesNumber (wsV RX6 99 RX6 yX6_isDigit wsX6_isDigit) := goodIn_app (goodIn_of _ (by decide +kernel)) ggX6_takesNumber_X6_isDigit
set_option maxRecDepth 20000 in
theorem ggX6_takesNumber_X6_keep : GoodIn wsX6_takesNumber wsX6_keep := goodIn_ca (goodIn_r _ [12, 13, 14, 15, 16, 17, 18, 19, 20, 21, 22] rfl (by decide +kernel)) (goodIn_sub (fun _ h => List.mem_cons_of_mem _ (List.mem_append_right _ h)) (by decide +kernel))
set_option maxRecDepth 20000 in
theorem gX6_takesNumber_X6_keep : GoodIn wsX6_takesNumber (wsV RX6 95 RX6 yX6_keep wsX6_keep) := goodIn_app (goodIn_of _ (by decide +kernel)) ggX6_takesNumber_X6_keep
theorem dX6_takesNumber_0 : decode cX6_takesNumber 0 = .ok (.aload_n 0, 1) := by decide +kernel
theorem dX6_takesNumber_1 : decode cX6_takesNumber 1 = .ok (.invokevirtual 99, 3) := by decide +kernel
theorem dX6_takesNumber_4 : decode cX6_takesNumber 4 = .ok (.ifCond .ne 5, 3) := by decide +kernel
theorem dX6_takesNumber_7 : decode cX6_takesNumber 7 = .ok (.iconst 0, 1) := by decide +kernel
theorem dX6_takesNumber_8 : decode cX6_takesNumber 8 = .ok (.ireturn, 1) := by decide +kernel
theorem dX6_takesNumber_9 : decode cX6_takesNumber 9 = .ok (.iconst 0, 1) := by decide +kernel
theorem dX6_takesNumber_10 : decode cX6_takesNumber 10 = .ok (.istore_n 1, 1) := by decide +kernel
theorem dX6_takesNumber_11 : decode cX6_takesNumber 11 = .ok (.iconst 0, 1) := by decide +kernel
theorem dX6_takesNumber_12 : decode cX6_takesNumber 12 = .ok (.istore_n 2, 1) := by decide +kernel
theorem dX6_takesNumber_13 : decode cX6_takesNumber 13 = .ok (.iload_n 2, 1) := by decide +kernel
theorem dX6_takesNumber_14 : decode cX6_takesNumber 14 = .ok (.iconst 4, 1) := by decide +kernel
theorem dX6_takesNumber_15 : decode cX6_takesNumber 15 = .ok (.if_icmp .ge 44, 3) := by decide +kernel
theorem dX6_takesNumber_18 : decode cX6_takesNumber 18 = .ok (.aload_n 0, 1) := by decide +kernel
theorem dX6_takesNumber_19 : decode cX6_takesNumber 19 = .ok (.invokevirtual 99, 3) := by decide +kernel
theorem dX6_takesNumber_22 : decode cX6_takesNumber 22 = .ok (.ifCond .eq 37, 3) := by decide +kernel
theorem dX6_takesNumber_25 : decode cX6_takesNumber 25 = .ok (.iload_n 1, 1) := by decide +kernel
theorem dX6_takesNumber_26 : decode cX6_takesNumber 26 = .ok (.bipush 10, 2) := by decide +kernel
theorem dX6_takesNumber_28 : decode cX6_takesNumber 28 = .ok (.imul, 1) := by decide +kernel
theorem dX6_takesNumber_29 : decode cX6_takesNumber 29 = .ok (.aload_n 0, 1) := by decide +kernel
theorem dX6_takesNumber_30 : decode cX6_takesNumber 30 = .ok (.getfield 9, 3) := by decide +kernel
theorem dX6_takesNumber_33 : decode cX6_takesNumber 33 = .ok (.aload_n 0, 1) := by decide +kernel
theorem dX6_takesNumber_34 : decode cX6_takesNumber 34 = .ok (.getfield 36, 3) := by decide +kernel
theorem dX6_takesNumber_37 : decode cX6_takesNumber 37 = .ok (.caload, 1) := by decide +kernel
theorem dX6_takesNumber_38 : decode cX6_takesNumber 38 = .ok (.bipush 48, 2) := by decide +kernel
theorem dX6_takesNumber_40 : decode cX6_takesNumber 40 = .ok (.isub, 1) := by decide +kernel
theorem dX6_takesNumber_41 : decode cX6_takesNumber 41 = .ok (.iadd, 1) := by decide +kernel
theorem dX6_takesNumber_42 : decode cX6_takesNumber 42 = .ok (.istore_n 1, 1) := by decide +kernel
theorem dX6_takesNumber_43 : decode cX6_takesNumber 43 = .ok (.aload_n 0, 1) := by decide +kernel
theorem dX6_takesNumber_44 : decode cX6_takesNumber 44 = .ok (.dup, 1) := by decide +kernel
theorem dX6_takesNumber_45 : decode cX6_takesNumber 45 = .ok (.getfield 36, 3) := by decide +kernel
theorem dX6_takesNumber_48 : decode cX6_takesNumber 48 = .ok (.iconst 1, 1) := by decide +kernel
theorem dX6_takesNumber_49 : decode cX6_takesNumber 49 = .ok (.iadd, 1) := by decide +kernel
theorem dX6_takesNumber_50 : decode cX6_takesNumber 50 = .ok (.putfield 36, 3) := by decide +kernel
theorem dX6_takesNumber_53 : decode cX6_takesNumber 53 = .ok (.iinc 2 1, 3) := by decide +kernel
theorem dX6_takesNumber_56 : decode cX6_takesNumber 56 = .ok (.goto (-43), 3) := by decide +kernel
theorem dX6_takesNumber_59 : decode cX6_takesNumber 59 = .ok (.aload_n 0, 1) := by decide +kernel
theorem dX6_takesNumber_60 : decode cX6_takesNumber 60 = .ok (.iload_n 1, 1) := by decide +kernel
theorem dX6_takesNumber_61 : decode cX6_takesNumber 61 = .ok (.invokevirtual 95, 3) := by decide +kernel
theorem dX6_takesNumber_64 : decode cX6_takesNumber 64 = .ok (.iconst 1, 1) := by decide +kernel
theorem dX6_takesNumber_65 : decode cX6_takesNumber 65 = .ok (.ireturn, 1) := by decide +kernel
theorem dX6_isDigit_0 : decode cX6_isDigit 0 = .ok (.aload_n 0, 1) := by decide +kernel
theorem dX6_isDigit_1 : decode cX6_isDigit 1 = .ok (.getfield 36, 3) := by decide +kernel
theorem dX6_isDigit_4 : decode cX6_isDigit 4 = .ok (.aload_n 0, 1) := by decide +kernel
theorem dX6_isDigit_5 : decode cX6_isDigit 5 = .ok (.getfield 15, 3) := by decide +kernel
theorem dX6_isDigit_8 : decode cX6_isDigit 8 = .ok (.if_icmp .ge 35, 3) := by decide +kernel
theorem dX6_isDigit_11 : decode cX6_isDigit 11 = .ok (.aload_n 0, 1) := by decide +kernel
theorem dX6_isDigit_12 : decode cX6_isDigit 12 = .ok (.getfield 9, 3) := by decide +kernel
theorem dX6_isDigit_15 : decode cX6_isDigit 15 = .ok (.aload_n 0, 1) := by decide +kernel
theorem dX6_isDigit_16 : decode cX6_isDigit 16 = .ok (.getfield 36, 3) := by decide +kernel
theorem dX6_isDigit_19 : decode cX6_isDigit 19 = .ok (.caload, 1) := by decide +kernel
theorem dX6_isDigit_20 : decode cX6_isDigit 20 = .ok (.bipush 48, 2) := by decide +kernel
theorem dX6_isDigit_22 : decode cX6_isDigit 22 = .ok (.if_icmp .lt 21, 3) := by decide +kernel
theorem dX6_isDigit_25 : decode cX6_isDigit 25 = .ok (.aload_n 0, 1) := by decide +kernel
theorem dX6_isDigit_26 : decode cX6_isDigit 26 = .ok (.getfield 9, 3) := by decide +kernel
theorem dX6_isDigit_29 : decode cX6_isDigit 29 = .ok (.aload_n 0, 1) := by decide +kernel
theorem dX6_isDigit_30 : decode cX6_isDigit 30 = .ok (.getfield 36, 3) := by decide +kernel
theorem dX6_isDigit_33 : decode cX6_isDigit 33 = .ok (.caload, 1) := by decide +kernel
theorem dX6_isDigit_34 : decode cX6_isDigit 34 = .ok (.bipush 57, 2) := by decide +kernel
theorem dX6_isDigit_36 : decode cX6_isDigit 36 = .ok (.if_icmp .gt 7, 3) := by decide +kernel
theorem dX6_isDigit_39 : decode cX6_isDigit 39 = .ok (.iconst 1, 1) := by decide +kernel
theorem dX6_isDigit_40 : decode cX6_isDigit 40 = .ok (.goto 4, 3) := by decide +kernel
theorem dX6_isDigit_43 : decode cX6_isDigit 43 = .ok (.iconst 0, 1) := by decide +kernel
theorem dX6_isDigit_44 : decode cX6_isDigit 44 = .ok (.ireturn, 1) := by decide +kernel
theorem dX6_keep_0 : decode cX6_keep 0 = .ok (.aload_n 0, 1) := by decide +kernel
theorem dX6_keep_1 : decode cX6_keep 1 = .ok (.getfield 30, 3) := by decide +kernel
theorem dX6_keep_4 : decode cX6_keep 4 = .ok (.bipush 10, 2) := by decide +kernel
theorem dX6_keep_6 : decode cX6_keep 6 = .ok (.if_icmp .ge 36, 3) := by decide +kernel
theorem dX6_keep_9 : decode cX6_keep 9 = .ok (.aload_n 0, 1) := by decide +kernel
theorem dX6_keep_10 : decode cX6_keep 10 = .ok (.getfield 33, 3) := by decide +kernel
theorem dX6_keep_13 : decode cX6_keep 13 = .ok (.iconst 3, 1) := by decide +kernel
theorem dX6_keep_14 : decode cX6_keep 14 = .ok (.if_icmp .ge 28, 3) := by decide +kernel
theorem dX6_keep_17 : decode cX6_keep 17 = .ok (.aload_n 0, 1) := by decide +kernel
theorem dX6_keep_18 : decode cX6_keep 18 = .ok (.getfield 27, 3) := by decide +kernel
theorem dX6_keep_21 : decode cX6_keep 21 = .ok (.aload_n 0, 1) := by decide +kernel
theorem dX6_keep_22 : decode cX6_keep 22 = .ok (.getfield 30, 3) := by decide +kernel
theorem dX6_keep_25 : decode cX6_keep 25 = .ok (.aaload, 1) := by decide +kernel
theorem dX6_keep_26 : decode cX6_keep 26 = .ok (.aload_n 0, 1) := by decide +kernel
theorem dX6_keep_27 : decode cX6_keep 27 = .ok (.getfield 33, 3) := by decide +kernel
theorem dX6_keep_30 : decode cX6_keep 30 = .ok (.iload_n 1, 1) := by decide +kernel
theorem dX6_keep_31 : decode cX6_keep 31 = .ok (.iastore, 1) := by decide +kernel
theorem dX6_keep_32 : decode cX6_keep 32 = .ok (.aload_n 0, 1) := by decide +kernel
theorem dX6_keep_33 : decode cX6_keep 33 = .ok (.dup, 1) := by decide +kernel
theorem dX6_keep_34 : decode cX6_keep 34 = .ok (.getfield 33, 3) := by decide +kernel
theorem dX6_keep_37 : decode cX6_keep 37 = .ok (.iconst 1, 1) := by decide +kernel
theorem dX6_keep_38 : decode cX6_keep 38 = .ok (.iadd, 1) := by decide +kernel
theorem dX6_keep_39 : decode cX6_keep 39 = .ok (.putfield 33, 3) := by decide +kernel
theorem dX6_keep_42 : decode cX6_keep 42 = .ok (.return_, 1) := by decide +kernel
theorem dX8_init_0 : decode cX8_init 0 = .ok (.aload_n 0, 1) := by decide +kernel
theorem dX8_init_1 : decode cX8_init 1 = .ok (.invokespecial 3, 3) := by decide +kernel
theorem dX8_init_4 : decode cX8_init 4 = .ok (.aload_n 0, 1) := by decide +kernel
theorem dX8_init_5 : decode cX8_init 5 = .ok (.bipush 16, 2) := by decide +kernel
theorem dX8_init_7 : decode cX8_init 7 = .ok (.newarray .int, 2) := by decide +kernel
theorem dX8_init_9 : decode cX8_init 9 = .ok (.putfield 9, 3) := by decide +kernel
theorem dX8_init_12 : decode cX8_init 12 = .ok (.aload_n 0, 1) := by decide +kernel
theorem dX8_init_13 : decode cX8_init 13 = .ok (.bipush 16, 2) := by decide +kernel
theorem dX8_init_15 : decode cX8_init 15 = .ok (.newarray .char, 2) := by decide +kernel
theorem dX8_init_17 : decode cX8_init 17 = .ok (.putfield 15, 3) := by decide +kernel
theorem dX8_init_20 : decode cX8_init 20 = .ok (.aload_n 0, 1) := by decide +kernel
theorem dX8_init_21 : decode cX8_init 21 = .ok (.iconst 0, 1) := by decide +kernel
theorem dX8_init_22 : decode cX8_init 22 = .ok (.putfield 19, 3) := by decide +kernel
theorem dX8_init_25 : decode cX8_init 25 = .ok (.aload_n 0, 1) := by decide +kernel
theorem dX8_init_26 : decode cX8_init 26 = .ok (.iconst 0, 1) := by decide +kernel
theorem dX8_init_27 : decode cX8_init 27 = .ok (.putfield 23, 3) := by decide +kernel
theorem dX8_init_30 : decode cX8_init 30 = .ok (.return_, 1) := by decide +kernel
theorem dX8_copyFrom_0 : decode cX8_copyFrom 0 = .ok (.iconst 0, 1) := by decide +kernel
theorem dX8_copyFrom_1 : decode cX8_copyFrom 1 = .ok (.istore_n 2, 1) := by decide +kernel
theorem dX8_copyFrom_2 : decode cX8_copyFrom 2 = .ok (.iload_n 2, 1) := by decide +kernel
theorem dX8_copyFrom_3 : decode cX8_copyFrom 3 = .ok (.bipush 16, 2) := by decide +kernel
theorem dX8_copyFrom_5 : decode cX8_copyFrom 5 = .ok (.if_icmp .ge 33, 3) := by decide +kernel
theorem dX8_copyFrom_8 : decode cX8_copyFrom 8 = .ok (.aload_n 0, 1) := by decide +kernel
theorem dX8_copyFrom_9 : decode cX8_copyFrom 9 = .ok (.getfield 9, 3) := by decide +kernel
theorem dX8_copyFrom_12 : decode cX8_copyFrom 12 = .ok (.iload_n 2, 1) := by decide +kernel
theorem dX8_copyFrom_13 : decode cX8_copyFrom 13 = .ok (.aload_n 1, 1) := by decide +kernel
theorem dX8_copyFrom_14 : decode cX8_copyFrom 14 = .ok (.getfield 9, 3) := by decide +kernel
theorem dX8_copyFrom_17 : decode cX8_copyFrom 17 = .ok (.iload_n 2, 1) := by decide +kernel
theorem dX8_copyFrom_18 : decode cX8_copyFrom 18 = .ok (.iaload, 1) := by decide +kernel
theorem dX8_copyFrom_19 : decode cX8_copyFrom 19 = .ok (.iastore, 1) := by decide +kernel
theorem dX8_copyFrom_20 : decode cX8_copyFrom 20 = .ok (.aload_n 0, 1) := by decide +kernel
theorem dX8_copyFrom_21 : decode cX8_copyFrom 21 = .ok (.getfield 15, 3) := by decide +kernel
theorem dX8_copyFrom_24 : decode cX8_copyFrom 24 = .ok (.iload_n 2, 1) := by decide +kernel
theorem dX8_copyFrom_25 : decode cX8_copyFrom 25 = .ok (.aload_n 1, 1) := by decide +kernel
theorem dX8_copyFrom_26 : decode cX8_copyFrom 26 = .ok (.getfield 15, 3) := by decide +kernel
theorem dX8_copyFrom_29 : decode cX8_copyFrom 29 = .ok (.iload_n 2, 1) := by decide +kernel
theorem dX8_copyFrom_30 : decode cX8_copyFrom 30 = .ok (.caload, 1) := by decide +kernel
theorem dX8_copyFrom_31 : decode cX8_copyFrom 31 = .ok (.castore, 1) := by decide +kernel
theorem dX8_copyFrom_32 : decode cX8_copyFrom 32 = .ok (.iinc 2 1, 3) := by decide +kernel
theorem dX8_copyFrom_35 : decode cX8_copyFrom 35 = .ok (.goto (-33), 3) := by decide +kernel
theorem dX8_copyFrom_38 : decode cX8_copyFrom 38 = .ok (.aload_n 0, 1) := by decide +kernel
theorem dX8_copyFrom_39 : decode cX8_copyFrom 39 = .ok (.aload_n 1, 1) := by decide +kernel
theorem dX8_copyFrom_40 : decode cX8_copyFrom 40 = .ok (.getfield 19, 3) := by decide +kernel
theorem dX8_copyFrom_43 : decode cX8_copyFrom 43 = .ok (.putfield 19, 3) := by decide +kernel
theorem dX8_copyFrom_46 : decode cX8_copyFrom 46 = .ok (.aload_n 0, 1) := by decide +kernel
theorem dX8_copyFrom_47 : decode cX8_copyFrom 47 = .ok (.aload_n 1, 1) := by decide +kernel
theorem dX8_copyFrom_48 : decode cX8_copyFrom 48 = .ok (.getfield 23, 3) := by decide +kernel
theorem dX8_copyFrom_51 : decode cX8_copyFrom 51 = .ok (.putfield 23, 3) := by decide +kernel
theorem dX8_copyFrom_54 : decode cX8_copyFrom 54 = .ok (.return_, 1) := by decide +kernel
theorem dX8_note_0 : decode cX8_note 0 = .ok (.aload_n 0, 1) := by decide +kernel
theorem dX8_note_1 : decode cX8_note 1 = .ok (.getfield 9, 3) := by decide +kernel
theorem dX8_note_4 : decode cX8_note 4 = .ok (.aload_n 0, 1) := by decide +kernel
theorem dX8_note_5 : decode cX8_note 5 = .ok (.getfield 23, 3) := by decide +kernel
theorem dX8_note_8 : decode cX8_note 8 = .ok (.iload_n 1, 1) := by decide +kernel
theorem dX8_note_9 : decode cX8_note 9 = .ok (.iastore, 1) := by decide +kernel
theorem dX8_note_10 : decode cX8_note 10 = .ok (.aload_n 0, 1) := by decide +kernel
theorem dX8_note_11 : decode cX8_note 11 = .ok (.getfield 15, 3) := by decide +kernel
theorem dX8_note_14 : decode cX8_note 14 = .ok (.aload_n 0, 1) := by decide +kernel
theorem dX8_note_15 : decode cX8_note 15 = .ok (.getfield 23, 3) := by decide +kernel
theorem dX8_note_18 : decode cX8_note 18 = .ok (.iload_n 2, 1) := by decide +kernel
theorem dX8_note_19 : decode cX8_note 19 = .ok (.castore, 1) := by decide +kernel
theorem dX8_note_20 : decode cX8_note 20 = .ok (.aload_n 0, 1) := by decide +kernel
theorem dX8_note_21 : decode cX8_note 21 = .ok (.aload_n 0, 1) := by decide +kernel
theorem dX8_note_22 : decode cX8_note 22 = .ok (.getfield 23, 3) := by decide +kernel
theorem dX8_note_25 : decode cX8_note 25 = .ok (.iconst 1, 1) := by decide +kernel
theorem dX8_note_26 : decode cX8_note 26 = .ok (.iadd, 1) := by decide +kernel
theorem dX8_note_27 : decode cX8_note 27 = .ok (.bipush 16, 2) := by decide +kernel
theorem dX8_note_29 : decode cX8_note 29 = .ok (.irem, 1) := by decide +kernel
theorem dX8_note_30 : decode cX8_note 30 = .ok (.putfield 23, 3) := by decide +kernel
theorem dX8_note_33 : decode cX8_note 33 = .ok (.aload_n 0, 1) := by decide +kernel
theorem dX8_note_34 : decode cX8_note 34 = .ok (.aload_n 0, 1) := by decide +kernel
theorem dX8_note_35 : decode cX8_note 35 = .ok (.getfield 19, 3) := by decide +kernel
theorem dX8_note_38 : decode cX8_note 38 = .ok (.iconst 1, 1) := by decide +kernel
theorem dX8_note_39 : decode cX8_note 39 = .ok (.iadd, 1) := by decide +kernel
theorem dX8_note_40 : decode cX8_note 40 = .ok (.bipush 16, 2) := by decide +kernel
theorem dX8_note_42 : decode cX8_note 42 = .ok (.invokestatic 26, 3) := by decide +kernel
theorem dX8_note_45 : decode cX8_note 45 = .ok (.putfield 19, 3) := by decide +kernel
theorem dX8_note_48 : decode cX8_note 48 = .ok (.return_, 1) := by decide +kernel
set_option maxRecDepth 20000 in
theorem ggX8_place_J9_floorMod_7cf53 : GoodIn wsX8_place wsJ9_floorMod_7cf53 := goodIn_r _ [5] rfl (by decide +kernel)
set_option maxRecDepth 20000 in
theorem gX8_place_J9_floorMod_7cf53 : GoodIn wsX8_place (va_wsS RX8 32 yJ9_floorMod_7cf53 wsJ9_floorMod_7cf53) := goodIn_app (goodIn_of _ (by decide +kernel)) ggX8_place_J9_floorMod_7cf53
theorem dX8_place_0 : decode cX8_place 0 = .ok (.aload_n 0, 1) := by decide +kernel
theorem dX8_place_1 : decode cX8_place 1 = .ok (.getfield 23, 3) := by decide +kernel
theorem dX8_place_4 : decode cX8_place 4 = .ok (.iconst 1, 1) := by decide +kernel
theorem dX8_place_5 : decode cX8_place 5 = .ok (.isub, 1) := by decide +kernel
theorem dX8_place_6 : decode cX8_place 6 = .ok (.iload_n 1, 1) := by decide +kernel
theorem dX8_place_7 : decode cX8_place 7 = .ok (.isub, 1) := by decide +kernel
theorem dX8_place_8 : decode cX8_place 8 = .ok (.bipush 16, 2) := by decide +kernel
theorem dX8_place_10 : decode cX8_place 10 = .ok (.invokestatic 32, 3) := by decide +kernel
theorem dX8_place_13 : decode cX8_place 13 = .ok (.ireturn, 1) := by decide +kernel
set_option maxRecDepth 20000 in
theorem ggX9_holds_X5_targetsOf : GoodIn wsX9_holds wsX5_targetsOf := goodIn_ca (goodIn_r _ [5, 6, 7, 8, 9, 10, 16, 17, 18, 19, 20, 21] rfl (by decide +kernel)) (goodIn_sub (fun _ h => List.mem_cons_of_mem _ (List.mem_append_right _ h)) (by decide +kernel))
set_option maxRecDepth 20000 in
theorem gX9_holds_X5_targetsOf : GoodIn wsX9_holds (wsV RX9 7 RX5 yX5_targetsOf wsX5_targetsOf) := goodIn_app (goodIn_of _ (by decide +kernel)) ggX9_holds_X5_targetsOf
set_option maxRecDepth 20000 in
theorem ggX9_holds_X5_attackersOf : GoodIn wsX9_holds wsX5_attackersOf := goodIn_ca (goodIn_r _ [14, 6, 15, 8, 9, 10, 16, 17, 18, 19, 20, 21] rfl (by decide +kernel)) (goodIn_sub (fun _ h => List.mem_cons_of_mem _ (List.mem_append_right _ h)) (by decide +kernel))
set_option maxRecDepth 20000 in
theorem gX9_holds_X5_attackersOf : GoodIn wsX9_holds (wsV RX9 13 RX5 yX5_attackersOf wsX5_attackersOf) := goodIn_app (goodIn_of _ (by decide +kernel)) ggX9_holds_X5_attackersOf
theorem dX9_holds_0 : decode cX9_holds 0 = .ok (.aload_n 0, 1) := by decide +kernel
theorem dX9_holds_1 : decode cX9_holds 1 = .ok (.iload_n 1, 1) := by decide +kernel
theorem dX9_holds_2 : decode cX9_holds 2 = .ok (.invokevirtual 7, 3) := by decide +kernel
theorem dX9_holds_5 : decode cX9_holds 5 = .ok (.istore_n 2, 1) := by decide +kernel
theorem dX9_holds_6 : decode cX9_holds 6 = .ok (.iload_n 2, 1) := by decide +kernel
theorem dX9_holds_7 : decode cX9_holds 7 = .ok (.iload_n 1, 1) := by decide +kernel
theorem dX9_holds_8 : decode cX9_holds 8 = .ok (.iand, 1) := by decide +kernel
theorem dX9_holds_9 : decode cX9_holds 9 = .ok (.ifCond .ne 19, 3) := by decide +kernel
theorem dX9_holds_12 : decode cX9_holds 12 = .ok (.aload_n 0, 1) := by decide +kernel
theorem dX9_holds_13 : decode cX9_holds 13 = .ok (.iload_n 1, 1) := by decide +kernel
theorem dX9_holds_14 : decode cX9_holds 14 = .ok (.invokevirtual 13, 3) := by decide +kernel
theorem dX9_holds_17 : decode cX9_holds 17 = .ok (.iload_n 2, 1) := by decide +kernel
theorem dX9_holds_18 : decode cX9_holds 18 = .ok (.iconst (-1), 1) := by decide +kernel
theorem dX9_holds_19 : decode cX9_holds 19 = .ok (.ixor, 1) := by decide +kernel
theorem dX9_holds_20 : decode cX9_holds 20 = .ok (.iand, 1) := by decide +kernel
theorem dX9_holds_21 : decode cX9_holds 21 = .ok (.ifCond .ne 7, 3) := by decide +kernel
theorem dX9_holds_24 : decode cX9_holds 24 = .ok (.iconst 1, 1) := by decide +kernel
theorem dX9_holds_25 : decode cX9_holds 25 = .ok (.goto 4, 3) := by decide +kernel
theorem dX9_holds_28 : decode cX9_holds 28 = .ok (.iconst 0, 1) := by decide +kernel
theorem dX9_holds_29 : decode cX9_holds 29 = .ok (.ireturn, 1) := by decide +kernel
set_option maxRecDepth 20000 in
theorem ggX9_byTrying_X5_all : GoodIn wsX9_byTrying wsX5_all := goodIn_r _ [5, 6, 7, 8, 9, 26, 27, 28, 29, 30, 31] rfl (by decide +kernel)
set_option maxRecDepth 20000 in
theorem gX9_byTrying_X5_all : GoodIn wsX9_byTrying (wsV RX9 16 RX5 yX5_all wsX5_all) := goodIn_app (goodIn_of _ (by decide +kernel)) ggX9_byTrying_X5_all
set_option maxRecDepth 20000 in
theorem ggX9_byTrying_X9_holds : GoodIn wsX9_byTrying wsX9_holds := goodIn_ca (goodIn_r _ [13, 14, 15, 16, 4, 17, 6, 18, 19, 8, 20, 21, 22, 23, 24, 25, 26, 27, 28, 29, 30, 31] rfl (by decide +kernel)) (goodIn_sub (fun _ h => List.mem_cons_of_mem _ (List.mem_append_right _ h)) (by decide +kernel))
set_option maxRecDepth 20000 in
theorem gX9_byTrying_X9_holds : GoodIn wsX9_byTrying (va_wsS RX9 20 yX9_holds wsX9_holds) := goodIn_app (goodIn_of _ (by decide +kernel)) ggX9_byTrying_X9_holds
theorem dX9_byTrying_0 : decode cX9_byTrying 0 = .ok (.iconst 0, 1) := by decide +kernel
theorem dX9_byTrying_1 : decode cX9_byTrying 1 = .ok (.istore_n 1, 1) := by decide +kernel
theorem dX9_byTrying_2 : decode cX9_byTrying 2 = .ok (.iconst 0, 1) := by decide +kernel
theorem dX9_byTrying_3 : decode cX9_byTrying 3 = .ok (.istore_n 2, 1) := by decide +kernel
theorem dX9_byTrying_4 : decode cX9_byTrying 4 = .ok (.iload_n 2, 1) := by decide +kernel
theorem dX9_byTrying_5 : decode cX9_byTrying 5 = .ok (.aload_n 0, 1) := by decide +kernel
theorem dX9_byTrying_6 : decode cX9_byTrying 6 = .ok (.invokevirtual 16, 3) := by decide +kernel
theorem dX9_byTrying_9 : decode cX9_byTrying 9 = .ok (.if_icmp .gt 20, 3) := by decide +kernel
theorem dX9_byTrying_12 : decode cX9_byTrying 12 = .ok (.aload_n 0, 1) := by decide +kernel
theorem dX9_byTrying_13 : decode cX9_byTrying 13 = .ok (.iload_n 2, 1) := by decide +kernel
theorem dX9_byTrying_14 : decode cX9_byTrying 14 = .ok (.invokestatic 20, 3) := by decide +kernel
theorem dX9_byTrying_17 : decode cX9_byTrying 17 = .ok (.ifCond .eq 6, 3) := by decide +kernel
theorem dX9_byTrying_20 : decode cX9_byTrying 20 = .ok (.iinc 1 1, 3) := by decide +kernel
theorem dX9_byTrying_23 : decode cX9_byTrying 23 = .ok (.iinc 2 1, 3) := by decide +kernel
theorem dX9_byTrying_26 : decode cX9_byTrying 26 = .ok (.goto (-22), 3) := by decide +kernel
theorem dX9_byTrying_29 : decode cX9_byTrying 29 = .ok (.iload_n 1, 1) := by decide +kernel
theorem dX9_byTrying_30 : decode cX9_byTrying 30 = .ok (.ireturn, 1) := by decide +kernel
set_option maxRecDepth 20000 in
theorem ggX9_byDeciding_X9_decide : GoodIn wsX9_byDeciding wsX9_decide := goodIn_ca (goodIn_r _ [4, 5, 6, 7, 8, 9, 10, 11, 12, 13, 14, 15, 16, 17, 18, 19, 20, 21, 22, 1, 2, 3, 23, 24, 25, 26, 27, 28, 29, 30] rfl (by decide +kernel)) (goodIn_sub (fun _ h => List.mem_cons_of_mem _ (List.mem_append_right _ h)) (by decide +kernel))
set_option maxRecDepth 20000 in
theorem gX9_byDeciding_X9_decide : GoodIn wsX9_byDeciding (va_wsS RX9 26 yX9_decide wsX9_decide) := goodIn_app (goodIn_of _ (by decide +kernel)) ggX9_byDeciding_X9_decide
theorem dX9_byDeciding_0 : decode cX9_byDeciding 0 = .ok (.aload_n 0, 1) := by decide +kernel
theorem dX9_byDeciding_1 : decode cX9_byDeciding 1 = .ok (.iconst 0, 1) := by decide +kernel
theorem dX9_byDeciding_2 : decode cX9_byDeciding 2 = .ok (.iconst 0, 1) := by decide +kernel
theorem dX9_byDeciding_3 : decode cX9_byDeciding 3 = .ok (.invokestatic 26, 3) := by decide +kernel
theorem dX9_byDeciding_6 : decode cX9_byDeciding 6 = .ok (.ireturn, 1) := by decide +kernel
set_option maxRecDepth 20000 in
theorem ggX9_decide_X5_attackersOf : GoodIn wsX9_decide wsX5_attackersOf := goodIn_ca (goodIn_r _ [8, 9, 10, 11, 12, 13, 24, 25, 26, 27, 28, 29] rfl (by decide +kernel)) (goodIn_sub (fun _ h => List.mem_cons_of_mem _ (List.mem_append_right _ h)) (by decide +kernel))
set_option maxRecDepth 20000 in
theorem gX9_decide_X5_attackersOf : GoodIn wsX9_decide (wsV RX9 13 RX5 yX5_attackersOf wsX5_attackersOf) := goodIn_app (goodIn_of _ (by decide +kernel)) ggX9_decide_X5_attackersOf
set_option maxRecDepth 20000 in
theorem ggX9_decide_X5_targetsOf : GoodIn wsX9_decide wsX5_targetsOf := goodIn_ca (goodIn_r _ [17, 9, 18, 11, 12, 13, 24, 25, 26, 27, 28, 29] rfl (by decide +kernel)) (goodIn_sub (fun _ h => List.mem_cons_of_mem _ (List.mem_append_right _ h)) (by decide +kernel))
set_option maxRecDepth 20000 in
theorem gX9_decide_X5_targetsOf : GoodIn wsX9_decide (wsV RX9 7 RX5 yX5_targetsOf wsX5_targetsOf) := goodIn_app (goodIn_of _ (by decide +kernel)) ggX9_decide_X5_targetsOf
set_option maxRecDepth 20000 in
theorem ggX9_decide_X9_decide : GoodIn wsX9_decide wsX9_decide := goodIn_ca (goodIn_r _ [0, 1, 2, 3, 4, 5, 6, 7, 8, 9, 10, 11, 12, 13, 14, 15, 16, 17, 18, 19, 20, 21, 22, 23, 24, 25, 26, 27, 28, 29] rfl (by decide +kernel)) (goodIn_sub (fun _ h => List.mem_cons_of_mem _ (List.mem_append_right _ h)) (by decide +kernel))
set_option maxRecDepth 20000 in
theorem gX9_decide_X9_decide : GoodIn wsX9_decide (va_wsS RX9 26 yX9_decide wsX9_decide) := goodIn_app (goodIn_of _ (by decide +kernel)) ggX9_decide_X9_decide
set_option maxRecDepth 20000 in
theorem ggX9_decide_X12_bit : GoodIn wsX9_decide wsX12_bit := goodIn_r _ [23] rfl (by decide +kernel)
set_option maxRecDepth 20000 in
theorem gX9_decide_X12_bit_n34 : GoodIn wsX9_decide (wsX12_bit) := ggX9_decide_X12_bit
theorem dX9_decide_0 : decode cX9_decide 0 = .ok (.iload_n 1, 1) := by decide +kernel
theorem dX9_decide_1 : decode cX9_decide 1 = .ok (.aload_n 0, 1) := by decide +kernel
theorem dX9_decide_2 : decode cX9_decide 2 = .ok (.getfield 30, 3) := by decide +kernel
theorem dX9_decide_5 : decode cX9_decide 5 = .ok (.if_icmp .lt 25, 3) := by decide +kernel
theorem dX9_decide_8 : decode cX9_decide 8 = .ok (.aload_n 0, 1) := by decide +kernel
theorem dX9_decide_9 : decode cX9_decide 9 = .ok (.iload_n 2, 1) := by decide +kernel
theorem dX9_decide_10 : decode cX9_decide 10 = .ok (.invokevirtual 13, 3) := by decide +kernel
theorem dX9_decide_13 : decode cX9_decide 13 = .ok (.aload_n 0, 1) := by decide +kernel
theorem dX9_decide_14 : decode cX9_decide 14 = .ok (.iload_n 2, 1) := by decide +kernel
theorem dX9_decide_15 : decode cX9_decide 15 = .ok (.invokevirtual 7, 3) := by decide +kernel
theorem dX9_decide_18 : decode cX9_decide 18 = .ok (.iconst (-1), 1) := by decide +kernel
theorem dX9_decide_19 : decode cX9_decide 19 = .ok (.ixor, 1) := by decide +kernel
theorem dX9_decide_20 : decode cX9_decide 20 = .ok (.iand, 1) := by decide +kernel
theorem dX9_decide_21 : decode cX9_decide 21 = .ok (.ifCond .ne 7, 3) := by decide +kernel
theorem dX9_decide_24 : decode cX9_decide 24 = .ok (.iconst 1, 1) := by decide +kernel
theorem dX9_decide_25 : decode cX9_decide 25 = .ok (.goto 4, 3) := by decide +kernel
theorem dX9_decide_28 : decode cX9_decide 28 = .ok (.iconst 0, 1) := by decide +kernel
theorem dX9_decide_29 : decode cX9_decide 29 = .ok (.ireturn, 1) := by decide +kernel
theorem dX9_decide_30 : decode cX9_decide 30 = .ok (.aload_n 0, 1) := by decide +kernel
theorem dX9_decide_31 : decode cX9_decide 31 = .ok (.iload_n 1, 1) := by decide +kernel
theorem dX9_decide_32 : decode cX9_decide 32 = .ok (.iconst 1, 1) := by decide +kernel
theorem dX9_decide_33 : decode cX9_decide 33 = .ok (.iadd, 1) := by decide +kernel
theorem dX9_decide_34 : decode cX9_decide 34 = .ok (.iload_n 2, 1) := by decide +kernel
theorem dX9_decide_35 : decode cX9_decide 35 = .ok (.invokestatic 26, 3) := by decide +kernel
theorem dX9_decide_38 : decode cX9_decide 38 = .ok (.istore_n 3, 1) := by decide +kernel
theorem dX9_decide_39 : decode cX9_decide 39 = .ok (.iload_n 2, 1) := by decide +kernel
theorem dX9_decide_40 : decode cX9_decide 40 = .ok (.iload_n 1, 1) := by decide +kernel
theorem dX9_decide_41 : decode cX9_decide 41 = .ok (.invokestatic 34, 3) := by decide +kernel
theorem dX9_decide_44 : decode cX9_decide 44 = .ok (.ior, 1) := by decide +kernel
theorem dX9_decide_45 : decode cX9_decide 45 = .ok (.istore 4, 2) := by decide +kernel
theorem dX9_decide_47 : decode cX9_decide 47 = .ok (.aload_n 0, 1) := by decide +kernel
theorem dX9_decide_48 : decode cX9_decide 48 = .ok (.getfield 39, 3) := by decide +kernel
theorem dX9_decide_51 : decode cX9_decide 51 = .ok (.iload_n 1, 1) := by decide +kernel
theorem dX9_decide_52 : decode cX9_decide 52 = .ok (.iaload, 1) := by decide +kernel
theorem dX9_decide_53 : decode cX9_decide 53 = .ok (.aload_n 0, 1) := by decide +kernel
theorem dX9_decide_54 : decode cX9_decide 54 = .ok (.getfield 43, 3) := by decide +kernel
theorem dX9_decide_57 : decode cX9_decide 57 = .ok (.iload_n 1, 1) := by decide +kernel
theorem dX9_decide_58 : decode cX9_decide 58 = .ok (.iaload, 1) := by decide +kernel
theorem dX9_decide_59 : decode cX9_decide 59 = .ok (.ior, 1) := by decide +kernel
theorem dX9_decide_60 : decode cX9_decide 60 = .ok (.iload 4, 2) := by decide +kernel
theorem dX9_decide_62 : decode cX9_decide 62 = .ok (.iand, 1) := by decide +kernel
theorem dX9_decide_63 : decode cX9_decide 63 = .ok (.ifCond .ne 15, 3) := by decide +kernel
theorem dX9_decide_66 : decode cX9_decide 66 = .ok (.iload_n 3, 1) := by decide +kernel
theorem dX9_decide_67 : decode cX9_decide 67 = .ok (.aload_n 0, 1) := by decide +kernel
theorem dX9_decide_68 : decode cX9_decide 68 = .ok (.iload_n 1, 1) := by decide +kernel
theorem dX9_decide_69 : decode cX9_decide 69 = .ok (.iconst 1, 1) := by decide +kernel
theorem dX9_decide_70 : decode cX9_decide 70 = .ok (.iadd, 1) := by decide +kernel
theorem dX9_decide_71 : decode cX9_decide 71 = .ok (.iload 4, 2) := by decide +kernel
theorem dX9_decide_73 : decode cX9_decide 73 = .ok (.invokestatic 26, 3) := by decide +kernel
theorem dX9_decide_76 : decode cX9_decide 76 = .ok (.iadd, 1) := by decide +kernel
theorem dX9_decide_77 : decode cX9_decide 77 = .ok (.istore_n 3, 1) := by decide +kernel
theorem dX9_decide_78 : decode cX9_decide 78 = .ok (.iload_n 3, 1) := by decide +kernel
theorem dX9_decide_79 : decode cX9_decide 79 = .ok (.ireturn, 1) := by decide +kernel
set_option maxRecDepth 20000 in
theorem ggX9_heaviest_X5_all : GoodIn wsX9_heaviest wsX5_all := goodIn_r _ [5, 6, 7, 8, 9, 34, 35, 36, 37, 38, 39] rfl (by decide +kernel)
set_option maxRecDepth 20000 in
theorem gX9_heaviest_X5_all : GoodIn wsX9_heaviest (wsV RX9 16 RX5 yX5_all wsX5_all) := goodIn_app (goodIn_of _ (by decide +kernel)) ggX9_heaviest_X5_all
set_option maxRecDepth 20000 in
theorem ggX9_heaviest_X9_holds : GoodIn wsX9_heaviest wsX9_holds := goodIn_ca (goodIn_r _ [13, 14, 15, 16, 4, 17, 6, 18, 19, 8, 20, 21, 22, 23, 24, 25, 34, 35, 36, 37, 38, 39] rfl (by decide +kernel)) (goodIn_sub (fun _ h => List.mem_cons_of_mem _ (List.mem_append_right _ h)) (by decide +kernel))
set_option maxRecDepth 20000 in
theorem gX9_heaviest_X9_holds : GoodIn wsX9_heaviest (va_wsS RX9 20 yX9_holds wsX9_holds) := goodIn_app (goodIn_of _ (by decide +kernel)) ggX9_heaviest_X9_holds
set_option maxRecDepth 20000 in
theorem ggX9_heaviest_X9_isBetter : GoodIn wsX9_heaviest wsX9_isBetter := goodIn_ca (goodIn_r _ [28, 29, 30, 31, 4, 32, 6, 33, 19, 8, 20, 34, 35, 36, 37, 38, 39] rfl (by decide +kernel)) (goodIn_sub (fun _ h => List.mem_cons_of_mem _ (List.mem_append_right _ h)) (by decide +kernel))
set_option maxRecDepth 20000 in
theorem gX9_heaviest_X9_isBetter : GoodIn wsX9_heaviest (va_wsS RX9 46 yX9_isBetter wsX9_isBetter) := goodIn_app (goodIn_of _ (by decide +kernel)) ggX9_heaviest_X9_isBetter
theorem dX9_heaviest_0 : decode cX9_heaviest 0 = .ok (.iconst 0, 1) := by decide +kernel
theorem dX9_heaviest_1 : decode cX9_heaviest 1 = .ok (.istore_n 1, 1) := by decide +kernel
theorem dX9_heaviest_2 : decode cX9_heaviest 2 = .ok (.iconst 1, 1) := by decide +kernel
theorem dX9_heaviest_3 : decode cX9_heaviest 3 = .ok (.istore_n 2, 1) := by decide +kernel
theorem dX9_heaviest_4 : decode cX9_heaviest 4 = .ok (.iload_n 2, 1) := by decide +kernel
theorem dX9_heaviest_5 : decode cX9_heaviest 5 = .ok (.aload_n 0, 1) := by decide +kernel
theorem dX9_heaviest_6 : decode cX9_heaviest 6 = .ok (.invokevirtual 16, 3) := by decide +kernel
theorem dX9_heaviest_9 : decode cX9_heaviest 9 = .ok (.if_icmp .gt 28, 3) := by decide +kernel
theorem dX9_heaviest_12 : decode cX9_heaviest 12 = .ok (.aload_n 0, 1) := by decide +kernel
theorem dX9_heaviest_13 : decode cX9_heaviest 13 = .ok (.iload_n 2, 1) := by decide +kernel
theorem dX9_heaviest_14 : decode cX9_heaviest 14 = .ok (.invokestatic 20, 3) := by decide +kernel
theorem dX9_heaviest_17 : decode cX9_heaviest 17 = .ok (.ifCond .eq 14, 3) := by decide +kernel
theorem dX9_heaviest_20 : decode cX9_heaviest 20 = .ok (.aload_n 0, 1) := by decide +kernel
theorem dX9_heaviest_21 : decode cX9_heaviest 21 = .ok (.iload_n 2, 1) := by decide +kernel
theorem dX9_heaviest_22 : decode cX9_heaviest 22 = .ok (.iload_n 1, 1) := by decide +kernel
theorem dX9_heaviest_23 : decode cX9_heaviest 23 = .ok (.invokestatic 46, 3) := by decide +kernel
theorem dX9_heaviest_26 : decode cX9_heaviest 26 = .ok (.ifCond .eq 5, 3) := by decide +kernel
theorem dX9_heaviest_29 : decode cX9_heaviest 29 = .ok (.iload_n 2, 1) := by decide +kernel
theorem dX9_heaviest_30 : decode cX9_heaviest 30 = .ok (.istore_n 1, 1) := by decide +kernel
theorem dX9_heaviest_31 : decode cX9_heaviest 31 = .ok (.iinc 2 1, 3) := by decide +kernel
theorem dX9_heaviest_34 : decode cX9_heaviest 34 = .ok (.goto (-30), 3) := by decide +kernel
theorem dX9_heaviest_37 : decode cX9_heaviest 37 = .ok (.iload_n 1, 1) := by decide +kernel
theorem dX9_heaviest_38 : decode cX9_heaviest 38 = .ok (.ireturn, 1) := by decide +kernel
set_option maxRecDepth 20000 in
theorem ggX9_isBetter_X5_weightOfSet : GoodIn wsX9_isBetter wsX5_weightOfSet := goodIn_ca (goodIn_r _ [5, 6, 7, 8, 9, 10, 11, 12, 13, 14, 15, 16] rfl (by decide +kernel)) (goodIn_sub (fun _ h => List.mem_cons_of_mem _ (List.mem_append_right _ h)) (by decide +kernel))
set_option maxRecDepth 20000 in
theorem gX9_isBetter_X5_weightOfSet : GoodIn wsX9_isBetter (wsV RX9 50 RX5 yX5_weightOfSet wsX5_weightOfSet) := goodIn_app (goodIn_of _ (by decide +kernel)) ggX9_isBetter_X5_weightOfSet
theorem dX9_isBetter_0 : decode cX9_isBetter 0 = .ok (.aload_n 0, 1) := by decide +kernel
theorem dX9_isBetter_1 : decode cX9_isBetter 1 = .ok (.iload_n 1, 1) := by decide +kernel
theorem dX9_isBetter_2 : decode cX9_isBetter 2 = .ok (.invokevirtual 50, 3) := by decide +kernel
theorem dX9_isBetter_5 : decode cX9_isBetter 5 = .ok (.istore_n 3, 1) := by decide +kernel
theorem dX9_isBetter_6 : decode cX9_isBetter 6 = .ok (.aload_n 0, 1) := by decide +kernel
theorem dX9_isBetter_7 : decode cX9_isBetter 7 = .ok (.iload_n 2, 1) := by decide +kernel
theorem dX9_isBetter_8 : decode cX9_isBetter 8 = .ok (.invokevirtual 50, 3) := by decide +kernel
theorem dX9_isBetter_11 : decode cX9_isBetter 11 = .ok (.istore 4, 2) := by decide +kernel
theorem dX9_isBetter_13 : decode cX9_isBetter 13 = .ok (.iload_n 3, 1) := by decide +kernel
theorem dX9_isBetter_14 : decode cX9_isBetter 14 = .ok (.iload 4, 2) := by decide +kernel
theorem dX9_isBetter_16 : decode cX9_isBetter 16 = .ok (.if_icmp .eq 15, 3) := by decide +kernel
theorem dX9_isBetter_19 : decode cX9_isBetter 19 = .ok (.iload_n 3, 1) := by decide +kernel
theorem dX9_isBetter_20 : decode cX9_isBetter 20 = .ok (.iload 4, 2) := by decide +kernel
theorem dX9_isBetter_22 : decode cX9_isBetter 22 = .ok (.if_icmp .le 7, 3) := by decide +kernel
theorem dX9_isBetter_25 : decode cX9_isBetter 25 = .ok (.iconst 1, 1) := by decide +kernel
theorem dX9_isBetter_26 : decode cX9_isBetter 26 = .ok (.goto 4, 3) := by decide +kernel
theorem dX9_isBetter_29 : decode cX9_isBetter 29 = .ok (.iconst 0, 1) := by decide +kernel
theorem dX9_isBetter_30 : decode cX9_isBetter 30 = .ok (.ireturn, 1) := by decide +kernel
theorem dX9_isBetter_31 : decode cX9_isBetter 31 = .ok (.iload_n 1, 1) := by decide +kernel
theorem dX9_isBetter_32 : decode cX9_isBetter 32 = .ok (.iload_n 2, 1) := by decide +kernel
theorem dX9_isBetter_33 : decode cX9_isBetter 33 = .ok (.ixor, 1) := by decide +kernel
theorem dX9_isBetter_34 : decode cX9_isBetter 34 = .ok (.istore 5, 2) := by decide +kernel
theorem dX9_isBetter_36 : decode cX9_isBetter 36 = .ok (.iload 5, 2) := by decide +kernel
theorem dX9_isBetter_38 : decode cX9_isBetter 38 = .ok (.iload 5, 2) := by decide +kernel
theorem dX9_isBetter_40 : decode cX9_isBetter 40 = .ok (.ineg, 1) := by decide +kernel
theorem dX9_isBetter_41 : decode cX9_isBetter 41 = .ok (.iand, 1) := by decide +kernel
theorem dX9_isBetter_42 : decode cX9_isBetter 42 = .ok (.istore 6, 2) := by decide +kernel
theorem dX9_isBetter_44 : decode cX9_isBetter 44 = .ok (.iload_n 1, 1) := by decide +kernel
theorem dX9_isBetter_45 : decode cX9_isBetter 45 = .ok (.iload 6, 2) := by decide +kernel
theorem dX9_isBetter_47 : decode cX9_isBetter 47 = .ok (.iand, 1) := by decide +kernel
theorem dX9_isBetter_48 : decode cX9_isBetter 48 = .ok (.ifCond .eq 7, 3) := by decide +kernel
theorem dX9_isBetter_51 : decode cX9_isBetter 51 = .ok (.iconst 1, 1) := by decide +kernel
theorem dX9_isBetter_52 : decode cX9_isBetter 52 = .ok (.goto 4, 3) := by decide +kernel
theorem dX9_isBetter_55 : decode cX9_isBetter 55 = .ok (.iconst 0, 1) := by decide +kernel
theorem dX9_isBetter_56 : decode cX9_isBetter 56 = .ok (.ireturn, 1) := by decide +kernel
theorem dX10_init_0 : decode cX10_init 0 = .ok (.aload_n 0, 1) := by decide +kernel
theorem dX10_init_1 : decode cX10_init 1 = .ok (.invokespecial 3, 3) := by decide +kernel
theorem dX10_init_4 : decode cX10_init 4 = .ok (.aload_n 0, 1) := by decide +kernel
theorem dX10_init_5 : decode cX10_init 5 = .ok (.iconst 4, 1) := by decide +kernel
theorem dX10_init_6 : decode cX10_init 6 = .ok (.newarray .char, 2) := by decide +kernel
theorem dX10_init_8 : decode cX10_init 8 = .ok (.putfield 9, 3) := by decide +kernel
theorem dX10_init_11 : decode cX10_init 11 = .ok (.aload_n 0, 1) := by decide +kernel
theorem dX10_init_12 : decode cX10_init 12 = .ok (.bipush 12, 2) := by decide +kernel
theorem dX10_init_14 : decode cX10_init 14 = .ok (.newarray .char, 2) := by decide +kernel
theorem dX10_init_16 : decode cX10_init 16 = .ok (.putfield 15, 3) := by decide +kernel
theorem dX10_init_19 : decode cX10_init 19 = .ok (.iconst 0, 1) := by decide +kernel
theorem dX10_init_20 : decode cX10_init 20 = .ok (.istore_n 1, 1) := by decide +kernel
theorem dX10_init_21 : decode cX10_init 21 = .ok (.iload_n 1, 1) := by decide +kernel
theorem dX10_init_22 : decode cX10_init 22 = .ok (.aload_n 0, 1) := by decide +kernel
theorem dX10_init_23 : decode cX10_init 23 = .ok (.getfield 9, 3) := by decide +kernel
theorem dX10_init_26 : decode cX10_init 26 = .ok (.arraylength, 1) := by decide +kernel
theorem dX10_init_27 : decode cX10_init 27 = .ok (.if_icmp .ge 17, 3) := by decide +kernel
theorem dX10_init_30 : decode cX10_init 30 = .ok (.aload_n 0, 1) := by decide +kernel
theorem dX10_init_31 : decode cX10_init 31 = .ok (.getfield 9, 3) := by decide +kernel
theorem dX10_init_34 : decode cX10_init 34 = .ok (.iload_n 1, 1) := by decide +kernel
theorem dX10_init_35 : decode cX10_init 35 = .ok (.bipush 97, 2) := by decide +kernel
theorem dX10_init_37 : decode cX10_init 37 = .ok (.castore, 1) := by decide +kernel
theorem dX10_init_38 : decode cX10_init 38 = .ok (.iinc 1 1, 3) := by decide +kernel
theorem dX10_init_41 : decode cX10_init 41 = .ok (.goto (-20), 3) := by decide +kernel
theorem dX10_init_44 : decode cX10_init 44 = .ok (.iconst 0, 1) := by decide +kernel
theorem dX10_init_45 : decode cX10_init 45 = .ok (.istore_n 1, 1) := by decide +kernel
theorem dX10_init_46 : decode cX10_init 46 = .ok (.iload_n 1, 1) := by decide +kernel
theorem dX10_init_47 : decode cX10_init 47 = .ok (.aload_n 0, 1) := by decide +kernel
theorem dX10_init_48 : decode cX10_init 48 = .ok (.getfield 15, 3) := by decide +kernel
theorem dX10_init_51 : decode cX10_init 51 = .ok (.arraylength, 1) := by decide +kernel
theorem dX10_init_52 : decode cX10_init 52 = .ok (.if_icmp .ge 17, 3) := by decide +kernel
theorem dX10_init_55 : decode cX10_init 55 = .ok (.aload_n 0, 1) := by decide +kernel
theorem dX10_init_56 : decode cX10_init 56 = .ok (.getfield 15, 3) := by decide +kernel
theorem dX10_init_59 : decode cX10_init 59 = .ok (.iload_n 1, 1) := by decide +kernel
theorem dX10_init_60 : decode cX10_init 60 = .ok (.bipush 46, 2) := by decide +kernel
theorem dX10_init_62 : decode cX10_init 62 = .ok (.castore, 1) := by decide +kernel
theorem dX10_init_63 : decode cX10_init 63 = .ok (.iinc 1 1, 3) := by decide +kernel
theorem dX10_init_66 : decode cX10_init 66 = .ok (.goto (-20), 3) := by decide +kernel
theorem dX10_init_69 : decode cX10_init 69 = .ok (.return_, 1) := by decide +kernel
theorem dX10_copyFrom_0 : decode cX10_copyFrom 0 = .ok (.iconst 0, 1) := by decide +kernel
theorem dX10_copyFrom_1 : decode cX10_copyFrom 1 = .ok (.istore_n 2, 1) := by decide +kernel
theorem dX10_copyFrom_2 : decode cX10_copyFrom 2 = .ok (.iload_n 2, 1) := by decide +kernel
theorem dX10_copyFrom_3 : decode cX10_copyFrom 3 = .ok (.aload_n 0, 1) := by decide +kernel
theorem dX10_copyFrom_4 : decode cX10_copyFrom 4 = .ok (.getfield 9, 3) := by decide +kernel
theorem dX10_copyFrom_7 : decode cX10_copyFrom 7 = .ok (.arraylength, 1) := by decide +kernel
theorem dX10_copyFrom_8 : decode cX10_copyFrom 8 = .ok (.if_icmp .ge 21, 3) := by decide +kernel
theorem dX10_copyFrom_11 : decode cX10_copyFrom 11 = .ok (.aload_n 0, 1) := by decide +kernel
theorem dX10_copyFrom_12 : decode cX10_copyFrom 12 = .ok (.getfield 9, 3) := by decide +kernel
theorem dX10_copyFrom_15 : decode cX10_copyFrom 15 = .ok (.iload_n 2, 1) := by decide +kernel
theorem dX10_copyFrom_16 : decode cX10_copyFrom 16 = .ok (.aload_n 1, 1) := by decide +kernel
theorem dX10_copyFrom_17 : decode cX10_copyFrom 17 = .ok (.getfield 9, 3) := by decide +kernel
theorem dX10_copyFrom_20 : decode cX10_copyFrom 20 = .ok (.iload_n 2, 1) := by decide +kernel
theorem dX10_copyFrom_21 : decode cX10_copyFrom 21 = .ok (.caload, 1) := by decide +kernel
theorem dX10_copyFrom_22 : decode cX10_copyFrom 22 = .ok (.castore, 1) := by decide +kernel
theorem dX10_copyFrom_23 : decode cX10_copyFrom 23 = .ok (.iinc 2 1, 3) := by decide +kernel
theorem dX10_copyFrom_26 : decode cX10_copyFrom 26 = .ok (.goto (-24), 3) := by decide +kernel
theorem dX10_copyFrom_29 : decode cX10_copyFrom 29 = .ok (.iconst 0, 1) := by decide +kernel
theorem dX10_copyFrom_30 : decode cX10_copyFrom 30 = .ok (.istore_n 2, 1) := by decide +kernel
theorem dX10_copyFrom_31 : decode cX10_copyFrom 31 = .ok (.iload_n 2, 1) := by decide +kernel
theorem dX10_copyFrom_32 : decode cX10_copyFrom 32 = .ok (.aload_n 0, 1) := by decide +kernel
theorem dX10_copyFrom_33 : decode cX10_copyFrom 33 = .ok (.getfield 15, 3) := by decide +kernel
theorem dX10_copyFrom_36 : decode cX10_copyFrom 36 = .ok (.arraylength, 1) := by decide +kernel
theorem dX10_copyFrom_37 : decode cX10_copyFrom 37 = .ok (.if_icmp .ge 21, 3) := by decide +kernel
theorem dX10_copyFrom_40 : decode cX10_copyFrom 40 = .ok (.aload_n 0, 1) := by decide +kernel
theorem dX10_copyFrom_41 : decode cX10_copyFrom 41 = .ok (.getfield 15, 3) := by decide +kernel
theorem dX10_copyFrom_44 : decode cX10_copyFrom 44 = .ok (.iload_n 2, 1) := by decide +kernel
theorem dX10_copyFrom_45 : decode cX10_copyFrom 45 = .ok (.aload_n 1, 1) := by decide +kernel
theorem dX10_copyFrom_46 : decode cX10_copyFrom 46 = .ok (.getfield 15, 3) := by decide +kernel
theorem dX10_copyFrom_49 : decode cX10_copyFrom 49 = .ok (.iload_n 2, 1) := by decide +kernel
theorem dX10_copyFrom_50 : decode cX10_copyFrom 50 = .ok (.caload, 1) := by decide +kernel
theorem dX10_copyFrom_51 : decode cX10_copyFrom 51 = .ok (.castore, 1) := by decide +kernel
theorem dX10_copyFrom_52 : decode cX10_copyFrom 52 = .ok (.iinc 2 1, 3) := by decide +kernel
theorem dX10_copyFrom_55 : decode cX10_copyFrom 55 = .ok (.goto (-24), 3) := by decide +kernel
theorem dX10_copyFrom_58 : decode cX10_copyFrom 58 = .ok (.return_, 1) := by decide +kernel
set_option maxRecDepth 20000 in
theorem ggX10_renew_X12_isLayer : GoodIn wsX10_renew wsX12_isLayer := goodIn_r _ [4] rfl (by decide +kernel)
set_option maxRecDepth 20000 in
theorem gX10_renew_X12_isLayer_n18 : GoodIn wsX10_renew (wsX12_isLayer) := ggX10_renew_X12_isLayer
set_option maxRecDepth 20000 in
theorem ggX10_renew_X10_depth : GoodIn wsX10_renew wsX10_depth := goodIn_ca (goodIn_r _ [9, 10, 11, 12, 8, 13, 14, 15] rfl (by decide +kernel)) (goodIn_sub (fun _ h => List.mem_cons_of_mem _ (List.mem_append_right _ h)) (by decide +kernel))
set_option maxRecDepth 20000 in
theorem gX10_renew_X10_depth : GoodIn wsX10_renew (wsV RX10 22 RX10 yX10_depth wsX10_depth) := goodIn_app (goodIn_of _ (by decide +kernel)) ggX10_renew_X10_depth
theorem dX10_renew_0 : decode cX10_renew 0 = .ok (.iload_n 1, 1) := by decide +kernel
theorem dX10_renew_1 : decode cX10_renew 1 = .ok (.invokestatic 18, 3) := by decide +kernel
theorem dX10_renew_4 : decode cX10_renew 4 = .ok (.ifCond .ne 5, 3) := by decide +kernel
theorem dX10_renew_7 : decode cX10_renew 7 = .ok (.iconst (-1), 1) := by decide +kernel
theorem dX10_renew_8 : decode cX10_renew 8 = .ok (.ireturn, 1) := by decide +kernel
theorem dX10_renew_9 : decode cX10_renew 9 = .ok (.iload_n 2, 1) := by decide +kernel
theorem dX10_renew_10 : decode cX10_renew 10 = .ok (.bipush 113, 2) := by decide +kernel
theorem dX10_renew_12 : decode cX10_renew 12 = .ok (.if_icmp .eq 18, 3) := by decide +kernel
theorem dX10_renew_15 : decode cX10_renew 15 = .ok (.iload_n 2, 1) := by decide +kernel
theorem dX10_renew_16 : decode cX10_renew 16 = .ok (.bipush 111, 2) := by decide +kernel
theorem dX10_renew_18 : decode cX10_renew 18 = .ok (.if_icmp .eq 12, 3) := by decide +kernel
theorem dX10_renew_21 : decode cX10_renew 21 = .ok (.iload_n 2, 1) := by decide +kernel
theorem dX10_renew_22 : decode cX10_renew 22 = .ok (.bipush 97, 2) := by decide +kernel
theorem dX10_renew_24 : decode cX10_renew 24 = .ok (.if_icmp .eq 6, 3) := by decide +kernel
theorem dX10_renew_27 : decode cX10_renew 27 = .ok (.bipush (-2), 2) := by decide +kernel
theorem dX10_renew_29 : decode cX10_renew 29 = .ok (.ireturn, 1) := by decide +kernel
theorem dX10_renew_30 : decode cX10_renew 30 = .ok (.aload_n 0, 1) := by decide +kernel
theorem dX10_renew_31 : decode cX10_renew 31 = .ok (.iload_n 1, 1) := by decide +kernel
theorem dX10_renew_32 : decode cX10_renew 32 = .ok (.invokevirtual 22, 3) := by decide +kernel
theorem dX10_renew_35 : decode cX10_renew 35 = .ok (.ifCond .le 6, 3) := by decide +kernel
theorem dX10_renew_38 : decode cX10_renew 38 = .ok (.bipush (-3), 2) := by decide +kernel
theorem dX10_renew_40 : decode cX10_renew 40 = .ok (.ireturn, 1) := by decide +kernel
theorem dX10_renew_41 : decode cX10_renew 41 = .ok (.aload_n 0, 1) := by decide +kernel
theorem dX10_renew_42 : decode cX10_renew 42 = .ok (.getfield 9, 3) := by decide +kernel
theorem dX10_renew_45 : decode cX10_renew 45 = .ok (.iload_n 1, 1) := by decide +kernel
theorem dX10_renew_46 : decode cX10_renew 46 = .ok (.caload, 1) := by decide +kernel
theorem dX10_renew_47 : decode cX10_renew 47 = .ok (.istore_n 3, 1) := by decide +kernel
theorem dX10_renew_48 : decode cX10_renew 48 = .ok (.aload_n 0, 1) := by decide +kernel
theorem dX10_renew_49 : decode cX10_renew 49 = .ok (.getfield 9, 3) := by decide +kernel
theorem dX10_renew_52 : decode cX10_renew 52 = .ok (.iload_n 1, 1) := by decide +kernel
theorem dX10_renew_53 : decode cX10_renew 53 = .ok (.iload_n 2, 1) := by decide +kernel
theorem dX10_renew_54 : decode cX10_renew 54 = .ok (.castore, 1) := by decide +kernel
theorem dX10_renew_55 : decode cX10_renew 55 = .ok (.iload_n 3, 1) := by decide +kernel
theorem dX10_renew_56 : decode cX10_renew 56 = .ok (.ireturn, 1) := by decide +kernel
set_option maxRecDepth 20000 in
theorem ggX10_put_X12_isLayer : GoodIn wsX10_put wsX12_isLayer := goodIn_r _ [4] rfl (by decide +kernel)
set_option maxRecDepth 20000 in
theorem gX10_put_X12_isLayer_n18 : GoodIn wsX10_put (wsX12_isLayer) := ggX10_put_X12_isLayer
set_option maxRecDepth 20000 in
theorem ggX10_put_X12_isSlot : GoodIn wsX10_put wsX12_isSlot := goodIn_r _ [6] rfl (by decide +kernel)
set_option maxRecDepth 20000 in
theorem gX10_put_X12_isSlot_n26 : GoodIn wsX10_put (wsX12_isSlot) := ggX10_put_X12_isSlot
set_option maxRecDepth 20000 in
theorem ggX10_put_X10_canHold : GoodIn wsX10_put wsX10_canHold := goodIn_ca (goodIn_r _ [11, 12, 20, 21] rfl (by decide +kernel)) (goodIn_sub (fun _ h => List.mem_cons_of_mem _ (List.mem_append_right _ h)) (by decide +kernel))
set_option maxRecDepth 20000 in
theorem gX10_put_X10_canHold : GoodIn wsX10_put (wsV RX10 29 RX10 yX10_canHold wsX10_canHold) := goodIn_app (goodIn_of _ (by decide +kernel)) ggX10_put_X10_canHold
set_option maxRecDepth 20000 in
theorem ggX10_put_X10_depth : GoodIn wsX10_put wsX10_depth := goodIn_ca (goodIn_r _ [16, 1, 17, 18, 10, 19, 20, 21] rfl (by decide +kernel)) (goodIn_sub (fun _ h => List.mem_cons_of_mem _ (List.mem_append_right _ h)) (by decide +kernel))
set_option maxRecDepth 20000 in
theorem gX10_put_X10_depth : GoodIn wsX10_put (wsV RX10 22 RX10 yX10_depth wsX10_depth) := goodIn_app (goodIn_of _ (by decide +kernel)) ggX10_put_X10_depth
theorem dX10_put_0 : decode cX10_put 0 = .ok (.iload_n 1, 1) := by decide +kernel
theorem dX10_put_1 : decode cX10_put 1 = .ok (.invokestatic 18, 3) := by decide +kernel
theorem dX10_put_4 : decode cX10_put 4 = .ok (.ifCond .eq 10, 3) := by decide +kernel
theorem dX10_put_7 : decode cX10_put 7 = .ok (.iload_n 2, 1) := by decide +kernel
theorem dX10_put_8 : decode cX10_put 8 = .ok (.invokestatic 26, 3) := by decide +kernel
theorem dX10_put_11 : decode cX10_put 11 = .ok (.ifCond .ne 5, 3) := by decide +kernel
theorem dX10_put_14 : decode cX10_put 14 = .ok (.iconst (-1), 1) := by decide +kernel
theorem dX10_put_15 : decode cX10_put 15 = .ok (.ireturn, 1) := by decide +kernel
theorem dX10_put_16 : decode cX10_put 16 = .ok (.iload_n 3, 1) := by decide +kernel
theorem dX10_put_17 : decode cX10_put 17 = .ok (.bipush 113, 2) := by decide +kernel
theorem dX10_put_19 : decode cX10_put 19 = .ok (.if_icmp .eq 12, 3) := by decide +kernel
theorem dX10_put_22 : decode cX10_put 22 = .ok (.iload_n 3, 1) := by decide +kernel
theorem dX10_put_23 : decode cX10_put 23 = .ok (.bipush 111, 2) := by decide +kernel
theorem dX10_put_25 : decode cX10_put 25 = .ok (.if_icmp .eq 6, 3) := by decide +kernel
theorem dX10_put_28 : decode cX10_put 28 = .ok (.bipush (-2), 2) := by decide +kernel
theorem dX10_put_30 : decode cX10_put 30 = .ok (.ireturn, 1) := by decide +kernel
theorem dX10_put_31 : decode cX10_put 31 = .ok (.aload_n 0, 1) := by decide +kernel
theorem dX10_put_32 : decode cX10_put 32 = .ok (.getfield 15, 3) := by decide +kernel
theorem dX10_put_35 : decode cX10_put 35 = .ok (.iload_n 1, 1) := by decide +kernel
theorem dX10_put_36 : decode cX10_put 36 = .ok (.iconst 3, 1) := by decide +kernel
theorem dX10_put_37 : decode cX10_put 37 = .ok (.imul, 1) := by decide +kernel
theorem dX10_put_38 : decode cX10_put 38 = .ok (.iload_n 2, 1) := by decide +kernel
theorem dX10_put_39 : decode cX10_put 39 = .ok (.iadd, 1) := by decide +kernel
theorem dX10_put_40 : decode cX10_put 40 = .ok (.caload, 1) := by decide +kernel
theorem dX10_put_41 : decode cX10_put 41 = .ok (.bipush 46, 2) := by decide +kernel
theorem dX10_put_43 : decode cX10_put 43 = .ok (.if_icmp .eq 6, 3) := by decide +kernel
theorem dX10_put_46 : decode cX10_put 46 = .ok (.bipush (-3), 2) := by decide +kernel
theorem dX10_put_48 : decode cX10_put 48 = .ok (.ireturn, 1) := by decide +kernel
theorem dX10_put_49 : decode cX10_put 49 = .ok (.aload_n 0, 1) := by decide +kernel
theorem dX10_put_50 : decode cX10_put 50 = .ok (.iload_n 1, 1) := by decide +kernel
theorem dX10_put_51 : decode cX10_put 51 = .ok (.iload_n 3, 1) := by decide +kernel
theorem dX10_put_52 : decode cX10_put 52 = .ok (.invokevirtual 29, 3) := by decide +kernel
theorem dX10_put_55 : decode cX10_put 55 = .ok (.ifCond .ne 6, 3) := by decide +kernel
theorem dX10_put_58 : decode cX10_put 58 = .ok (.bipush (-4), 2) := by decide +kernel
theorem dX10_put_60 : decode cX10_put 60 = .ok (.ireturn, 1) := by decide +kernel
theorem dX10_put_61 : decode cX10_put 61 = .ok (.aload_n 0, 1) := by decide +kernel
theorem dX10_put_62 : decode cX10_put 62 = .ok (.getfield 15, 3) := by decide +kernel
theorem dX10_put_65 : decode cX10_put 65 = .ok (.iload_n 1, 1) := by decide +kernel
theorem dX10_put_66 : decode cX10_put 66 = .ok (.iconst 3, 1) := by decide +kernel
theorem dX10_put_67 : decode cX10_put 67 = .ok (.imul, 1) := by decide +kernel
theorem dX10_put_68 : decode cX10_put 68 = .ok (.iload_n 2, 1) := by decide +kernel
theorem dX10_put_69 : decode cX10_put 69 = .ok (.iadd, 1) := by decide +kernel
theorem dX10_put_70 : decode cX10_put 70 = .ok (.iload_n 3, 1) := by decide +kernel
theorem dX10_put_71 : decode cX10_put 71 = .ok (.castore, 1) := by decide +kernel
theorem dX10_put_72 : decode cX10_put 72 = .ok (.aload_n 0, 1) := by decide +kernel
theorem dX10_put_73 : decode cX10_put 73 = .ok (.iload_n 1, 1) := by decide +kernel
theorem dX10_put_74 : decode cX10_put 74 = .ok (.invokevirtual 22, 3) := by decide +kernel
theorem dX10_put_77 : decode cX10_put 77 = .ok (.ireturn, 1) := by decide +kernel
set_option maxRecDepth 20000 in
theorem ggX10_take_X12_isLayer : GoodIn wsX10_take wsX12_isLayer := goodIn_r _ [4] rfl (by decide +kernel)
set_option maxRecDepth 20000 in
theorem gX10_take_X12_isLayer_n18 : GoodIn wsX10_take (wsX12_isLayer) := ggX10_take_X12_isLayer
set_option maxRecDepth 20000 in
theorem ggX10_take_X12_isSlot : GoodIn wsX10_take wsX12_isSlot := goodIn_r _ [6] rfl (by decide +kernel)
set_option maxRecDepth 20000 in
theorem gX10_take_X12_isSlot_n26 : GoodIn wsX10_take (wsX12_isSlot) := ggX10_take_X12_isSlot
theorem dX10_take_0 : decode cX10_take 0 = .ok (.iload_n 1, 1) := by decide +kernel
theorem dX10_take_1 : decode cX10_take 1 = .ok (.invokestatic 18, 3) := by decide +kernel
theorem dX10_take_4 : decode cX10_take 4 = .ok (.ifCond .eq 10, 3) := by decide +kernel
theorem dX10_take_7 : decode cX10_take 7 = .ok (.iload_n 2, 1) := by decide +kernel
theorem dX10_take_8 : decode cX10_take 8 = .ok (.invokestatic 26, 3) := by decide +kernel
theorem dX10_take_11 : decode cX10_take 11 = .ok (.ifCond .ne 5, 3) := by decide +kernel
theorem dX10_take_14 : decode cX10_take 14 = .ok (.iconst (-1), 1) := by decide +kernel
theorem dX10_take_15 : decode cX10_take 15 = .ok (.ireturn, 1) := by decide +kernel
theorem dX10_take_16 : decode cX10_take 16 = .ok (.aload_n 0, 1) := by decide +kernel
theorem dX10_take_17 : decode cX10_take 17 = .ok (.getfield 15, 3) := by decide +kernel
theorem dX10_take_20 : decode cX10_take 20 = .ok (.iload_n 1, 1) := by decide +kernel
theorem dX10_take_21 : decode cX10_take 21 = .ok (.iconst 3, 1) := by decide +kernel
theorem dX10_take_22 : decode cX10_take 22 = .ok (.imul, 1) := by decide +kernel
theorem dX10_take_23 : decode cX10_take 23 = .ok (.iload_n 2, 1) := by decide +kernel
theorem dX10_take_24 : decode cX10_take 24 = .ok (.iadd, 1) := by decide +kernel
theorem dX10_take_25 : decode cX10_take 25 = .ok (.caload, 1) := by decide +kernel
theorem dX10_take_26 : decode cX10_take 26 = .ok (.istore_n 3, 1) := by decide +kernel
theorem dX10_take_27 : decode cX10_take 27 = .ok (.iload_n 3, 1) := by decide +kernel
theorem dX10_take_28 : decode cX10_take 28 = .ok (.bipush 46, 2) := by decide +kernel
theorem dX10_take_30 : decode cX10_take 30 = .ok (.if_icmp .ne 6, 3) := by decide +kernel
theorem dX10_take_33 : decode cX10_take 33 = .ok (.bipush (-5), 2) := by decide +kernel
theorem dX10_take_35 : decode cX10_take 35 = .ok (.ireturn, 1) := by decide +kernel
theorem dX10_take_36 : decode cX10_take 36 = .ok (.aload_n 0, 1) := by decide +kernel
theorem dX10_take_37 : decode cX10_take 37 = .ok (.getfield 15, 3) := by decide +kernel
theorem dX10_take_40 : decode cX10_take 40 = .ok (.iload_n 1, 1) := by decide +kernel
theorem dX10_take_41 : decode cX10_take 41 = .ok (.iconst 3, 1) := by decide +kernel
theorem dX10_take_42 : decode cX10_take 42 = .ok (.imul, 1) := by decide +kernel
theorem dX10_take_43 : decode cX10_take 43 = .ok (.iload_n 2, 1) := by decide +kernel
theorem dX10_take_44 : decode cX10_take 44 = .ok (.iadd, 1) := by decide +kernel
theorem dX10_take_45 : decode cX10_take 45 = .ok (.bipush 46, 2) := by decide +kernel
theorem dX10_take_47 : decode cX10_take 47 = .ok (.castore, 1) := by decide +kernel
theorem dX10_take_48 : decode cX10_take 48 = .ok (.iload_n 3, 1) := by decide +kernel
theorem dX10_take_49 : decode cX10_take 49 = .ok (.ireturn, 1) := by decide +kernel
set_option maxRecDepth 20000 in
theorem ggX10_fill_X10_canHold : GoodIn wsX10_fill wsX10_canHold := goodIn_ca (goodIn_r _ [6, 7, 8, 9] rfl (by decide +kernel)) (goodIn_sub (fun _ h => List.mem_cons_of_mem _ (List.mem_append_right _ h)) (by decide +kernel))
set_option maxRecDepth 20000 in
theorem gX10_fill_X10_canHold : GoodIn wsX10_fill (wsV RX10 29 RX10 yX10_canHold wsX10_canHold) := goodIn_app (goodIn_of _ (by decide +kernel)) ggX10_fill_X10_canHold
theorem dX10_fill_0 : decode cX10_fill 0 = .ok (.iconst 0, 1) := by decide +kernel
theorem dX10_fill_1 : decode cX10_fill 1 = .ok (.istore_n 1, 1) := by decide +kernel
theorem dX10_fill_2 : decode cX10_fill 2 = .ok (.iload_n 1, 1) := by decide +kernel
theorem dX10_fill_3 : decode cX10_fill 3 = .ok (.aload_n 0, 1) := by decide +kernel
theorem dX10_fill_4 : decode cX10_fill 4 = .ok (.getfield 15, 3) := by decide +kernel
theorem dX10_fill_7 : decode cX10_fill 7 = .ok (.arraylength, 1) := by decide +kernel
theorem dX10_fill_8 : decode cX10_fill 8 = .ok (.if_icmp .ge 45, 3) := by decide +kernel
theorem dX10_fill_11 : decode cX10_fill 11 = .ok (.aload_n 0, 1) := by decide +kernel
theorem dX10_fill_12 : decode cX10_fill 12 = .ok (.getfield 15, 3) := by decide +kernel
theorem dX10_fill_15 : decode cX10_fill 15 = .ok (.iload_n 1, 1) := by decide +kernel
theorem dX10_fill_16 : decode cX10_fill 16 = .ok (.caload, 1) := by decide +kernel
theorem dX10_fill_17 : decode cX10_fill 17 = .ok (.bipush 46, 2) := by decide +kernel
theorem dX10_fill_19 : decode cX10_fill 19 = .ok (.if_icmp .ne 28, 3) := by decide +kernel
theorem dX10_fill_22 : decode cX10_fill 22 = .ok (.aload_n 0, 1) := by decide +kernel
theorem dX10_fill_23 : decode cX10_fill 23 = .ok (.getfield 15, 3) := by decide +kernel
theorem dX10_fill_26 : decode cX10_fill 26 = .ok (.iload_n 1, 1) := by decide +kernel
theorem dX10_fill_27 : decode cX10_fill 27 = .ok (.aload_n 0, 1) := by decide +kernel
theorem dX10_fill_28 : decode cX10_fill 28 = .ok (.iload_n 1, 1) := by decide +kernel
theorem dX10_fill_29 : decode cX10_fill 29 = .ok (.iconst 3, 1) := by decide +kernel
theorem dX10_fill_30 : decode cX10_fill 30 = .ok (.idiv, 1) := by decide +kernel
theorem dX10_fill_31 : decode cX10_fill 31 = .ok (.bipush 111, 2) := by decide +kernel
theorem dX10_fill_33 : decode cX10_fill 33 = .ok (.invokevirtual 29, 3) := by decide +kernel
theorem dX10_fill_36 : decode cX10_fill 36 = .ok (.ifCond .eq 8, 3) := by decide +kernel
theorem dX10_fill_39 : decode cX10_fill 39 = .ok (.bipush 111, 2) := by decide +kernel
theorem dX10_fill_41 : decode cX10_fill 41 = .ok (.goto 5, 3) := by decide +kernel
theorem dX10_fill_44 : decode cX10_fill 44 = .ok (.bipush 113, 2) := by decide +kernel
theorem dX10_fill_46 : decode cX10_fill 46 = .ok (.castore, 1) := by decide +kernel
theorem dX10_fill_47 : decode cX10_fill 47 = .ok (.iinc 1 1, 3) := by decide +kernel
theorem dX10_fill_50 : decode cX10_fill 50 = .ok (.goto (-48), 3) := by decide +kernel
theorem dX10_fill_53 : decode cX10_fill 53 = .ok (.return_, 1) := by decide +kernel
theorem dX10_canHold_0 : decode cX10_canHold 0 = .ok (.aload_n 0, 1) := by decide +kernel
theorem dX10_canHold_1 : decode cX10_canHold 1 = .ok (.getfield 9, 3) := by decide +kernel
theorem dX10_canHold_4 : decode cX10_canHold 4 = .ok (.iload_n 1, 1) := by decide +kernel
theorem dX10_canHold_5 : decode cX10_canHold 5 = .ok (.caload, 1) := by decide +kernel
theorem dX10_canHold_6 : decode cX10_canHold 6 = .ok (.bipush 97, 2) := by decide +kernel
theorem dX10_canHold_8 : decode cX10_canHold 8 = .ok (.if_icmp .eq 13, 3) := by decide +kernel
theorem dX10_canHold_11 : decode cX10_canHold 11 = .ok (.aload_n 0, 1) := by decide +kernel
theorem dX10_canHold_12 : decode cX10_canHold 12 = .ok (.getfield 9, 3) := by decide +kernel
theorem dX10_canHold_15 : decode cX10_canHold 15 = .ok (.iload_n 1, 1) := by decide +kernel
theorem dX10_canHold_16 : decode cX10_canHold 16 = .ok (.caload, 1) := by decide +kernel
theorem dX10_canHold_17 : decode cX10_canHold 17 = .ok (.iload_n 2, 1) := by decide +kernel
theorem dX10_canHold_18 : decode cX10_canHold 18 = .ok (.if_icmp .ne 7, 3) := by decide +kernel
theorem dX10_canHold_21 : decode cX10_canHold 21 = .ok (.iconst 1, 1) := by decide +kernel
theorem dX10_canHold_22 : decode cX10_canHold 22 = .ok (.goto 4, 3) := by decide +kernel
theorem dX10_canHold_25 : decode cX10_canHold 25 = .ok (.iconst 0, 1) := by decide +kernel
theorem dX10_canHold_26 : decode cX10_canHold 26 = .ok (.ireturn, 1) := by decide +kernel
set_option maxRecDepth 20000 in
theorem ggX10_depth_X10_strength : GoodIn wsX10_depth wsX10_strength := goodIn_r _ [5] rfl (by decide +kernel)
set_option maxRecDepth 20000 in
theorem gX10_depth_X10_strength : GoodIn wsX10_depth (va_wsS RX10 33 yX10_strength wsX10_strength) := goodIn_app (goodIn_of _ (by decide +kernel)) ggX10_depth_X10_strength
theorem dX10_depth_0 : decode cX10_depth 0 = .ok (.iconst 0, 1) := by decide +kernel
theorem dX10_depth_1 : decode cX10_depth 1 = .ok (.istore_n 2, 1) := by decide +kernel
theorem dX10_depth_2 : decode cX10_depth 2 = .ok (.iconst 0, 1) := by decide +kernel
theorem dX10_depth_3 : decode cX10_depth 3 = .ok (.istore_n 3, 1) := by decide +kernel
theorem dX10_depth_4 : decode cX10_depth 4 = .ok (.iload_n 3, 1) := by decide +kernel
theorem dX10_depth_5 : decode cX10_depth 5 = .ok (.iconst 3, 1) := by decide +kernel
theorem dX10_depth_6 : decode cX10_depth 6 = .ok (.if_icmp .ge 25, 3) := by decide +kernel
theorem dX10_depth_9 : decode cX10_depth 9 = .ok (.iload_n 2, 1) := by decide +kernel
theorem dX10_depth_10 : decode cX10_depth 10 = .ok (.aload_n 0, 1) := by decide +kernel
theorem dX10_depth_11 : decode cX10_depth 11 = .ok (.getfield 15, 3) := by decide +kernel
theorem dX10_depth_14 : decode cX10_depth 14 = .ok (.iload_n 1, 1) := by decide +kernel
theorem dX10_depth_15 : decode cX10_depth 15 = .ok (.iconst 3, 1) := by decide +kernel
theorem dX10_depth_16 : decode cX10_depth 16 = .ok (.imul, 1) := by decide +kernel
theorem dX10_depth_17 : decode cX10_depth 17 = .ok (.iload_n 3, 1) := by decide +kernel
theorem dX10_depth_18 : decode cX10_depth 18 = .ok (.iadd, 1) := by decide +kernel
theorem dX10_depth_19 : decode cX10_depth 19 = .ok (.caload, 1) := by decide +kernel
theorem dX10_depth_20 : decode cX10_depth 20 = .ok (.invokestatic 33, 3) := by decide +kernel
theorem dX10_depth_23 : decode cX10_depth 23 = .ok (.iadd, 1) := by decide +kernel
theorem dX10_depth_24 : decode cX10_depth 24 = .ok (.istore_n 2, 1) := by decide +kernel
theorem dX10_depth_25 : decode cX10_depth 25 = .ok (.iinc 3 1, 3) := by decide +kernel
theorem dX10_depth_28 : decode cX10_depth 28 = .ok (.goto (-24), 3) := by decide +kernel
theorem dX10_depth_31 : decode cX10_depth 31 = .ok (.iload_n 2, 1) := by decide +kernel
theorem dX10_depth_32 : decode cX10_depth 32 = .ok (.ireturn, 1) := by decide +kernel
theorem dX10_strength_0 : decode cX10_strength 0 = .ok (.iload_n 0, 1) := by decide +kernel
theorem dX10_strength_1 : decode cX10_strength 1 = .ok (.bipush 111, 2) := by decide +kernel
theorem dX10_strength_3 : decode cX10_strength 3 = .ok (.if_icmp .ne 5, 3) := by decide +kernel
theorem dX10_strength_6 : decode cX10_strength 6 = .ok (.iconst 3, 1) := by decide +kernel
theorem dX10_strength_7 : decode cX10_strength 7 = .ok (.ireturn, 1) := by decide +kernel
theorem dX10_strength_8 : decode cX10_strength 8 = .ok (.iload_n 0, 1) := by decide +kernel
theorem dX10_strength_9 : decode cX10_strength 9 = .ok (.bipush 113, 2) := by decide +kernel
theorem dX10_strength_11 : decode cX10_strength 11 = .ok (.if_icmp .ne 7, 3) := by decide +kernel
theorem dX10_strength_14 : decode cX10_strength 14 = .ok (.iconst 2, 1) := by decide +kernel
theorem dX10_strength_15 : decode cX10_strength 15 = .ok (.goto 4, 3) := by decide +kernel
theorem dX10_strength_18 : decode cX10_strength 18 = .ok (.iconst 0, 1) := by decide +kernel
theorem dX10_strength_19 : decode cX10_strength 19 = .ok (.ireturn, 1) := by decide +kernel
set_option maxRecDepth 20000 in
theorem ggX11_init_X5_init : GoodIn wsX11_init wsX5_init := goodIn_r _ [23, 24, 2, 3, 25, 26, 27, 28, 29, 30, 19, 31, 47, 48, 49, 50, 51, 52] rfl (by decide +kernel)
set_option maxRecDepth 20000 in
theorem gX11_init_X5_init : GoodIn wsX11_init (wsX5_init) := ggX11_init_X5_init
set_option maxRecDepth 20000 in
theorem ggX11_init_X10_init : GoodIn wsX11_init wsX10_init := goodIn_ca (goodIn_r _ [34, 35, 2, 3, 36, 37, 38, 60, 61] rfl (by decide +kernel)) (goodIn_sub (fun _ h => List.mem_cons_of_mem _ (List.mem_append_right _ h)) (by decide +kernel))
set_option maxRecDepth 20000 in
theorem gX11_init_X10_init : GoodIn wsX11_init (wsX10_init) := ggX11_init_X10_init
set_option maxRecDepth 20000 in
theorem ggX11_init_X8_init : GoodIn wsX11_init wsX8_init := goodIn_r _ [41, 42, 2, 3, 26, 43, 36, 44, 45, 46, 62, 63, 64, 65] rfl (by decide +kernel)
set_option maxRecDepth 20000 in
theorem gX11_init_X8_init : GoodIn wsX11_init (wsX8_init) := ggX11_init_X8_init
theorem dX11_init_0 : decode cX11_init 0 = .ok (.aload_n 0, 1) := by decide +kernel
theorem dX11_init_1 : decode cX11_init 1 = .ok (.invokespecial 3, 3) := by decide +kernel
theorem dX11_init_4 : decode cX11_init 4 = .ok (.aload_n 0, 1) := by decide +kernel
theorem dX11_init_5 : decode cX11_init 5 = .ok (.new 9, 3) := by decide +kernel
theorem dX11_init_8 : decode cX11_init 8 = .ok (.dup, 1) := by decide +kernel
theorem dX11_init_9 : decode cX11_init 9 = .ok (.invokespecial 11, 3) := by decide +kernel
theorem dX11_init_12 : decode cX11_init 12 = .ok (.putfield 12, 3) := by decide +kernel
theorem dX11_init_15 : decode cX11_init 15 = .ok (.aload_n 0, 1) := by decide +kernel
theorem dX11_init_16 : decode cX11_init 16 = .ok (.new 18, 3) := by decide +kernel
theorem dX11_init_19 : decode cX11_init 19 = .ok (.dup, 1) := by decide +kernel
theorem dX11_init_20 : decode cX11_init 20 = .ok (.invokespecial 20, 3) := by decide +kernel
theorem dX11_init_23 : decode cX11_init 23 = .ok (.putfield 21, 3) := by decide +kernel
theorem dX11_init_26 : decode cX11_init 26 = .ok (.aload_n 0, 1) := by decide +kernel
theorem dX11_init_27 : decode cX11_init 27 = .ok (.new 25, 3) := by decide +kernel
theorem dX11_init_30 : decode cX11_init 30 = .ok (.dup, 1) := by decide +kernel
theorem dX11_init_31 : decode cX11_init 31 = .ok (.invokespecial 27, 3) := by decide +kernel
theorem dX11_init_34 : decode cX11_init 34 = .ok (.putfield 28, 3) := by decide +kernel
theorem dX11_init_37 : decode cX11_init 37 = .ok (.aload_n 0, 1) := by decide +kernel
theorem dX11_init_38 : decode cX11_init 38 = .ok (.sipush 1000, 3) := by decide +kernel
theorem dX11_init_41 : decode cX11_init 41 = .ok (.putfield 32, 3) := by decide +kernel
theorem dX11_init_44 : decode cX11_init 44 = .ok (.aload_n 0, 1) := by decide +kernel
theorem dX11_init_45 : decode cX11_init 45 = .ok (.iconst 0, 1) := by decide +kernel
theorem dX11_init_46 : decode cX11_init 46 = .ok (.putfield 36, 3) := by decide +kernel
theorem dX11_init_49 : decode cX11_init 49 = .ok (.aload_n 0, 1) := by decide +kernel
theorem dX11_init_50 : decode cX11_init 50 = .ok (.iconst 0, 1) := by decide +kernel
theorem dX11_init_51 : decode cX11_init 51 = .ok (.putfield 39, 3) := by decide +kernel
theorem dX11_init_54 : decode cX11_init 54 = .ok (.aload_n 0, 1) := by decide +kernel
theorem dX11_init_55 : decode cX11_init 55 = .ok (.bipush 10, 2) := by decide +kernel
theorem dX11_init_57 : decode cX11_init 57 = .ok (.newarray .float, 2) := by decide +kernel
theorem dX11_init_59 : decode cX11_init 59 = .ok (.putfield 42, 3) := by decide +kernel
theorem dX11_init_62 : decode cX11_init 62 = .ok (.return_, 1) := by decide +kernel
set_option maxRecDepth 20000 in
theorem ggX11_copyFrom_X5_copyFrom : GoodIn wsX11_copyFrom wsX5_copyFrom := goodIn_r _ [11, 12, 13, 14, 15, 16, 17, 18, 19, 20, 21, 45, 46, 47, 48, 49, 50] rfl (by decide +kernel)
set_option maxRecDepth 20000 in
theorem gX11_copyFrom_X5_copyFrom : GoodIn wsX11_copyFrom (wsV RX11 46 RX5 yX5_copyFrom wsX5_copyFrom) := goodIn_app (goodIn_of _ (by decide +kernel)) ggX11_copyFrom_X5_copyFrom
set_option maxRecDepth 20000 in
theorem ggX11_copyFrom_X10_copyFrom : GoodIn wsX11_copyFrom wsX10_copyFrom := goodIn_ca (goodIn_r _ [26, 27, 28, 51, 52] rfl (by decide +kernel)) (goodIn_sub (fun _ h => List.mem_cons_of_mem _ (List.mem_append_right _ h)) (by decide +kernel))
set_option maxRecDepth 20000 in
theorem gX11_copyFrom_X10_copyFrom : GoodIn wsX11_copyFrom (wsV RX11 50 RX10 yX10_copyFrom wsX10_copyFrom) := goodIn_app (goodIn_of _ (by decide +kernel)) ggX11_copyFrom_X10_copyFrom
set_option maxRecDepth 20000 in
theorem ggX11_copyFrom_X8_copyFrom : GoodIn wsX11_copyFrom wsX8_copyFrom := goodIn_ca (goodIn_r _ [33, 34, 35, 36, 37, 53, 54, 55, 56] rfl (by decide +kernel)) (goodIn_sub (fun _ h => List.mem_cons_of_mem _ (List.mem_append_right _ h)) (by decide +kernel))
set_option maxRecDepth 20000 in
theorem gX11_copyFrom_X8_copyFrom : GoodIn wsX11_copyFrom (wsV RX11 53 RX8 yX8_copyFrom wsX8_copyFrom) := goodIn_app (goodIn_of _ (by decide +kernel)) ggX11_copyFrom_X8_copyFrom
theorem dX11_copyFrom_0 : decode cX11_copyFrom 0 = .ok (.aload_n 0, 1) := by decide +kernel
theorem dX11_copyFrom_1 : decode cX11_copyFrom 1 = .ok (.getfield 12, 3) := by decide +kernel
theorem dX11_copyFrom_4 : decode cX11_copyFrom 4 = .ok (.aload_n 1, 1) := by decide +kernel
theorem dX11_copyFrom_5 : decode cX11_copyFrom 5 = .ok (.getfield 12, 3) := by decide +kernel
theorem dX11_copyFrom_8 : decode cX11_copyFrom 8 = .ok (.invokevirtual 46, 3) := by decide +kernel
theorem dX11_copyFrom_11 : decode cX11_copyFrom 11 = .ok (.aload_n 0, 1) := by decide +kernel
theorem dX11_copyFrom_12 : decode cX11_copyFrom 12 = .ok (.getfield 21, 3) := by decide +kernel
theorem dX11_copyFrom_15 : decode cX11_copyFrom 15 = .ok (.aload_n 1, 1) := by decide +kernel
theorem dX11_copyFrom_16 : decode cX11_copyFrom 16 = .ok (.getfield 21, 3) := by decide +kernel
theorem dX11_copyFrom_19 : decode cX11_copyFrom 19 = .ok (.invokevirtual 50, 3) := by decide +kernel
theorem dX11_copyFrom_22 : decode cX11_copyFrom 22 = .ok (.aload_n 0, 1) := by decide +kernel
theorem dX11_copyFrom_23 : decode cX11_copyFrom 23 = .ok (.getfield 28, 3) := by decide +kernel
theorem dX11_copyFrom_26 : decode cX11_copyFrom 26 = .ok (.aload_n 1, 1) := by decide +kernel
theorem dX11_copyFrom_27 : decode cX11_copyFrom 27 = .ok (.getfield 28, 3) := by decide +kernel
theorem dX11_copyFrom_30 : decode cX11_copyFrom 30 = .ok (.invokevirtual 53, 3) := by decide +kernel
theorem dX11_copyFrom_33 : decode cX11_copyFrom 33 = .ok (.aload_n 0, 1) := by decide +kernel
theorem dX11_copyFrom_34 : decode cX11_copyFrom 34 = .ok (.aload_n 1, 1) := by decide +kernel
theorem dX11_copyFrom_35 : decode cX11_copyFrom 35 = .ok (.getfield 32, 3) := by decide +kernel
theorem dX11_copyFrom_38 : decode cX11_copyFrom 38 = .ok (.putfield 32, 3) := by decide +kernel
theorem dX11_copyFrom_41 : decode cX11_copyFrom 41 = .ok (.aload_n 0, 1) := by decide +kernel
theorem dX11_copyFrom_42 : decode cX11_copyFrom 42 = .ok (.aload_n 1, 1) := by decide +kernel
theorem dX11_copyFrom_43 : decode cX11_copyFrom 43 = .ok (.getfield 36, 3) := by decide +kernel
theorem dX11_copyFrom_46 : decode cX11_copyFrom 46 = .ok (.putfield 36, 3) := by decide +kernel
theorem dX11_copyFrom_49 : decode cX11_copyFrom 49 = .ok (.aload_n 0, 1) := by decide +kernel
theorem dX11_copyFrom_50 : decode cX11_copyFrom 50 = .ok (.aload_n 1, 1) := by decide +kernel
theorem dX11_copyFrom_51 : decode cX11_copyFrom 51 = .ok (.getfield 39, 3) := by decide +kernel
theorem dX11_copyFrom_54 : decode cX11_copyFrom 54 = .ok (.putfield 39, 3) := by decide +kernel
theorem dX11_copyFrom_57 : decode cX11_copyFrom 57 = .ok (.return_, 1) := by decide +kernel
set_option maxRecDepth 20000 in
theorem ggX11_put_X10_put : GoodIn wsX11_put wsX10_put := goodIn_ca (goodIn_r _ [8, 9, 10, 11, 12, 13, 14, 15, 16, 17, 7, 18, 19, 20, 21, 22, 23, 24, 25, 26, 47, 48] rfl (by decide +kernel)) (goodIn_sub (fun _ h => List.mem_cons_of_mem _ (List.mem_append_right _ h)) (by decide +kernel))
set_option maxRecDepth 20000 in
theorem gX11_put_X10_put : GoodIn wsX11_put (wsV RX11 56 RX10 yX10_put wsX10_put) := goodIn_app (goodIn_of _ (by decide +kernel)) ggX11_put_X10_put
set_option maxRecDepth 20000 in
theorem ggX11_put_X8_note : GoodIn wsX11_put wsX8_note := goodIn_ca (goodIn_r _ [31, 32, 33, 34, 35, 36, 37, 38, 39, 49, 50, 51, 52] rfl (by decide +kernel)) (goodIn_sub (fun _ h => List.mem_cons_of_mem _ (List.mem_append_right _ h)) (by decide +kernel))
set_option maxRecDepth 20000 in
theorem gX11_put_X8_note : GoodIn wsX11_put (wsV RX11 60 RX8 yX8_note wsX8_note) := goodIn_app (goodIn_of _ (by decide +kernel)) ggX11_put_X8_note
theorem dX11_put_0 : decode cX11_put 0 = .ok (.aload_n 0, 1) := by decide +kernel
theorem dX11_put_1 : decode cX11_put 1 = .ok (.getfield 21, 3) := by decide +kernel
theorem dX11_put_4 : decode cX11_put 4 = .ok (.iload_n 1, 1) := by decide +kernel
theorem dX11_put_5 : decode cX11_put 5 = .ok (.iload_n 2, 1) := by decide +kernel
theorem dX11_put_6 : decode cX11_put 6 = .ok (.iload_n 3, 1) := by decide +kernel
theorem dX11_put_7 : decode cX11_put 7 = .ok (.invokevirtual 56, 3) := by decide +kernel
theorem dX11_put_10 : decode cX11_put 10 = .ok (.istore 4, 2) := by decide +kernel
theorem dX11_put_12 : decode cX11_put 12 = .ok (.iload 4, 2) := by decide +kernel
theorem dX11_put_14 : decode cX11_put 14 = .ok (.ifCond .lt 16, 3) := by decide +kernel
theorem dX11_put_17 : decode cX11_put 17 = .ok (.aload_n 0, 1) := by decide +kernel
theorem dX11_put_18 : decode cX11_put 18 = .ok (.getfield 28, 3) := by decide +kernel
theorem dX11_put_21 : decode cX11_put 21 = .ok (.aload_n 0, 1) := by decide +kernel
theorem dX11_put_22 : decode cX11_put 22 = .ok (.getfield 36, 3) := by decide +kernel
theorem dX11_put_25 : decode cX11_put 25 = .ok (.bipush 105, 2) := by decide +kernel
theorem dX11_put_27 : decode cX11_put 27 = .ok (.invokevirtual 60, 3) := by decide +kernel
theorem dX11_put_30 : decode cX11_put 30 = .ok (.iload 4, 2) := by decide +kernel
theorem dX11_put_32 : decode cX11_put 32 = .ok (.ireturn, 1) := by decide +kernel
set_option maxRecDepth 20000 in
theorem ggX11_take_X10_take : GoodIn wsX11_take wsX10_take := goodIn_ca (goodIn_r _ [8, 9, 10, 11, 12, 13, 14, 35, 36] rfl (by decide +kernel)) (goodIn_sub (fun _ h => List.mem_cons_of_mem _ (List.mem_append_right _ h)) (by decide +kernel))
set_option maxRecDepth 20000 in
theorem gX11_take_X10_take : GoodIn wsX11_take (wsV RX11 64 RX10 yX10_take wsX10_take) := goodIn_app (goodIn_of _ (by decide +kernel)) ggX11_take_X10_take
set_option maxRecDepth 20000 in
theorem ggX11_take_X8_note : GoodIn wsX11_take wsX8_note := goodIn_ca (goodIn_r _ [19, 20, 21, 22, 23, 24, 25, 26, 27, 37, 38, 39, 40] rfl (by decide +kernel)) (goodIn_sub (fun _ h => List.mem_cons_of_mem _ (List.mem_append_right _ h)) (by decide +kernel))
set_option maxRecDepth 20000 in
theorem gX11_take_X8_note : GoodIn wsX11_take (wsV RX11 60 RX8 yX8_note wsX8_note) := goodIn_app (goodIn_of _ (by decide +kernel)) ggX11_take_X8_note
theorem dX11_take_0 : decode cX11_take 0 = .ok (.aload_n 0, 1) := by decide +kernel
theorem dX11_take_1 : decode cX11_take 1 = .ok (.getfield 21, 3) := by decide +kernel
theorem dX11_take_4 : decode cX11_take 4 = .ok (.iload_n 1, 1) := by decide +kernel
theorem dX11_take_5 : decode cX11_take 5 = .ok (.iload_n 2, 1) := by decide +kernel
theorem dX11_take_6 : decode cX11_take 6 = .ok (.invokevirtual 64, 3) := by decide +kernel
theorem dX11_take_9 : decode cX11_take 9 = .ok (.istore_n 3, 1) := by decide +kernel
theorem dX11_take_10 : decode cX11_take 10 = .ok (.iload_n 3, 1) := by decide +kernel
theorem dX11_take_11 : decode cX11_take 11 = .ok (.ifCond .lt 16, 3) := by decide +kernel
theorem dX11_take_14 : decode cX11_take 14 = .ok (.aload_n 0, 1) := by decide +kernel
theorem dX11_take_15 : decode cX11_take 15 = .ok (.getfield 28, 3) := by decide +kernel
theorem dX11_take_18 : decode cX11_take 18 = .ok (.aload_n 0, 1) := by decide +kernel
theorem dX11_take_19 : decode cX11_take 19 = .ok (.getfield 36, 3) := by decide +kernel
theorem dX11_take_22 : decode cX11_take 22 = .ok (.bipush 119, 2) := by decide +kernel
theorem dX11_take_24 : decode cX11_take 24 = .ok (.invokevirtual 60, 3) := by decide +kernel
theorem dX11_take_27 : decode cX11_take 27 = .ok (.iload_n 3, 1) := by decide +kernel
theorem dX11_take_28 : decode cX11_take 28 = .ok (.ireturn, 1) := by decide +kernel
set_option maxRecDepth 20000 in
theorem ggX11_heat_X5_has : GoodIn wsX11_heat wsX5_has := goodIn_r _ [9, 10, 35, 36, 37, 38, 39, 40] rfl (by decide +kernel)
set_option maxRecDepth 20000 in
theorem gX11_heat_X5_has : GoodIn wsX11_heat (wsV RX11 68 RX5 yX5_has wsX5_has) := goodIn_app (goodIn_of _ (by decide +kernel)) ggX11_heat_X5_has
set_option maxRecDepth 20000 in
theorem ggX11_heat_X12_capped : GoodIn wsX11_heat wsX12_capped := goodIn_r _ [13, 14] rfl (by decide +kernel)
set_option maxRecDepth 20000 in
theorem gX11_heat_X12_capped_n75 : GoodIn wsX11_heat (wsX12_capped) := ggX11_heat_X12_capped
set_option maxRecDepth 20000 in
theorem ggX11_heat_X8_note : GoodIn wsX11_heat wsX8_note := goodIn_ca (goodIn_r _ [19, 20, 21, 22, 23, 24, 25, 26, 27, 41, 42, 43, 44] rfl (by decide +kernel)) (goodIn_sub (fun _ h => List.mem_cons_of_mem _ (List.mem_append_right _ h)) (by decide +kernel))
set_option maxRecDepth 20000 in
theorem gX11_heat_X8_note : GoodIn wsX11_heat (wsV RX11 60 RX8 yX8_note wsX8_note) := goodIn_app (goodIn_of _ (by decide +kernel)) ggX11_heat_X8_note
theorem dX11_heat_0 : decode cX11_heat 0 = .ok (.aload_n 0, 1) := by decide +kernel
theorem dX11_heat_1 : decode cX11_heat 1 = .ok (.getfield 12, 3) := by decide +kernel
theorem dX11_heat_4 : decode cX11_heat 4 = .ok (.iload_n 1, 1) := by decide +kernel
theorem dX11_heat_5 : decode cX11_heat 5 = .ok (.invokevirtual 68, 3) := by decide +kernel
theorem dX11_heat_8 : decode cX11_heat 8 = .ok (.ifCond .ne 5, 3) := by decide +kernel
theorem dX11_heat_11 : decode cX11_heat 11 = .ok (.iconst (-1), 1) := by decide +kernel
theorem dX11_heat_12 : decode cX11_heat 12 = .ok (.ireturn, 1) := by decide +kernel
theorem dX11_heat_13 : decode cX11_heat 13 = .ok (.iload_n 2, 1) := by decide +kernel
theorem dX11_heat_14 : decode cX11_heat 14 = .ok (.iconst 1, 1) := by decide +kernel
theorem dX11_heat_15 : decode cX11_heat 15 = .ok (.if_icmp .lt 10, 3) := by decide +kernel
theorem dX11_heat_18 : decode cX11_heat 18 = .ok (.iload_n 2, 1) := by decide +kernel
theorem dX11_heat_19 : decode cX11_heat 19 = .ok (.sipush 1000, 3) := by decide +kernel
theorem dX11_heat_22 : decode cX11_heat 22 = .ok (.if_icmp .le 6, 3) := by decide +kernel
theorem dX11_heat_25 : decode cX11_heat 25 = .ok (.bipush (-2), 2) := by decide +kernel
theorem dX11_heat_27 : decode cX11_heat 27 = .ok (.ireturn, 1) := by decide +kernel
theorem dX11_heat_28 : decode cX11_heat 28 = .ok (.aload_n 0, 1) := by decide +kernel
theorem dX11_heat_29 : decode cX11_heat 29 = .ok (.getfield 12, 3) := by decide +kernel
theorem dX11_heat_32 : decode cX11_heat 32 = .ok (.getfield 72, 3) := by decide +kernel
theorem dX11_heat_35 : decode cX11_heat 35 = .ok (.iload_n 1, 1) := by decide +kernel
theorem dX11_heat_36 : decode cX11_heat 36 = .ok (.aload_n 0, 1) := by decide +kernel
theorem dX11_heat_37 : decode cX11_heat 37 = .ok (.getfield 12, 3) := by decide +kernel
theorem dX11_heat_40 : decode cX11_heat 40 = .ok (.getfield 72, 3) := by decide +kernel
theorem dX11_heat_43 : decode cX11_heat 43 = .ok (.iload_n 1, 1) := by decide +kernel
theorem dX11_heat_44 : decode cX11_heat 44 = .ok (.faload, 1) := by decide +kernel
theorem dX11_heat_45 : decode cX11_heat 45 = .ok (.iload_n 2, 1) := by decide +kernel
theorem dX11_heat_46 : decode cX11_heat 46 = .ok (.i2f, 1) := by decide +kernel
theorem dX11_heat_47 : decode cX11_heat 47 = .ok (.fadd, 1) := by decide +kernel
theorem dX11_heat_48 : decode cX11_heat 48 = .ok (.invokestatic 75, 3) := by decide +kernel
theorem dX11_heat_51 : decode cX11_heat 51 = .ok (.fastore, 1) := by decide +kernel
theorem dX11_heat_52 : decode cX11_heat 52 = .ok (.aload_n 0, 1) := by decide +kernel
theorem dX11_heat_53 : decode cX11_heat 53 = .ok (.getfield 28, 3) := by decide +kernel
theorem dX11_heat_56 : decode cX11_heat 56 = .ok (.aload_n 0, 1) := by decide +kernel
theorem dX11_heat_57 : decode cX11_heat 57 = .ok (.getfield 36, 3) := by decide +kernel
theorem dX11_heat_60 : decode cX11_heat 60 = .ok (.bipush 101, 2) := by decide +kernel
theorem dX11_heat_62 : decode cX11_heat 62 = .ok (.invokevirtual 60, 3) := by decide +kernel
theorem dX11_heat_65 : decode cX11_heat 65 = .ok (.iload_n 1, 1) := by decide +kernel
theorem dX11_heat_66 : decode cX11_heat 66 = .ok (.ireturn, 1) := by decide +kernel
theorem dX11_bound_0 : decode cX11_bound 0 = .ok (.iload_n 1, 1) := by decide +kernel
theorem dX11_bound_1 : decode cX11_bound 1 = .ok (.iconst 1, 1) := by decide +kernel
theorem dX11_bound_2 : decode cX11_bound 2 = .ok (.if_icmp .lt 10, 3) := by decide +kernel
theorem dX11_bound_5 : decode cX11_bound 5 = .ok (.iload_n 1, 1) := by decide +kernel
theorem dX11_bound_6 : decode cX11_bound 6 = .ok (.sipush 9999, 3) := by decide +kernel
theorem dX11_bound_9 : decode cX11_bound 9 = .ok (.if_icmp .le 6, 3) := by decide +kernel
theorem dX11_bound_12 : decode cX11_bound 12 = .ok (.bipush (-2), 2) := by decide +kernel
theorem dX11_bound_14 : decode cX11_bound 14 = .ok (.ireturn, 1) := by decide +kernel
theorem dX11_bound_15 : decode cX11_bound 15 = .ok (.aload_n 0, 1) := by decide +kernel
theorem dX11_bound_16 : decode cX11_bound 16 = .ok (.getfield 32, 3) := by decide +kernel
theorem dX11_bound_19 : decode cX11_bound 19 = .ok (.istore_n 2, 1) := by decide +kernel
theorem dX11_bound_20 : decode cX11_bound 20 = .ok (.aload_n 0, 1) := by decide +kernel
theorem dX11_bound_21 : decode cX11_bound 21 = .ok (.iload_n 1, 1) := by decide +kernel
theorem dX11_bound_22 : decode cX11_bound 22 = .ok (.putfield 32, 3) := by decide +kernel
theorem dX11_bound_25 : decode cX11_bound 25 = .ok (.iload_n 2, 1) := by decide +kernel
theorem dX11_bound_26 : decode cX11_bound 26 = .ok (.ireturn, 1) := by decide +kernel
set_option maxRecDepth 20000 in
theorem ggX11_advance_X11_shift : GoodIn wsX11_advance wsX11_shift := goodIn_ca (goodIn_r _ [6, 7, 8, 9, 10, 11, 12, 13, 14, 15, 16, 17, 1, 18, 19, 20, 21, 5, 22, 23, 24, 25, 26, 27, 28, 29, 30, 31, 32, 33, 34, 35, 36, 37, 38, 39, 40, 41, 42, 43, 44, 45, 46, 47, 48, 49, 50, 51, 52, 53, 54, 55, 56, 57, 58, 59, 60, 61, 62, 63, 64, 65, 66, 67, 68, 69, 70, 71, 72, 73, 74, 75, 76, 77, 78, 79, 80, 81, 82, 83, 84, 85, 86, 87, 88, 89, 90] rfl (by decide +kernel)) (goodIn_sub (fun _ h => List.mem_cons_of_mem _ (List.mem_append_right _ h)) (by decide +kernel))
set_option maxRecDepth 20000 in
theorem gX11_advance_X11_shift : GoodIn wsX11_advance (wsV RX11 79 RX11 yX11_shift wsX11_shift) := goodIn_app (goodIn_of _ (by decide +kernel)) ggX11_advance_X11_shift
theorem dX11_advance_0 : decode cX11_advance 0 = .ok (.iload_n 1, 1) := by decide +kernel
theorem dX11_advance_1 : decode cX11_advance 1 = .ok (.iconst 1, 1) := by decide +kernel
theorem dX11_advance_2 : decode cX11_advance 2 = .ok (.if_icmp .lt 9, 3) := by decide +kernel
theorem dX11_advance_5 : decode cX11_advance 5 = .ok (.iload_n 1, 1) := by decide +kernel
theorem dX11_advance_6 : decode cX11_advance 6 = .ok (.bipush 20, 2) := by decide +kernel
theorem dX11_advance_8 : decode cX11_advance 8 = .ok (.if_icmp .le 6, 3) := by decide +kernel
theorem dX11_advance_11 : decode cX11_advance 11 = .ok (.bipush (-2), 2) := by decide +kernel
theorem dX11_advance_13 : decode cX11_advance 13 = .ok (.ireturn, 1) := by decide +kernel
theorem dX11_advance_14 : decode cX11_advance 14 = .ok (.aload_n 0, 1) := by decide +kernel
theorem dX11_advance_15 : decode cX11_advance 15 = .ok (.getfield 39, 3) := by decide +kernel
theorem dX11_advance_18 : decode cX11_advance 18 = .ok (.istore_n 2, 1) := by decide +kernel
theorem dX11_advance_19 : decode cX11_advance 19 = .ok (.iconst 0, 1) := by decide +kernel
theorem dX11_advance_20 : decode cX11_advance 20 = .ok (.istore_n 3, 1) := by decide +kernel
theorem dX11_advance_21 : decode cX11_advance 21 = .ok (.iload_n 3, 1) := by decide +kernel
theorem dX11_advance_22 : decode cX11_advance 22 = .ok (.iload_n 1, 1) := by decide +kernel
theorem dX11_advance_23 : decode cX11_advance 23 = .ok (.if_icmp .ge 13, 3) := by decide +kernel
theorem dX11_advance_26 : decode cX11_advance 26 = .ok (.aload_n 0, 1) := by decide +kernel
theorem dX11_advance_27 : decode cX11_advance 27 = .ok (.invokevirtual 79, 3) := by decide +kernel
theorem dX11_advance_30 : decode cX11_advance 30 = .ok (.iinc 3 1, 3) := by decide +kernel
theorem dX11_advance_33 : decode cX11_advance 33 = .ok (.goto (-12), 3) := by decide +kernel
theorem dX11_advance_36 : decode cX11_advance 36 = .ok (.aload_n 0, 1) := by decide +kernel
theorem dX11_advance_37 : decode cX11_advance 37 = .ok (.getfield 39, 3) := by decide +kernel
theorem dX11_advance_40 : decode cX11_advance 40 = .ok (.iload_n 2, 1) := by decide +kernel
theorem dX11_advance_41 : decode cX11_advance 41 = .ok (.isub, 1) := by decide +kernel
theorem dX11_advance_42 : decode cX11_advance 42 = .ok (.ireturn, 1) := by decide +kernel
set_option maxRecDepth 20000 in
theorem ggX11_shift_X11_nextFlux : GoodIn wsX11_shift wsX11_nextFlux := goodIn_ca (goodIn_r _ [18, 2, 5, 19, 3, 20, 21, 11, 22, 23, 24, 25, 26, 27, 28, 29, 30, 31, 32, 33, 34, 35, 36, 37, 38, 68, 69, 70, 71, 72, 73, 74, 75, 76, 77, 78, 79, 80, 81, 82] rfl (by decide +kernel)) (goodIn_sub (fun _ h => List.mem_cons_of_mem _ (List.mem_append_right _ h)) (by decide +kernel))
set_option maxRecDepth 20000 in
theorem gX11_shift_X11_nextFlux : GoodIn wsX11_shift (wsV RX11 85 RX11 yX11_nextFlux wsX11_nextFlux) := goodIn_app (goodIn_of _ (by decide +kernel)) ggX11_shift_X11_nextFlux
set_option maxRecDepth 20000 in
theorem ggX11_shift_X5_sumOfFluxes : GoodIn wsX11_shift wsX5_sumOfFluxes := goodIn_ca (goodIn_r _ [43, 44, 45, 75, 76, 77, 78, 79, 80] rfl (by decide +kernel)) (goodIn_sub (fun _ h => List.mem_cons_of_mem _ (List.mem_append_right _ h)) (by decide +kernel))
set_option maxRecDepth 20000 in
theorem gX11_shift_X5_sumOfFluxes : GoodIn wsX11_shift (wsV RX11 95 RX5 yX5_sumOfFluxes wsX5_sumOfFluxes) := goodIn_app (goodIn_of _ (by decide +kernel)) ggX11_shift_X5_sumOfFluxes
set_option maxRecDepth 20000 in
theorem ggX11_shift_X10_fill : GoodIn wsX11_shift wsX10_fill := goodIn_ca (goodIn_r _ [49, 32, 50, 51, 52, 30, 53, 54, 81, 82] rfl (by decide +kernel)) (goodIn_sub (fun _ h => List.mem_cons_of_mem _ (List.mem_append_right _ h)) (by decide +kernel))
set_option maxRecDepth 20000 in
theorem gX11_shift_X10_fill : GoodIn wsX11_shift (wsV RX11 99 RX10 yX10_fill wsX10_fill) := goodIn_app (goodIn_of _ (by decide +kernel)) ggX11_shift_X10_fill
set_option maxRecDepth 20000 in
theorem ggX11_shift_X8_note : GoodIn wsX11_shift wsX8_note := goodIn_ca (goodIn_r _ [59, 60, 61, 62, 63, 64, 65, 66, 67, 83, 84, 85, 86] rfl (by decide +kernel)) (goodIn_sub (fun _ h => List.mem_cons_of_mem _ (List.mem_append_right _ h)) (by decide +kernel))
set_option maxRecDepth 20000 in
theorem gX11_shift_X8_note : GoodIn wsX11_shift (wsV RX11 60 RX8 yX8_note wsX8_note) := goodIn_app (goodIn_of _ (by decide +kernel)) ggX11_shift_X8_note
theorem dX11_shift_0 : decode cX11_shift 0 = .ok (.aload_n 0, 1) := by decide +kernel
theorem dX11_shift_1 : decode cX11_shift 1 = .ok (.dup, 1) := by decide +kernel
theorem dX11_shift_2 : decode cX11_shift 2 = .ok (.getfield 36, 3) := by decide +kernel
theorem dX11_shift_5 : decode cX11_shift 5 = .ok (.iconst 1, 1) := by decide +kernel
theorem dX11_shift_6 : decode cX11_shift 6 = .ok (.iadd, 1) := by decide +kernel
theorem dX11_shift_7 : decode cX11_shift 7 = .ok (.putfield 36, 3) := by decide +kernel
theorem dX11_shift_10 : decode cX11_shift 10 = .ok (.iconst 0, 1) := by decide +kernel
theorem dX11_shift_11 : decode cX11_shift 11 = .ok (.istore_n 1, 1) := by decide +kernel
theorem dX11_shift_12 : decode cX11_shift 12 = .ok (.iload_n 1, 1) := by decide +kernel
theorem dX11_shift_13 : decode cX11_shift 13 = .ok (.aload_n 0, 1) := by decide +kernel
theorem dX11_shift_14 : decode cX11_shift 14 = .ok (.getfield 12, 3) := by decide +kernel
theorem dX11_shift_17 : decode cX11_shift 17 = .ok (.getfield 82, 3) := by decide +kernel
theorem dX11_shift_20 : decode cX11_shift 20 = .ok (.if_icmp .ge 20, 3) := by decide +kernel
theorem dX11_shift_23 : decode cX11_shift 23 = .ok (.aload_n 0, 1) := by decide +kernel
theorem dX11_shift_24 : decode cX11_shift 24 = .ok (.getfield 42, 3) := by decide +kernel
theorem dX11_shift_27 : decode cX11_shift 27 = .ok (.iload_n 1, 1) := by decide +kernel
theorem dX11_shift_28 : decode cX11_shift 28 = .ok (.aload_n 0, 1) := by decide +kernel
theorem dX11_shift_29 : decode cX11_shift 29 = .ok (.iload_n 1, 1) := by decide +kernel
theorem dX11_shift_30 : decode cX11_shift 30 = .ok (.invokevirtual 85, 3) := by decide +kernel
theorem dX11_shift_33 : decode cX11_shift 33 = .ok (.fastore, 1) := by decide +kernel
theorem dX11_shift_34 : decode cX11_shift 34 = .ok (.iinc 1 1, 3) := by decide +kernel
theorem dX11_shift_37 : decode cX11_shift 37 = .ok (.goto (-25), 3) := by decide +kernel
theorem dX11_shift_40 : decode cX11_shift 40 = .ok (.aload_n 0, 1) := by decide +kernel
theorem dX11_shift_41 : decode cX11_shift 41 = .ok (.getfield 42, 3) := by decide +kernel
theorem dX11_shift_44 : decode cX11_shift 44 = .ok (.iconst 0, 1) := by decide +kernel
theorem dX11_shift_45 : decode cX11_shift 45 = .ok (.aload_n 0, 1) := by decide +kernel
theorem dX11_shift_46 : decode cX11_shift 46 = .ok (.getfield 12, 3) := by decide +kernel
theorem dX11_shift_49 : decode cX11_shift 49 = .ok (.getfield 72, 3) := by decide +kernel
theorem dX11_shift_52 : decode cX11_shift 52 = .ok (.iconst 0, 1) := by decide +kernel
theorem dX11_shift_53 : decode cX11_shift 53 = .ok (.aload_n 0, 1) := by decide +kernel
theorem dX11_shift_54 : decode cX11_shift 54 = .ok (.getfield 12, 3) := by decide +kernel
theorem dX11_shift_57 : decode cX11_shift 57 = .ok (.getfield 82, 3) := by decide +kernel
theorem dX11_shift_60 : decode cX11_shift 60 = .ok (.invokestatic 89, 3) := by decide +kernel
theorem dX11_shift_63 : decode cX11_shift 63 = .ok (.aload_n 0, 1) := by decide +kernel
theorem dX11_shift_64 : decode cX11_shift 64 = .ok (.getfield 12, 3) := by decide +kernel
theorem dX11_shift_67 : decode cX11_shift 67 = .ok (.invokevirtual 95, 3) := by decide +kernel
theorem dX11_shift_70 : decode cX11_shift 70 = .ok (.aload_n 0, 1) := by decide +kernel
theorem dX11_shift_71 : decode cX11_shift 71 = .ok (.getfield 32, 3) := by decide +kernel
theorem dX11_shift_74 : decode cX11_shift 74 = .ok (.i2f, 1) := by decide +kernel
theorem dX11_shift_75 : decode cX11_shift 75 = .ok (.fcmp .l, 1) := by decide +kernel
theorem dX11_shift_76 : decode cX11_shift 76 = .ok (.ifCond .le 33, 3) := by decide +kernel
theorem dX11_shift_79 : decode cX11_shift 79 = .ok (.aload_n 0, 1) := by decide +kernel
theorem dX11_shift_80 : decode cX11_shift 80 = .ok (.getfield 21, 3) := by decide +kernel
theorem dX11_shift_83 : decode cX11_shift 83 = .ok (.invokevirtual 99, 3) := by decide +kernel
theorem dX11_shift_86 : decode cX11_shift 86 = .ok (.aload_n 0, 1) := by decide +kernel
theorem dX11_shift_87 : decode cX11_shift 87 = .ok (.dup, 1) := by decide +kernel
theorem dX11_shift_88 : decode cX11_shift 88 = .ok (.getfield 39, 3) := by decide +kernel
theorem dX11_shift_91 : decode cX11_shift 91 = .ok (.iconst 1, 1) := by decide +kernel
theorem dX11_shift_92 : decode cX11_shift 92 = .ok (.iadd, 1) := by decide +kernel
theorem dX11_shift_93 : decode cX11_shift 93 = .ok (.putfield 39, 3) := by decide +kernel
theorem dX11_shift_96 : decode cX11_shift 96 = .ok (.aload_n 0, 1) := by decide +kernel
theorem dX11_shift_97 : decode cX11_shift 97 = .ok (.getfield 28, 3) := by decide +kernel
theorem dX11_shift_100 : decode cX11_shift 100 = .ok (.aload_n 0, 1) := by decide +kernel
theorem dX11_shift_101 : decode cX11_shift 101 = .ok (.getfield 36, 3) := by decide +kernel
theorem dX11_shift_104 : decode cX11_shift 104 = .ok (.bipush 115, 2) := by decide +kernel
theorem dX11_shift_106 : decode cX11_shift 106 = .ok (.invokevirtual 60, 3) := by decide +kernel
theorem dX11_shift_109 : decode cX11_shift 109 = .ok (.return_, 1) := by decide +kernel
set_option maxRecDepth 20000 in
theorem ggX11_nextFlux_X12_contains : GoodIn wsX11_nextFlux wsX12_contains := goodIn_r _ [12] rfl (by decide +kernel)
set_option maxRecDepth 20000 in
theorem gX11_nextFlux_X12_contains_n107 : GoodIn wsX11_nextFlux (wsX12_contains) := ggX11_nextFlux_X12_contains
set_option maxRecDepth 20000 in
theorem ggX11_nextFlux_X10_depth : GoodIn wsX11_nextFlux wsX10_depth := goodIn_ca (goodIn_r _ [17, 18, 19, 20, 16, 21, 38, 39] rfl (by decide +kernel)) (goodIn_sub (fun _ h => List.mem_cons_of_mem _ (List.mem_append_right _ h)) (by decide +kernel))
set_option maxRecDepth 20000 in
theorem gX11_nextFlux_X10_depth : GoodIn wsX11_nextFlux (wsV RX11 115 RX10 yX10_depth wsX10_depth) := goodIn_app (goodIn_of _ (by decide +kernel)) ggX11_nextFlux_X10_depth
set_option maxRecDepth 20000 in
theorem ggX11_nextFlux_X12_capped : GoodIn wsX11_nextFlux wsX12_capped := goodIn_r _ [23, 24] rfl (by decide +kernel)
set_option maxRecDepth 20000 in
theorem gX11_nextFlux_X12_capped_n75 : GoodIn wsX11_nextFlux (wsX12_capped) := ggX11_nextFlux_X12_capped
theorem dX11_nextFlux_0 : decode cX11_nextFlux 0 = .ok (.aload_n 0, 1) := by decide +kernel
theorem dX11_nextFlux_1 : decode cX11_nextFlux 1 = .ok (.getfield 12, 3) := by decide +kernel
theorem dX11_nextFlux_4 : decode cX11_nextFlux 4 = .ok (.getfield 72, 3) := by decide +kernel
theorem dX11_nextFlux_7 : decode cX11_nextFlux 7 = .ok (.iload_n 1, 1) := by decide +kernel
theorem dX11_nextFlux_8 : decode cX11_nextFlux 8 = .ok (.faload, 1) := by decide +kernel
theorem dX11_nextFlux_9 : decode cX11_nextFlux 9 = .ok (.ldc 102, 2) := by decide +kernel
theorem dX11_nextFlux_11 : decode cX11_nextFlux 11 = .ok (.fmul, 1) := by decide +kernel
theorem dX11_nextFlux_12 : decode cX11_nextFlux 12 = .ok (.fstore_n 2, 1) := by decide +kernel
theorem dX11_nextFlux_13 : decode cX11_nextFlux 13 = .ok (.iconst 0, 1) := by decide +kernel
theorem dX11_nextFlux_14 : decode cX11_nextFlux 14 = .ok (.istore_n 3, 1) := by decide +kernel
theorem dX11_nextFlux_15 : decode cX11_nextFlux 15 = .ok (.iload_n 3, 1) := by decide +kernel
theorem dX11_nextFlux_16 : decode cX11_nextFlux 16 = .ok (.aload_n 0, 1) := by decide +kernel
theorem dX11_nextFlux_17 : decode cX11_nextFlux 17 = .ok (.getfield 12, 3) := by decide +kernel
theorem dX11_nextFlux_20 : decode cX11_nextFlux 20 = .ok (.getfield 82, 3) := by decide +kernel
theorem dX11_nextFlux_23 : decode cX11_nextFlux 23 = .ok (.if_icmp .ge 40, 3) := by decide +kernel
theorem dX11_nextFlux_26 : decode cX11_nextFlux 26 = .ok (.aload_n 0, 1) := by decide +kernel
theorem dX11_nextFlux_27 : decode cX11_nextFlux 27 = .ok (.getfield 12, 3) := by decide +kernel
theorem dX11_nextFlux_30 : decode cX11_nextFlux 30 = .ok (.getfield 103, 3) := by decide +kernel
theorem dX11_nextFlux_33 : decode cX11_nextFlux 33 = .ok (.iload_n 1, 1) := by decide +kernel
theorem dX11_nextFlux_34 : decode cX11_nextFlux 34 = .ok (.iaload, 1) := by decide +kernel
theorem dX11_nextFlux_35 : decode cX11_nextFlux 35 = .ok (.iload_n 3, 1) := by decide +kernel
theorem dX11_nextFlux_36 : decode cX11_nextFlux 36 = .ok (.invokestatic 107, 3) := by decide +kernel
theorem dX11_nextFlux_39 : decode cX11_nextFlux 39 = .ok (.ifCond .eq 18, 3) := by decide +kernel
theorem dX11_nextFlux_42 : decode cX11_nextFlux 42 = .ok (.fload_n 2, 1) := by decide +kernel
theorem dX11_nextFlux_43 : decode cX11_nextFlux 43 = .ok (.aload_n 0, 1) := by decide +kernel
theorem dX11_nextFlux_44 : decode cX11_nextFlux 44 = .ok (.getfield 12, 3) := by decide +kernel
theorem dX11_nextFlux_47 : decode cX11_nextFlux 47 = .ok (.getfield 72, 3) := by decide +kernel
theorem dX11_nextFlux_50 : decode cX11_nextFlux 50 = .ok (.iload_n 3, 1) := by decide +kernel
theorem dX11_nextFlux_51 : decode cX11_nextFlux 51 = .ok (.faload, 1) := by decide +kernel
theorem dX11_nextFlux_52 : decode cX11_nextFlux 52 = .ok (.ldc 111, 2) := by decide +kernel
theorem dX11_nextFlux_54 : decode cX11_nextFlux 54 = .ok (.fmul, 1) := by decide +kernel
theorem dX11_nextFlux_55 : decode cX11_nextFlux 55 = .ok (.fadd, 1) := by decide +kernel
theorem dX11_nextFlux_56 : decode cX11_nextFlux 56 = .ok (.fstore_n 2, 1) := by decide +kernel
theorem dX11_nextFlux_57 : decode cX11_nextFlux 57 = .ok (.iinc 3 1, 3) := by decide +kernel
theorem dX11_nextFlux_60 : decode cX11_nextFlux 60 = .ok (.goto (-45), 3) := by decide +kernel
theorem dX11_nextFlux_63 : decode cX11_nextFlux 63 = .ok (.bipush 10, 2) := by decide +kernel
theorem dX11_nextFlux_65 : decode cX11_nextFlux 65 = .ok (.aload_n 0, 1) := by decide +kernel
theorem dX11_nextFlux_66 : decode cX11_nextFlux 66 = .ok (.getfield 21, 3) := by decide +kernel
theorem dX11_nextFlux_69 : decode cX11_nextFlux 69 = .ok (.aload_n 0, 1) := by decide +kernel
theorem dX11_nextFlux_70 : decode cX11_nextFlux 70 = .ok (.getfield 12, 3) := by decide +kernel
theorem dX11_nextFlux_73 : decode cX11_nextFlux 73 = .ok (.getfield 112, 3) := by decide +kernel
theorem dX11_nextFlux_76 : decode cX11_nextFlux 76 = .ok (.iload_n 1, 1) := by decide +kernel
theorem dX11_nextFlux_77 : decode cX11_nextFlux 77 = .ok (.iaload, 1) := by decide +kernel
theorem dX11_nextFlux_78 : decode cX11_nextFlux 78 = .ok (.invokevirtual 115, 3) := by decide +kernel
theorem dX11_nextFlux_81 : decode cX11_nextFlux 81 = .ok (.isub, 1) := by decide +kernel
theorem dX11_nextFlux_82 : decode cX11_nextFlux 82 = .ok (.i2f, 1) := by decide +kernel
theorem dX11_nextFlux_83 : decode cX11_nextFlux 83 = .ok (.fstore_n 3, 1) := by decide +kernel
theorem dX11_nextFlux_84 : decode cX11_nextFlux 84 = .ok (.fload_n 2, 1) := by decide +kernel
theorem dX11_nextFlux_85 : decode cX11_nextFlux 85 = .ok (.fload_n 3, 1) := by decide +kernel
theorem dX11_nextFlux_86 : decode cX11_nextFlux 86 = .ok (.fmul, 1) := by decide +kernel
theorem dX11_nextFlux_87 : decode cX11_nextFlux 87 = .ok (.ldc 119, 2) := by decide +kernel
theorem dX11_nextFlux_89 : decode cX11_nextFlux 89 = .ok (.fdiv, 1) := by decide +kernel
theorem dX11_nextFlux_90 : decode cX11_nextFlux 90 = .ok (.invokestatic 75, 3) := by decide +kernel
theorem dX11_nextFlux_93 : decode cX11_nextFlux 93 = .ok (.freturn, 1) := by decide +kernel
