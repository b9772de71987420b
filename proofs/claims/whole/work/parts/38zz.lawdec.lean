/-! The wrappers: what their instructions are. -/
theorem dL_addClaim_0 : decode cL_addClaim 0 = .ok (.aload_n 2, 1) := by decide +kernel
theorem dL_addClaim_1 : decode cL_addClaim 1 = .ok (.iconst 0, 1) := by decide +kernel
theorem dL_addClaim_2 : decode cL_addClaim 2 = .ok (.aload_n 0, 1) := by decide +kernel
theorem dL_addClaim_3 : decode cL_addClaim 3 = .ok (.iload_n 1, 1) := by decide +kernel
theorem dL_addClaim_4 : decode cL_addClaim 4 = .ok (.invokevirtual 7, 3) := by decide +kernel
theorem dL_addClaim_7 : decode cL_addClaim 7 = .ok (.i2l, 1) := by decide +kernel
theorem dL_addClaim_8 : decode cL_addClaim 8 = .ok (.lastore, 1) := by decide +kernel
theorem dL_addClaim_9 : decode cL_addClaim 9 = .ok (.goto 9, 3) := by decide +kernel
theorem dL_addClaim_12 : decode cL_addClaim 12 = .ok (.astore_n 3, 1) := by decide +kernel
theorem dL_addClaim_13 : decode cL_addClaim 13 = .ok (.iconst 1, 1) := by decide +kernel
theorem dL_addClaim_14 : decode cL_addClaim 14 = .ok (.ireturn, 1) := by decide +kernel
theorem dL_addClaim_15 : decode cL_addClaim 15 = .ok (.astore_n 3, 1) := by decide +kernel
theorem dL_addClaim_16 : decode cL_addClaim 16 = .ok (.iconst 2, 1) := by decide +kernel
theorem dL_addClaim_17 : decode cL_addClaim 17 = .ok (.ireturn, 1) := by decide +kernel
theorem dL_addClaim_18 : decode cL_addClaim 18 = .ok (.iconst 0, 1) := by decide +kernel
theorem dL_addClaim_19 : decode cL_addClaim 19 = .ok (.ireturn, 1) := by decide +kernel
theorem dL_setAttack_0 : decode cL_setAttack 0 = .ok (.aload 4, 2) := by decide +kernel
theorem dL_setAttack_2 : decode cL_setAttack 2 = .ok (.iconst 0, 1) := by decide +kernel
theorem dL_setAttack_3 : decode cL_setAttack 3 = .ok (.aload_n 0, 1) := by decide +kernel
theorem dL_setAttack_4 : decode cL_setAttack 4 = .ok (.iload_n 1, 1) := by decide +kernel
theorem dL_setAttack_5 : decode cL_setAttack 5 = .ok (.iload_n 2, 1) := by decide +kernel
theorem dL_setAttack_6 : decode cL_setAttack 6 = .ok (.iload_n 3, 1) := by decide +kernel
theorem dL_setAttack_7 : decode cL_setAttack 7 = .ok (.invokevirtual 17, 3) := by decide +kernel
theorem dL_setAttack_10 : decode cL_setAttack 10 = .ok (.ifCond .eq 7, 3) := by decide +kernel
theorem dL_setAttack_13 : decode cL_setAttack 13 = .ok (.lconst 1, 1) := by decide +kernel
theorem dL_setAttack_14 : decode cL_setAttack 14 = .ok (.goto 4, 3) := by decide +kernel
theorem dL_setAttack_17 : decode cL_setAttack 17 = .ok (.lconst 0, 1) := by decide +kernel
theorem dL_setAttack_18 : decode cL_setAttack 18 = .ok (.lastore, 1) := by decide +kernel
theorem dL_setAttack_19 : decode cL_setAttack 19 = .ok (.goto 7, 3) := by decide +kernel
theorem dL_setAttack_22 : decode cL_setAttack 22 = .ok (.astore 5, 2) := by decide +kernel
theorem dL_setAttack_24 : decode cL_setAttack 24 = .ok (.iconst 1, 1) := by decide +kernel
theorem dL_setAttack_25 : decode cL_setAttack 25 = .ok (.ireturn, 1) := by decide +kernel
theorem dL_setAttack_26 : decode cL_setAttack 26 = .ok (.iconst 0, 1) := by decide +kernel
theorem dL_setAttack_27 : decode cL_setAttack 27 = .ok (.ireturn, 1) := by decide +kernel
theorem dL_setLayer_0 : decode cL_setLayer 0 = .ok (.aload_n 3, 1) := by decide +kernel
theorem dL_setLayer_1 : decode cL_setLayer 1 = .ok (.iconst 0, 1) := by decide +kernel
theorem dL_setLayer_2 : decode cL_setLayer 2 = .ok (.aload_n 0, 1) := by decide +kernel
theorem dL_setLayer_3 : decode cL_setLayer 3 = .ok (.iload_n 1, 1) := by decide +kernel
theorem dL_setLayer_4 : decode cL_setLayer 4 = .ok (.iload_n 2, 1) := by decide +kernel
theorem dL_setLayer_5 : decode cL_setLayer 5 = .ok (.invokevirtual 23, 3) := by decide +kernel
theorem dL_setLayer_8 : decode cL_setLayer 8 = .ok (.i2l, 1) := by decide +kernel
theorem dL_setLayer_9 : decode cL_setLayer 9 = .ok (.lastore, 1) := by decide +kernel
theorem dL_setLayer_10 : decode cL_setLayer 10 = .ok (.goto 7, 3) := by decide +kernel
theorem dL_setLayer_13 : decode cL_setLayer 13 = .ok (.astore 4, 2) := by decide +kernel
theorem dL_setLayer_15 : decode cL_setLayer 15 = .ok (.iconst 1, 1) := by decide +kernel
theorem dL_setLayer_16 : decode cL_setLayer 16 = .ok (.ireturn, 1) := by decide +kernel
theorem dL_setLayer_17 : decode cL_setLayer 17 = .ok (.iconst 0, 1) := by decide +kernel
theorem dL_setLayer_18 : decode cL_setLayer 18 = .ok (.ireturn, 1) := by decide +kernel
theorem dL_weightOf_0 : decode cL_weightOf 0 = .ok (.aload_n 2, 1) := by decide +kernel
theorem dL_weightOf_1 : decode cL_weightOf 1 = .ok (.iconst 0, 1) := by decide +kernel
theorem dL_weightOf_2 : decode cL_weightOf 2 = .ok (.aload_n 0, 1) := by decide +kernel
theorem dL_weightOf_3 : decode cL_weightOf 3 = .ok (.iload_n 1, 1) := by decide +kernel
theorem dL_weightOf_4 : decode cL_weightOf 4 = .ok (.invokevirtual 27, 3) := by decide +kernel
theorem dL_weightOf_7 : decode cL_weightOf 7 = .ok (.i2l, 1) := by decide +kernel
theorem dL_weightOf_8 : decode cL_weightOf 8 = .ok (.lastore, 1) := by decide +kernel
theorem dL_weightOf_9 : decode cL_weightOf 9 = .ok (.goto 6, 3) := by decide +kernel
theorem dL_weightOf_12 : decode cL_weightOf 12 = .ok (.astore_n 3, 1) := by decide +kernel
theorem dL_weightOf_13 : decode cL_weightOf 13 = .ok (.iconst 1, 1) := by decide +kernel
theorem dL_weightOf_14 : decode cL_weightOf 14 = .ok (.ireturn, 1) := by decide +kernel
theorem dL_weightOf_15 : decode cL_weightOf 15 = .ok (.iconst 0, 1) := by decide +kernel
theorem dL_weightOf_16 : decode cL_weightOf 16 = .ok (.ireturn, 1) := by decide +kernel
theorem dL_layerOf_0 : decode cL_layerOf 0 = .ok (.aload_n 2, 1) := by decide +kernel
theorem dL_layerOf_1 : decode cL_layerOf 1 = .ok (.iconst 0, 1) := by decide +kernel
theorem dL_layerOf_2 : decode cL_layerOf 2 = .ok (.aload_n 0, 1) := by decide +kernel
theorem dL_layerOf_3 : decode cL_layerOf 3 = .ok (.iload_n 1, 1) := by decide +kernel
theorem dL_layerOf_4 : decode cL_layerOf 4 = .ok (.invokevirtual 30, 3) := by decide +kernel
theorem dL_layerOf_7 : decode cL_layerOf 7 = .ok (.i2l, 1) := by decide +kernel
theorem dL_layerOf_8 : decode cL_layerOf 8 = .ok (.lastore, 1) := by decide +kernel
theorem dL_layerOf_9 : decode cL_layerOf 9 = .ok (.goto 6, 3) := by decide +kernel
theorem dL_layerOf_12 : decode cL_layerOf 12 = .ok (.astore_n 3, 1) := by decide +kernel
theorem dL_layerOf_13 : decode cL_layerOf 13 = .ok (.iconst 1, 1) := by decide +kernel
theorem dL_layerOf_14 : decode cL_layerOf 14 = .ok (.ireturn, 1) := by decide +kernel
theorem dL_layerOf_15 : decode cL_layerOf 15 = .ok (.iconst 0, 1) := by decide +kernel
theorem dL_layerOf_16 : decode cL_layerOf 16 = .ok (.ireturn, 1) := by decide +kernel
theorem dL_attacks_0 : decode cL_attacks 0 = .ok (.aload_n 3, 1) := by decide +kernel
theorem dL_attacks_1 : decode cL_attacks 1 = .ok (.iconst 0, 1) := by decide +kernel
theorem dL_attacks_2 : decode cL_attacks 2 = .ok (.aload_n 0, 1) := by decide +kernel
theorem dL_attacks_3 : decode cL_attacks 3 = .ok (.iload_n 1, 1) := by decide +kernel
theorem dL_attacks_4 : decode cL_attacks 4 = .ok (.iload_n 2, 1) := by decide +kernel
theorem dL_attacks_5 : decode cL_attacks 5 = .ok (.invokevirtual 33, 3) := by decide +kernel
theorem dL_attacks_8 : decode cL_attacks 8 = .ok (.ifCond .eq 7, 3) := by decide +kernel
theorem dL_attacks_11 : decode cL_attacks 11 = .ok (.lconst 1, 1) := by decide +kernel
theorem dL_attacks_12 : decode cL_attacks 12 = .ok (.goto 4, 3) := by decide +kernel
theorem dL_attacks_15 : decode cL_attacks 15 = .ok (.lconst 0, 1) := by decide +kernel
theorem dL_attacks_16 : decode cL_attacks 16 = .ok (.lastore, 1) := by decide +kernel
theorem dL_attacks_17 : decode cL_attacks 17 = .ok (.goto 7, 3) := by decide +kernel
theorem dL_attacks_20 : decode cL_attacks 20 = .ok (.astore 4, 2) := by decide +kernel
theorem dL_attacks_22 : decode cL_attacks 22 = .ok (.iconst 1, 1) := by decide +kernel
theorem dL_attacks_23 : decode cL_attacks 23 = .ok (.ireturn, 1) := by decide +kernel
theorem dL_attacks_24 : decode cL_attacks 24 = .ok (.iconst 0, 1) := by decide +kernel
theorem dL_attacks_25 : decode cL_attacks 25 = .ok (.ireturn, 1) := by decide +kernel
theorem dL_isRejected_0 : decode cL_isRejected 0 = .ok (.aload_n 2, 1) := by decide +kernel
theorem dL_isRejected_1 : decode cL_isRejected 1 = .ok (.iconst 0, 1) := by decide +kernel
theorem dL_isRejected_2 : decode cL_isRejected 2 = .ok (.aload_n 0, 1) := by decide +kernel
theorem dL_isRejected_3 : decode cL_isRejected 3 = .ok (.iload_n 1, 1) := by decide +kernel
theorem dL_isRejected_4 : decode cL_isRejected 4 = .ok (.invokevirtual 37, 3) := by decide +kernel
theorem dL_isRejected_7 : decode cL_isRejected 7 = .ok (.ifCond .eq 7, 3) := by decide +kernel
theorem dL_isRejected_10 : decode cL_isRejected 10 = .ok (.lconst 1, 1) := by decide +kernel
theorem dL_isRejected_11 : decode cL_isRejected 11 = .ok (.goto 4, 3) := by decide +kernel
theorem dL_isRejected_14 : decode cL_isRejected 14 = .ok (.lconst 0, 1) := by decide +kernel
theorem dL_isRejected_15 : decode cL_isRejected 15 = .ok (.lastore, 1) := by decide +kernel
theorem dL_isRejected_16 : decode cL_isRejected 16 = .ok (.goto 6, 3) := by decide +kernel
theorem dL_isRejected_19 : decode cL_isRejected 19 = .ok (.astore_n 3, 1) := by decide +kernel
theorem dL_isRejected_20 : decode cL_isRejected 20 = .ok (.iconst 1, 1) := by decide +kernel
theorem dL_isRejected_21 : decode cL_isRejected 21 = .ok (.ireturn, 1) := by decide +kernel
theorem dL_isRejected_22 : decode cL_isRejected 22 = .ok (.iconst 0, 1) := by decide +kernel
theorem dL_isRejected_23 : decode cL_isRejected 23 = .ok (.ireturn, 1) := by decide +kernel
theorem dL_isPosition_0 : decode cL_isPosition 0 = .ok (.aload_n 2, 1) := by decide +kernel
theorem dL_isPosition_1 : decode cL_isPosition 1 = .ok (.iconst 0, 1) := by decide +kernel
theorem dL_isPosition_2 : decode cL_isPosition 2 = .ok (.aload_n 0, 1) := by decide +kernel
theorem dL_isPosition_3 : decode cL_isPosition 3 = .ok (.iload_n 1, 1) := by decide +kernel
theorem dL_isPosition_4 : decode cL_isPosition 4 = .ok (.invokevirtual 41, 3) := by decide +kernel
theorem dL_isPosition_7 : decode cL_isPosition 7 = .ok (.ifCond .eq 7, 3) := by decide +kernel
theorem dL_isPosition_10 : decode cL_isPosition 10 = .ok (.lconst 1, 1) := by decide +kernel
theorem dL_isPosition_11 : decode cL_isPosition 11 = .ok (.goto 4, 3) := by decide +kernel
theorem dL_isPosition_14 : decode cL_isPosition 14 = .ok (.lconst 0, 1) := by decide +kernel
theorem dL_isPosition_15 : decode cL_isPosition 15 = .ok (.lastore, 1) := by decide +kernel
theorem dL_isPosition_16 : decode cL_isPosition 16 = .ok (.goto 6, 3) := by decide +kernel
theorem dL_isPosition_19 : decode cL_isPosition 19 = .ok (.astore_n 3, 1) := by decide +kernel
theorem dL_isPosition_20 : decode cL_isPosition 20 = .ok (.iconst 1, 1) := by decide +kernel
theorem dL_isPosition_21 : decode cL_isPosition 21 = .ok (.ireturn, 1) := by decide +kernel
theorem dL_isPosition_22 : decode cL_isPosition 22 = .ok (.iconst 0, 1) := by decide +kernel
theorem dL_isPosition_23 : decode cL_isPosition 23 = .ok (.ireturn, 1) := by decide +kernel
theorem dL_circleSize_0 : decode cL_circleSize 0 = .ok (.aload_n 2, 1) := by decide +kernel
theorem dL_circleSize_1 : decode cL_circleSize 1 = .ok (.iconst 0, 1) := by decide +kernel
theorem dL_circleSize_2 : decode cL_circleSize 2 = .ok (.aload_n 0, 1) := by decide +kernel
theorem dL_circleSize_3 : decode cL_circleSize 3 = .ok (.iload_n 1, 1) := by decide +kernel
theorem dL_circleSize_4 : decode cL_circleSize 4 = .ok (.invokevirtual 44, 3) := by decide +kernel
theorem dL_circleSize_7 : decode cL_circleSize 7 = .ok (.i2l, 1) := by decide +kernel
theorem dL_circleSize_8 : decode cL_circleSize 8 = .ok (.lastore, 1) := by decide +kernel
theorem dL_circleSize_9 : decode cL_circleSize 9 = .ok (.goto 6, 3) := by decide +kernel
theorem dL_circleSize_12 : decode cL_circleSize 12 = .ok (.astore_n 3, 1) := by decide +kernel
theorem dL_circleSize_13 : decode cL_circleSize 13 = .ok (.iconst 1, 1) := by decide +kernel
theorem dL_circleSize_14 : decode cL_circleSize 14 = .ok (.ireturn, 1) := by decide +kernel
theorem dL_circleSize_15 : decode cL_circleSize 15 = .ok (.iconst 0, 1) := by decide +kernel
theorem dL_circleSize_16 : decode cL_circleSize 16 = .ok (.ireturn, 1) := by decide +kernel
theorem dL_chains_0 : decode cL_chains 0 = .ok (.aload 4, 2) := by decide +kernel
theorem dL_chains_2 : decode cL_chains 2 = .ok (.iconst 0, 1) := by decide +kernel
theorem dL_chains_3 : decode cL_chains 3 = .ok (.aload_n 0, 1) := by decide +kernel
theorem dL_chains_4 : decode cL_chains 4 = .ok (.iload_n 1, 1) := by decide +kernel
theorem dL_chains_5 : decode cL_chains 5 = .ok (.iload_n 2, 1) := by decide +kernel
theorem dL_chains_6 : decode cL_chains 6 = .ok (.iload_n 3, 1) := by decide +kernel
theorem dL_chains_7 : decode cL_chains 7 = .ok (.invokevirtual 47, 3) := by decide +kernel
theorem dL_chains_10 : decode cL_chains 10 = .ok (.i2l, 1) := by decide +kernel
theorem dL_chains_11 : decode cL_chains 11 = .ok (.lastore, 1) := by decide +kernel
theorem dL_chains_12 : decode cL_chains 12 = .ok (.goto 11, 3) := by decide +kernel
theorem dL_chains_15 : decode cL_chains 15 = .ok (.astore 5, 2) := by decide +kernel
theorem dL_chains_17 : decode cL_chains 17 = .ok (.iconst 1, 1) := by decide +kernel
theorem dL_chains_18 : decode cL_chains 18 = .ok (.ireturn, 1) := by decide +kernel
theorem dL_chains_19 : decode cL_chains 19 = .ok (.astore 5, 2) := by decide +kernel
theorem dL_chains_21 : decode cL_chains 21 = .ok (.iconst 2, 1) := by decide +kernel
theorem dL_chains_22 : decode cL_chains 22 = .ok (.ireturn, 1) := by decide +kernel
theorem dL_chains_23 : decode cL_chains 23 = .ok (.iconst 0, 1) := by decide +kernel
theorem dL_chains_24 : decode cL_chains 24 = .ok (.ireturn, 1) := by decide +kernel
theorem dL_chainsBySteps_0 : decode cL_chainsBySteps 0 = .ok (.aload 4, 2) := by decide +kernel
theorem dL_chainsBySteps_2 : decode cL_chainsBySteps 2 = .ok (.iconst 0, 1) := by decide +kernel
theorem dL_chainsBySteps_3 : decode cL_chainsBySteps 3 = .ok (.aload_n 0, 1) := by decide +kernel
theorem dL_chainsBySteps_4 : decode cL_chainsBySteps 4 = .ok (.iload_n 1, 1) := by decide +kernel
theorem dL_chainsBySteps_5 : decode cL_chainsBySteps 5 = .ok (.iload_n 2, 1) := by decide +kernel
theorem dL_chainsBySteps_6 : decode cL_chainsBySteps 6 = .ok (.iload_n 3, 1) := by decide +kernel
theorem dL_chainsBySteps_7 : decode cL_chainsBySteps 7 = .ok (.invokevirtual 51, 3) := by decide +kernel
theorem dL_chainsBySteps_10 : decode cL_chainsBySteps 10 = .ok (.i2l, 1) := by decide +kernel
theorem dL_chainsBySteps_11 : decode cL_chainsBySteps 11 = .ok (.lastore, 1) := by decide +kernel
theorem dL_chainsBySteps_12 : decode cL_chainsBySteps 12 = .ok (.goto 11, 3) := by decide +kernel
theorem dL_chainsBySteps_15 : decode cL_chainsBySteps 15 = .ok (.astore 5, 2) := by decide +kernel
theorem dL_chainsBySteps_17 : decode cL_chainsBySteps 17 = .ok (.iconst 1, 1) := by decide +kernel
theorem dL_chainsBySteps_18 : decode cL_chainsBySteps 18 = .ok (.ireturn, 1) := by decide +kernel
theorem dL_chainsBySteps_19 : decode cL_chainsBySteps 19 = .ok (.astore 5, 2) := by decide +kernel
theorem dL_chainsBySteps_21 : decode cL_chainsBySteps 21 = .ok (.iconst 2, 1) := by decide +kernel
theorem dL_chainsBySteps_22 : decode cL_chainsBySteps 22 = .ok (.ireturn, 1) := by decide +kernel
theorem dL_chainsBySteps_23 : decode cL_chainsBySteps 23 = .ok (.iconst 0, 1) := by decide +kernel
theorem dL_chainsBySteps_24 : decode cL_chainsBySteps 24 = .ok (.ireturn, 1) := by decide +kernel
theorem dL_setRack_0 : decode cL_setRack 0 = .ok (.aload_n 3, 1) := by decide +kernel
theorem dL_setRack_1 : decode cL_setRack 1 = .ok (.iconst 0, 1) := by decide +kernel
theorem dL_setRack_2 : decode cL_setRack 2 = .ok (.aload_n 0, 1) := by decide +kernel
theorem dL_setRack_3 : decode cL_setRack 3 = .ok (.iload_n 1, 1) := by decide +kernel
theorem dL_setRack_4 : decode cL_setRack 4 = .ok (.iload_n 2, 1) := by decide +kernel
theorem dL_setRack_5 : decode cL_setRack 5 = .ok (.invokevirtual 54, 3) := by decide +kernel
theorem dL_setRack_8 : decode cL_setRack 8 = .ok (.i2l, 1) := by decide +kernel
theorem dL_setRack_9 : decode cL_setRack 9 = .ok (.lastore, 1) := by decide +kernel
theorem dL_setRack_10 : decode cL_setRack 10 = .ok (.goto 15, 3) := by decide +kernel
theorem dL_setRack_13 : decode cL_setRack 13 = .ok (.astore 4, 2) := by decide +kernel
theorem dL_setRack_15 : decode cL_setRack 15 = .ok (.iconst 1, 1) := by decide +kernel
theorem dL_setRack_16 : decode cL_setRack 16 = .ok (.ireturn, 1) := by decide +kernel
theorem dL_setRack_17 : decode cL_setRack 17 = .ok (.astore 4, 2) := by decide +kernel
theorem dL_setRack_19 : decode cL_setRack 19 = .ok (.iconst 2, 1) := by decide +kernel
theorem dL_setRack_20 : decode cL_setRack 20 = .ok (.ireturn, 1) := by decide +kernel
theorem dL_setRack_21 : decode cL_setRack 21 = .ok (.astore 4, 2) := by decide +kernel
theorem dL_setRack_23 : decode cL_setRack 23 = .ok (.iconst 3, 1) := by decide +kernel
theorem dL_setRack_24 : decode cL_setRack 24 = .ok (.ireturn, 1) := by decide +kernel
theorem dL_setRack_25 : decode cL_setRack 25 = .ok (.iconst 0, 1) := by decide +kernel
theorem dL_setRack_26 : decode cL_setRack 26 = .ok (.ireturn, 1) := by decide +kernel
theorem dL_insert_0 : decode cL_insert 0 = .ok (.aload 4, 2) := by decide +kernel
theorem dL_insert_2 : decode cL_insert 2 = .ok (.iconst 0, 1) := by decide +kernel
theorem dL_insert_3 : decode cL_insert 3 = .ok (.aload_n 0, 1) := by decide +kernel
theorem dL_insert_4 : decode cL_insert 4 = .ok (.iload_n 1, 1) := by decide +kernel
theorem dL_insert_5 : decode cL_insert 5 = .ok (.iload_n 2, 1) := by decide +kernel
theorem dL_insert_6 : decode cL_insert 6 = .ok (.iload_n 3, 1) := by decide +kernel
theorem dL_insert_7 : decode cL_insert 7 = .ok (.invokevirtual 58, 3) := by decide +kernel
theorem dL_insert_10 : decode cL_insert 10 = .ok (.i2l, 1) := by decide +kernel
theorem dL_insert_11 : decode cL_insert 11 = .ok (.lastore, 1) := by decide +kernel
theorem dL_insert_12 : decode cL_insert 12 = .ok (.goto 19, 3) := by decide +kernel
theorem dL_insert_15 : decode cL_insert 15 = .ok (.astore 5, 2) := by decide +kernel
theorem dL_insert_17 : decode cL_insert 17 = .ok (.iconst 1, 1) := by decide +kernel
theorem dL_insert_18 : decode cL_insert 18 = .ok (.ireturn, 1) := by decide +kernel
theorem dL_insert_19 : decode cL_insert 19 = .ok (.astore 5, 2) := by decide +kernel
theorem dL_insert_21 : decode cL_insert 21 = .ok (.iconst 2, 1) := by decide +kernel
theorem dL_insert_22 : decode cL_insert 22 = .ok (.ireturn, 1) := by decide +kernel
theorem dL_insert_23 : decode cL_insert 23 = .ok (.astore 5, 2) := by decide +kernel
theorem dL_insert_25 : decode cL_insert 25 = .ok (.iconst 3, 1) := by decide +kernel
theorem dL_insert_26 : decode cL_insert 26 = .ok (.ireturn, 1) := by decide +kernel
theorem dL_insert_27 : decode cL_insert 27 = .ok (.astore 5, 2) := by decide +kernel
theorem dL_insert_29 : decode cL_insert 29 = .ok (.iconst 4, 1) := by decide +kernel
theorem dL_insert_30 : decode cL_insert 30 = .ok (.ireturn, 1) := by decide +kernel
theorem dL_insert_31 : decode cL_insert 31 = .ok (.iconst 0, 1) := by decide +kernel
theorem dL_insert_32 : decode cL_insert 32 = .ok (.ireturn, 1) := by decide +kernel
theorem dL_withdraw_0 : decode cL_withdraw 0 = .ok (.aload_n 3, 1) := by decide +kernel
theorem dL_withdraw_1 : decode cL_withdraw 1 = .ok (.iconst 0, 1) := by decide +kernel
theorem dL_withdraw_2 : decode cL_withdraw 2 = .ok (.aload_n 0, 1) := by decide +kernel
theorem dL_withdraw_3 : decode cL_withdraw 3 = .ok (.iload_n 1, 1) := by decide +kernel
theorem dL_withdraw_4 : decode cL_withdraw 4 = .ok (.iload_n 2, 1) := by decide +kernel
theorem dL_withdraw_5 : decode cL_withdraw 5 = .ok (.invokevirtual 64, 3) := by decide +kernel
theorem dL_withdraw_8 : decode cL_withdraw 8 = .ok (.i2l, 1) := by decide +kernel
theorem dL_withdraw_9 : decode cL_withdraw 9 = .ok (.lastore, 1) := by decide +kernel
theorem dL_withdraw_10 : decode cL_withdraw 10 = .ok (.goto 11, 3) := by decide +kernel
theorem dL_withdraw_13 : decode cL_withdraw 13 = .ok (.astore 4, 2) := by decide +kernel
theorem dL_withdraw_15 : decode cL_withdraw 15 = .ok (.iconst 1, 1) := by decide +kernel
theorem dL_withdraw_16 : decode cL_withdraw 16 = .ok (.ireturn, 1) := by decide +kernel
theorem dL_withdraw_17 : decode cL_withdraw 17 = .ok (.astore 4, 2) := by decide +kernel
theorem dL_withdraw_19 : decode cL_withdraw 19 = .ok (.iconst 2, 1) := by decide +kernel
theorem dL_withdraw_20 : decode cL_withdraw 20 = .ok (.ireturn, 1) := by decide +kernel
theorem dL_withdraw_21 : decode cL_withdraw 21 = .ok (.iconst 0, 1) := by decide +kernel
theorem dL_withdraw_22 : decode cL_withdraw 22 = .ok (.ireturn, 1) := by decide +kernel
theorem dL_remarkAt_0 : decode cL_remarkAt 0 = .ok (.aload_n 3, 1) := by decide +kernel
theorem dL_remarkAt_1 : decode cL_remarkAt 1 = .ok (.iconst 0, 1) := by decide +kernel
theorem dL_remarkAt_2 : decode cL_remarkAt 2 = .ok (.aload_n 0, 1) := by decide +kernel
theorem dL_remarkAt_3 : decode cL_remarkAt 3 = .ok (.iload_n 1, 1) := by decide +kernel
theorem dL_remarkAt_4 : decode cL_remarkAt 4 = .ok (.iload_n 2, 1) := by decide +kernel
theorem dL_remarkAt_5 : decode cL_remarkAt 5 = .ok (.invokevirtual 70, 3) := by decide +kernel
theorem dL_remarkAt_8 : decode cL_remarkAt 8 = .ok (.i2l, 1) := by decide +kernel
theorem dL_remarkAt_9 : decode cL_remarkAt 9 = .ok (.lastore, 1) := by decide +kernel
theorem dL_remarkAt_10 : decode cL_remarkAt 10 = .ok (.goto 7, 3) := by decide +kernel
theorem dL_remarkAt_13 : decode cL_remarkAt 13 = .ok (.astore 4, 2) := by decide +kernel
theorem dL_remarkAt_15 : decode cL_remarkAt 15 = .ok (.iconst 1, 1) := by decide +kernel
theorem dL_remarkAt_16 : decode cL_remarkAt 16 = .ok (.ireturn, 1) := by decide +kernel
theorem dL_remarkAt_17 : decode cL_remarkAt 17 = .ok (.iconst 0, 1) := by decide +kernel
theorem dL_remarkAt_18 : decode cL_remarkAt 18 = .ok (.ireturn, 1) := by decide +kernel
theorem dL_depthOf_0 : decode cL_depthOf 0 = .ok (.aload_n 2, 1) := by decide +kernel
theorem dL_depthOf_1 : decode cL_depthOf 1 = .ok (.iconst 0, 1) := by decide +kernel
theorem dL_depthOf_2 : decode cL_depthOf 2 = .ok (.aload_n 0, 1) := by decide +kernel
theorem dL_depthOf_3 : decode cL_depthOf 3 = .ok (.iload_n 1, 1) := by decide +kernel
theorem dL_depthOf_4 : decode cL_depthOf 4 = .ok (.invokevirtual 73, 3) := by decide +kernel
theorem dL_depthOf_7 : decode cL_depthOf 7 = .ok (.i2l, 1) := by decide +kernel
theorem dL_depthOf_8 : decode cL_depthOf 8 = .ok (.lastore, 1) := by decide +kernel
theorem dL_depthOf_9 : decode cL_depthOf 9 = .ok (.goto 6, 3) := by decide +kernel
theorem dL_depthOf_12 : decode cL_depthOf 12 = .ok (.astore_n 3, 1) := by decide +kernel
theorem dL_depthOf_13 : decode cL_depthOf 13 = .ok (.iconst 1, 1) := by decide +kernel
theorem dL_depthOf_14 : decode cL_depthOf 14 = .ok (.ireturn, 1) := by decide +kernel
theorem dL_depthOf_15 : decode cL_depthOf 15 = .ok (.iconst 0, 1) := by decide +kernel
theorem dL_depthOf_16 : decode cL_depthOf 16 = .ok (.ireturn, 1) := by decide +kernel
theorem dL_excite_0 : decode cL_excite 0 = .ok (.aload_n 3, 1) := by decide +kernel
theorem dL_excite_1 : decode cL_excite 1 = .ok (.iconst 0, 1) := by decide +kernel
theorem dL_excite_2 : decode cL_excite 2 = .ok (.aload_n 0, 1) := by decide +kernel
theorem dL_excite_3 : decode cL_excite 3 = .ok (.iload_n 1, 1) := by decide +kernel
theorem dL_excite_4 : decode cL_excite 4 = .ok (.iload_n 2, 1) := by decide +kernel
theorem dL_excite_5 : decode cL_excite 5 = .ok (.invokevirtual 76, 3) := by decide +kernel
theorem dL_excite_8 : decode cL_excite 8 = .ok (.f2d, 1) := by decide +kernel
theorem dL_excite_9 : decode cL_excite 9 = .ok (.dastore, 1) := by decide +kernel
theorem dL_excite_10 : decode cL_excite 10 = .ok (.goto 11, 3) := by decide +kernel
theorem dL_excite_13 : decode cL_excite 13 = .ok (.astore 4, 2) := by decide +kernel
theorem dL_excite_15 : decode cL_excite 15 = .ok (.iconst 1, 1) := by decide +kernel
theorem dL_excite_16 : decode cL_excite 16 = .ok (.ireturn, 1) := by decide +kernel
theorem dL_excite_17 : decode cL_excite 17 = .ok (.astore 4, 2) := by decide +kernel
theorem dL_excite_19 : decode cL_excite 19 = .ok (.iconst 2, 1) := by decide +kernel
theorem dL_excite_20 : decode cL_excite 20 = .ok (.ireturn, 1) := by decide +kernel
theorem dL_excite_21 : decode cL_excite 21 = .ok (.iconst 0, 1) := by decide +kernel
theorem dL_excite_22 : decode cL_excite 22 = .ok (.ireturn, 1) := by decide +kernel
theorem dL_pass_0 : decode cL_pass 0 = .ok (.aload_n 2, 1) := by decide +kernel
theorem dL_pass_1 : decode cL_pass 1 = .ok (.iconst 0, 1) := by decide +kernel
theorem dL_pass_2 : decode cL_pass 2 = .ok (.aload_n 0, 1) := by decide +kernel
theorem dL_pass_3 : decode cL_pass 3 = .ok (.iload_n 1, 1) := by decide +kernel
theorem dL_pass_4 : decode cL_pass 4 = .ok (.invokevirtual 80, 3) := by decide +kernel
theorem dL_pass_7 : decode cL_pass 7 = .ok (.i2l, 1) := by decide +kernel
theorem dL_pass_8 : decode cL_pass 8 = .ok (.lastore, 1) := by decide +kernel
theorem dL_pass_9 : decode cL_pass 9 = .ok (.goto 6, 3) := by decide +kernel
theorem dL_pass_12 : decode cL_pass 12 = .ok (.astore_n 3, 1) := by decide +kernel
theorem dL_pass_13 : decode cL_pass 13 = .ok (.iconst 1, 1) := by decide +kernel
theorem dL_pass_14 : decode cL_pass 14 = .ok (.ireturn, 1) := by decide +kernel
theorem dL_pass_15 : decode cL_pass 15 = .ok (.iconst 0, 1) := by decide +kernel
theorem dL_pass_16 : decode cL_pass 16 = .ok (.ireturn, 1) := by decide +kernel
theorem dL_setLimit_0 : decode cL_setLimit 0 = .ok (.aload_n 2, 1) := by decide +kernel
theorem dL_setLimit_1 : decode cL_setLimit 1 = .ok (.iconst 0, 1) := by decide +kernel
theorem dL_setLimit_2 : decode cL_setLimit 2 = .ok (.aload_n 0, 1) := by decide +kernel
theorem dL_setLimit_3 : decode cL_setLimit 3 = .ok (.iload_n 1, 1) := by decide +kernel
theorem dL_setLimit_4 : decode cL_setLimit 4 = .ok (.invokevirtual 83, 3) := by decide +kernel
theorem dL_setLimit_7 : decode cL_setLimit 7 = .ok (.i2l, 1) := by decide +kernel
theorem dL_setLimit_8 : decode cL_setLimit 8 = .ok (.lastore, 1) := by decide +kernel
theorem dL_setLimit_9 : decode cL_setLimit 9 = .ok (.goto 6, 3) := by decide +kernel
theorem dL_setLimit_12 : decode cL_setLimit 12 = .ok (.astore_n 3, 1) := by decide +kernel
theorem dL_setLimit_13 : decode cL_setLimit 13 = .ok (.iconst 1, 1) := by decide +kernel
theorem dL_setLimit_14 : decode cL_setLimit 14 = .ok (.ireturn, 1) := by decide +kernel
theorem dL_setLimit_15 : decode cL_setLimit 15 = .ok (.iconst 0, 1) := by decide +kernel
theorem dL_setLimit_16 : decode cL_setLimit 16 = .ok (.ireturn, 1) := by decide +kernel
theorem dL_fluxOf_0 : decode cL_fluxOf 0 = .ok (.aload_n 2, 1) := by decide +kernel
theorem dL_fluxOf_1 : decode cL_fluxOf 1 = .ok (.iconst 0, 1) := by decide +kernel
theorem dL_fluxOf_2 : decode cL_fluxOf 2 = .ok (.aload_n 0, 1) := by decide +kernel
theorem dL_fluxOf_3 : decode cL_fluxOf 3 = .ok (.iload_n 1, 1) := by decide +kernel
theorem dL_fluxOf_4 : decode cL_fluxOf 4 = .ok (.invokevirtual 86, 3) := by decide +kernel
theorem dL_fluxOf_7 : decode cL_fluxOf 7 = .ok (.f2d, 1) := by decide +kernel
theorem dL_fluxOf_8 : decode cL_fluxOf 8 = .ok (.dastore, 1) := by decide +kernel
theorem dL_fluxOf_9 : decode cL_fluxOf 9 = .ok (.goto 6, 3) := by decide +kernel
theorem dL_fluxOf_12 : decode cL_fluxOf 12 = .ok (.astore_n 3, 1) := by decide +kernel
theorem dL_fluxOf_13 : decode cL_fluxOf 13 = .ok (.iconst 1, 1) := by decide +kernel
theorem dL_fluxOf_14 : decode cL_fluxOf 14 = .ok (.ireturn, 1) := by decide +kernel
theorem dL_fluxOf_15 : decode cL_fluxOf 15 = .ok (.iconst 0, 1) := by decide +kernel
theorem dL_fluxOf_16 : decode cL_fluxOf 16 = .ok (.ireturn, 1) := by decide +kernel
theorem dL_fluxBits_0 : decode cL_fluxBits 0 = .ok (.aload_n 2, 1) := by decide +kernel
theorem dL_fluxBits_1 : decode cL_fluxBits 1 = .ok (.iconst 0, 1) := by decide +kernel
theorem dL_fluxBits_2 : decode cL_fluxBits 2 = .ok (.aload_n 0, 1) := by decide +kernel
theorem dL_fluxBits_3 : decode cL_fluxBits 3 = .ok (.iload_n 1, 1) := by decide +kernel
theorem dL_fluxBits_4 : decode cL_fluxBits 4 = .ok (.invokevirtual 90, 3) := by decide +kernel
theorem dL_fluxBits_7 : decode cL_fluxBits 7 = .ok (.i2l, 1) := by decide +kernel
theorem dL_fluxBits_8 : decode cL_fluxBits 8 = .ok (.lastore, 1) := by decide +kernel
theorem dL_fluxBits_9 : decode cL_fluxBits 9 = .ok (.goto 6, 3) := by decide +kernel
theorem dL_fluxBits_12 : decode cL_fluxBits 12 = .ok (.astore_n 3, 1) := by decide +kernel
theorem dL_fluxBits_13 : decode cL_fluxBits 13 = .ok (.iconst 1, 1) := by decide +kernel
theorem dL_fluxBits_14 : decode cL_fluxBits 14 = .ok (.ireturn, 1) := by decide +kernel
theorem dL_fluxBits_15 : decode cL_fluxBits 15 = .ok (.iconst 0, 1) := by decide +kernel
theorem dL_fluxBits_16 : decode cL_fluxBits 16 = .ok (.ireturn, 1) := by decide +kernel
theorem dL_shiftsUntilBelow_0 : decode cL_shiftsUntilBelow 0 = .ok (.aload_n 2, 1) := by decide +kernel
theorem dL_shiftsUntilBelow_1 : decode cL_shiftsUntilBelow 1 = .ok (.iconst 0, 1) := by decide +kernel
theorem dL_shiftsUntilBelow_2 : decode cL_shiftsUntilBelow 2 = .ok (.aload_n 0, 1) := by decide +kernel
theorem dL_shiftsUntilBelow_3 : decode cL_shiftsUntilBelow 3 = .ok (.iload_n 1, 1) := by decide +kernel
theorem dL_shiftsUntilBelow_4 : decode cL_shiftsUntilBelow 4 = .ok (.invokevirtual 93, 3) := by decide +kernel
theorem dL_shiftsUntilBelow_7 : decode cL_shiftsUntilBelow 7 = .ok (.i2l, 1) := by decide +kernel
theorem dL_shiftsUntilBelow_8 : decode cL_shiftsUntilBelow 8 = .ok (.lastore, 1) := by decide +kernel
theorem dL_shiftsUntilBelow_9 : decode cL_shiftsUntilBelow 9 = .ok (.goto 9, 3) := by decide +kernel
theorem dL_shiftsUntilBelow_12 : decode cL_shiftsUntilBelow 12 = .ok (.astore_n 3, 1) := by decide +kernel
theorem dL_shiftsUntilBelow_13 : decode cL_shiftsUntilBelow 13 = .ok (.iconst 1, 1) := by decide +kernel
theorem dL_shiftsUntilBelow_14 : decode cL_shiftsUntilBelow 14 = .ok (.ireturn, 1) := by decide +kernel
theorem dL_shiftsUntilBelow_15 : decode cL_shiftsUntilBelow 15 = .ok (.astore_n 3, 1) := by decide +kernel
theorem dL_shiftsUntilBelow_16 : decode cL_shiftsUntilBelow 16 = .ok (.iconst 2, 1) := by decide +kernel
theorem dL_shiftsUntilBelow_17 : decode cL_shiftsUntilBelow 17 = .ok (.ireturn, 1) := by decide +kernel
theorem dL_shiftsUntilBelow_18 : decode cL_shiftsUntilBelow 18 = .ok (.iconst 0, 1) := by decide +kernel
theorem dL_shiftsUntilBelow_19 : decode cL_shiftsUntilBelow 19 = .ok (.ireturn, 1) := by decide +kernel
theorem dL_claimAtRank_0 : decode cL_claimAtRank 0 = .ok (.aload_n 2, 1) := by decide +kernel
theorem dL_claimAtRank_1 : decode cL_claimAtRank 1 = .ok (.iconst 0, 1) := by decide +kernel
theorem dL_claimAtRank_2 : decode cL_claimAtRank 2 = .ok (.aload_n 0, 1) := by decide +kernel
theorem dL_claimAtRank_3 : decode cL_claimAtRank 3 = .ok (.iload_n 1, 1) := by decide +kernel
theorem dL_claimAtRank_4 : decode cL_claimAtRank 4 = .ok (.invokevirtual 96, 3) := by decide +kernel
theorem dL_claimAtRank_7 : decode cL_claimAtRank 7 = .ok (.i2l, 1) := by decide +kernel
theorem dL_claimAtRank_8 : decode cL_claimAtRank 8 = .ok (.lastore, 1) := by decide +kernel
theorem dL_claimAtRank_9 : decode cL_claimAtRank 9 = .ok (.goto 6, 3) := by decide +kernel
theorem dL_claimAtRank_12 : decode cL_claimAtRank 12 = .ok (.astore_n 3, 1) := by decide +kernel
theorem dL_claimAtRank_13 : decode cL_claimAtRank 13 = .ok (.iconst 1, 1) := by decide +kernel
theorem dL_claimAtRank_14 : decode cL_claimAtRank 14 = .ok (.ireturn, 1) := by decide +kernel
theorem dL_claimAtRank_15 : decode cL_claimAtRank 15 = .ok (.iconst 0, 1) := by decide +kernel
theorem dL_claimAtRank_16 : decode cL_claimAtRank 16 = .ok (.ireturn, 1) := by decide +kernel
theorem dL_logShift_0 : decode cL_logShift 0 = .ok (.aload_n 2, 1) := by decide +kernel
theorem dL_logShift_1 : decode cL_logShift 1 = .ok (.iconst 0, 1) := by decide +kernel
theorem dL_logShift_2 : decode cL_logShift 2 = .ok (.aload_n 0, 1) := by decide +kernel
theorem dL_logShift_3 : decode cL_logShift 3 = .ok (.iload_n 1, 1) := by decide +kernel
theorem dL_logShift_4 : decode cL_logShift 4 = .ok (.invokevirtual 99, 3) := by decide +kernel
theorem dL_logShift_7 : decode cL_logShift 7 = .ok (.i2l, 1) := by decide +kernel
theorem dL_logShift_8 : decode cL_logShift 8 = .ok (.lastore, 1) := by decide +kernel
theorem dL_logShift_9 : decode cL_logShift 9 = .ok (.goto 6, 3) := by decide +kernel
theorem dL_logShift_12 : decode cL_logShift 12 = .ok (.astore_n 3, 1) := by decide +kernel
theorem dL_logShift_13 : decode cL_logShift 13 = .ok (.iconst 1, 1) := by decide +kernel
theorem dL_logShift_14 : decode cL_logShift 14 = .ok (.ireturn, 1) := by decide +kernel
theorem dL_logShift_15 : decode cL_logShift 15 = .ok (.iconst 0, 1) := by decide +kernel
theorem dL_logShift_16 : decode cL_logShift 16 = .ok (.ireturn, 1) := by decide +kernel
theorem dL_logKind_0 : decode cL_logKind 0 = .ok (.aload_n 2, 1) := by decide +kernel
theorem dL_logKind_1 : decode cL_logKind 1 = .ok (.iconst 0, 1) := by decide +kernel
theorem dL_logKind_2 : decode cL_logKind 2 = .ok (.aload_n 0, 1) := by decide +kernel
theorem dL_logKind_3 : decode cL_logKind 3 = .ok (.iload_n 1, 1) := by decide +kernel
theorem dL_logKind_4 : decode cL_logKind 4 = .ok (.invokevirtual 102, 3) := by decide +kernel
theorem dL_logKind_7 : decode cL_logKind 7 = .ok (.i2l, 1) := by decide +kernel
theorem dL_logKind_8 : decode cL_logKind 8 = .ok (.lastore, 1) := by decide +kernel
theorem dL_logKind_9 : decode cL_logKind 9 = .ok (.goto 6, 3) := by decide +kernel
theorem dL_logKind_12 : decode cL_logKind 12 = .ok (.astore_n 3, 1) := by decide +kernel
theorem dL_logKind_13 : decode cL_logKind 13 = .ok (.iconst 1, 1) := by decide +kernel
theorem dL_logKind_14 : decode cL_logKind 14 = .ok (.ireturn, 1) := by decide +kernel
theorem dL_logKind_15 : decode cL_logKind 15 = .ok (.iconst 0, 1) := by decide +kernel
theorem dL_logKind_16 : decode cL_logKind 16 = .ok (.ireturn, 1) := by decide +kernel
theorem dL_append_0 : decode cL_append 0 = .ok (.aload_n 2, 1) := by decide +kernel
theorem dL_append_1 : decode cL_append 1 = .ok (.iconst 0, 1) := by decide +kernel
theorem dL_append_2 : decode cL_append 2 = .ok (.aload_n 0, 1) := by decide +kernel
theorem dL_append_3 : decode cL_append 3 = .ok (.iload_n 1, 1) := by decide +kernel
theorem dL_append_4 : decode cL_append 4 = .ok (.invokevirtual 106, 3) := by decide +kernel
theorem dL_append_7 : decode cL_append 7 = .ok (.i2l, 1) := by decide +kernel
theorem dL_append_8 : decode cL_append 8 = .ok (.lastore, 1) := by decide +kernel
theorem dL_append_9 : decode cL_append 9 = .ok (.goto 9, 3) := by decide +kernel
theorem dL_append_12 : decode cL_append 12 = .ok (.astore_n 3, 1) := by decide +kernel
theorem dL_append_13 : decode cL_append 13 = .ok (.iconst 1, 1) := by decide +kernel
theorem dL_append_14 : decode cL_append 14 = .ok (.ireturn, 1) := by decide +kernel
theorem dL_append_15 : decode cL_append 15 = .ok (.astore_n 3, 1) := by decide +kernel
theorem dL_append_16 : decode cL_append 16 = .ok (.iconst 2, 1) := by decide +kernel
theorem dL_append_17 : decode cL_append 17 = .ok (.ireturn, 1) := by decide +kernel
theorem dL_append_18 : decode cL_append 18 = .ok (.iconst 0, 1) := by decide +kernel
theorem dL_append_19 : decode cL_append 19 = .ok (.ireturn, 1) := by decide +kernel
theorem dL_run_0 : decode cL_run 0 = .ok (.aload_n 1, 1) := by decide +kernel
theorem dL_run_1 : decode cL_run 1 = .ok (.iconst 0, 1) := by decide +kernel
theorem dL_run_2 : decode cL_run 2 = .ok (.aload_n 0, 1) := by decide +kernel
theorem dL_run_3 : decode cL_run 3 = .ok (.invokevirtual 110, 3) := by decide +kernel
theorem dL_run_6 : decode cL_run 6 = .ok (.i2l, 1) := by decide +kernel
theorem dL_run_7 : decode cL_run 7 = .ok (.lastore, 1) := by decide +kernel
theorem dL_run_8 : decode cL_run 8 = .ok (.goto 9, 3) := by decide +kernel
theorem dL_run_11 : decode cL_run 11 = .ok (.astore_n 2, 1) := by decide +kernel
theorem dL_run_12 : decode cL_run 12 = .ok (.iconst 1, 1) := by decide +kernel
theorem dL_run_13 : decode cL_run 13 = .ok (.ireturn, 1) := by decide +kernel
theorem dL_run_14 : decode cL_run 14 = .ok (.astore_n 2, 1) := by decide +kernel
theorem dL_run_15 : decode cL_run 15 = .ok (.iconst 2, 1) := by decide +kernel
theorem dL_run_16 : decode cL_run 16 = .ok (.ireturn, 1) := by decide +kernel
theorem dL_run_17 : decode cL_run 17 = .ok (.iconst 0, 1) := by decide +kernel
theorem dL_run_18 : decode cL_run 18 = .ok (.ireturn, 1) := by decide +kernel
theorem dL_errorPosition_0 : decode cL_errorPosition 0 = .ok (.aload_n 1, 1) := by decide +kernel
theorem dL_errorPosition_1 : decode cL_errorPosition 1 = .ok (.iconst 0, 1) := by decide +kernel
theorem dL_errorPosition_2 : decode cL_errorPosition 2 = .ok (.aload_n 0, 1) := by decide +kernel
theorem dL_errorPosition_3 : decode cL_errorPosition 3 = .ok (.invokevirtual 114, 3) := by decide +kernel
theorem dL_errorPosition_6 : decode cL_errorPosition 6 = .ok (.i2l, 1) := by decide +kernel
theorem dL_errorPosition_7 : decode cL_errorPosition 7 = .ok (.lastore, 1) := by decide +kernel
theorem dL_errorPosition_8 : decode cL_errorPosition 8 = .ok (.goto 6, 3) := by decide +kernel
theorem dL_errorPosition_11 : decode cL_errorPosition 11 = .ok (.astore_n 2, 1) := by decide +kernel
theorem dL_errorPosition_12 : decode cL_errorPosition 12 = .ok (.iconst 1, 1) := by decide +kernel
theorem dL_errorPosition_13 : decode cL_errorPosition 13 = .ok (.ireturn, 1) := by decide +kernel
theorem dL_errorPosition_14 : decode cL_errorPosition 14 = .ok (.iconst 0, 1) := by decide +kernel
theorem dL_errorPosition_15 : decode cL_errorPosition 15 = .ok (.ireturn, 1) := by decide +kernel
theorem dL_failedCommand_0 : decode cL_failedCommand 0 = .ok (.aload_n 1, 1) := by decide +kernel
theorem dL_failedCommand_1 : decode cL_failedCommand 1 = .ok (.iconst 0, 1) := by decide +kernel
theorem dL_failedCommand_2 : decode cL_failedCommand 2 = .ok (.aload_n 0, 1) := by decide +kernel
theorem dL_failedCommand_3 : decode cL_failedCommand 3 = .ok (.invokevirtual 117, 3) := by decide +kernel
theorem dL_failedCommand_6 : decode cL_failedCommand 6 = .ok (.i2l, 1) := by decide +kernel
theorem dL_failedCommand_7 : decode cL_failedCommand 7 = .ok (.lastore, 1) := by decide +kernel
theorem dL_failedCommand_8 : decode cL_failedCommand 8 = .ok (.goto 6, 3) := by decide +kernel
theorem dL_failedCommand_11 : decode cL_failedCommand 11 = .ok (.astore_n 2, 1) := by decide +kernel
theorem dL_failedCommand_12 : decode cL_failedCommand 12 = .ok (.iconst 1, 1) := by decide +kernel
theorem dL_failedCommand_13 : decode cL_failedCommand 13 = .ok (.ireturn, 1) := by decide +kernel
theorem dL_failedCommand_14 : decode cL_failedCommand 14 = .ok (.iconst 0, 1) := by decide +kernel
theorem dL_failedCommand_15 : decode cL_failedCommand 15 = .ok (.ireturn, 1) := by decide +kernel
theorem dL_describeClaim_0 : decode cL_describeClaim 0 = .ok (.aload_n 2, 1) := by decide +kernel
theorem dL_describeClaim_1 : decode cL_describeClaim 1 = .ok (.iconst 0, 1) := by decide +kernel
theorem dL_describeClaim_2 : decode cL_describeClaim 2 = .ok (.aload_n 0, 1) := by decide +kernel
theorem dL_describeClaim_3 : decode cL_describeClaim 3 = .ok (.iload_n 1, 1) := by decide +kernel
theorem dL_describeClaim_4 : decode cL_describeClaim 4 = .ok (.invokevirtual 120, 3) := by decide +kernel
theorem dL_describeClaim_7 : decode cL_describeClaim 7 = .ok (.i2l, 1) := by decide +kernel
theorem dL_describeClaim_8 : decode cL_describeClaim 8 = .ok (.lastore, 1) := by decide +kernel
theorem dL_describeClaim_9 : decode cL_describeClaim 9 = .ok (.goto 6, 3) := by decide +kernel
theorem dL_describeClaim_12 : decode cL_describeClaim 12 = .ok (.astore_n 3, 1) := by decide +kernel
theorem dL_describeClaim_13 : decode cL_describeClaim 13 = .ok (.iconst 1, 1) := by decide +kernel
theorem dL_describeClaim_14 : decode cL_describeClaim 14 = .ok (.ireturn, 1) := by decide +kernel
theorem dL_describeClaim_15 : decode cL_describeClaim 15 = .ok (.iconst 0, 1) := by decide +kernel
theorem dL_describeClaim_16 : decode cL_describeClaim 16 = .ok (.ireturn, 1) := by decide +kernel
theorem dL_lineAt_0 : decode cL_lineAt 0 = .ok (.aload_n 2, 1) := by decide +kernel
theorem dL_lineAt_1 : decode cL_lineAt 1 = .ok (.iconst 0, 1) := by decide +kernel
theorem dL_lineAt_2 : decode cL_lineAt 2 = .ok (.aload_n 0, 1) := by decide +kernel
theorem dL_lineAt_3 : decode cL_lineAt 3 = .ok (.iload_n 1, 1) := by decide +kernel
theorem dL_lineAt_4 : decode cL_lineAt 4 = .ok (.invokevirtual 123, 3) := by decide +kernel
theorem dL_lineAt_7 : decode cL_lineAt 7 = .ok (.i2l, 1) := by decide +kernel
theorem dL_lineAt_8 : decode cL_lineAt 8 = .ok (.lastore, 1) := by decide +kernel
theorem dL_lineAt_9 : decode cL_lineAt 9 = .ok (.goto 6, 3) := by decide +kernel
theorem dL_lineAt_12 : decode cL_lineAt 12 = .ok (.astore_n 3, 1) := by decide +kernel
theorem dL_lineAt_13 : decode cL_lineAt 13 = .ok (.iconst 1, 1) := by decide +kernel
theorem dL_lineAt_14 : decode cL_lineAt 14 = .ok (.ireturn, 1) := by decide +kernel
theorem dL_lineAt_15 : decode cL_lineAt 15 = .ok (.iconst 0, 1) := by decide +kernel
theorem dL_lineAt_16 : decode cL_lineAt 16 = .ok (.ireturn, 1) := by decide +kernel
theorem dL_meanWeight_0 : decode cL_meanWeight 0 = .ok (.aload_n 1, 1) := by decide +kernel
theorem dL_meanWeight_1 : decode cL_meanWeight 1 = .ok (.iconst 0, 1) := by decide +kernel
theorem dL_meanWeight_2 : decode cL_meanWeight 2 = .ok (.aload_n 0, 1) := by decide +kernel
theorem dL_meanWeight_3 : decode cL_meanWeight 3 = .ok (.invokevirtual 126, 3) := by decide +kernel
theorem dL_meanWeight_6 : decode cL_meanWeight 6 = .ok (.dastore, 1) := by decide +kernel
theorem dL_meanWeight_7 : decode cL_meanWeight 7 = .ok (.goto 6, 3) := by decide +kernel
theorem dL_meanWeight_10 : decode cL_meanWeight 10 = .ok (.astore_n 2, 1) := by decide +kernel
theorem dL_meanWeight_11 : decode cL_meanWeight 11 = .ok (.iconst 1, 1) := by decide +kernel
theorem dL_meanWeight_12 : decode cL_meanWeight 12 = .ok (.ireturn, 1) := by decide +kernel
theorem dL_meanWeight_13 : decode cL_meanWeight 13 = .ok (.iconst 0, 1) := by decide +kernel
theorem dL_meanWeight_14 : decode cL_meanWeight 14 = .ok (.ireturn, 1) := by decide +kernel
theorem dL_meanWeightBits_0 : decode cL_meanWeightBits 0 = .ok (.aload_n 1, 1) := by decide +kernel
theorem dL_meanWeightBits_1 : decode cL_meanWeightBits 1 = .ok (.iconst 0, 1) := by decide +kernel
theorem dL_meanWeightBits_2 : decode cL_meanWeightBits 2 = .ok (.aload_n 0, 1) := by decide +kernel
theorem dL_meanWeightBits_3 : decode cL_meanWeightBits 3 = .ok (.invokevirtual 132, 3) := by decide +kernel
theorem dL_meanWeightBits_6 : decode cL_meanWeightBits 6 = .ok (.lastore, 1) := by decide +kernel
theorem dL_meanWeightBits_7 : decode cL_meanWeightBits 7 = .ok (.goto 6, 3) := by decide +kernel
theorem dL_meanWeightBits_10 : decode cL_meanWeightBits 10 = .ok (.astore_n 2, 1) := by decide +kernel
theorem dL_meanWeightBits_11 : decode cL_meanWeightBits 11 = .ok (.iconst 1, 1) := by decide +kernel
theorem dL_meanWeightBits_12 : decode cL_meanWeightBits 12 = .ok (.ireturn, 1) := by decide +kernel
theorem dL_meanWeightBits_13 : decode cL_meanWeightBits 13 = .ok (.iconst 0, 1) := by decide +kernel
theorem dL_meanWeightBits_14 : decode cL_meanWeightBits 14 = .ok (.ireturn, 1) := by decide +kernel
theorem dL_undo_0 : decode cL_undo 0 = .ok (.aload_n 1, 1) := by decide +kernel
theorem dL_undo_1 : decode cL_undo 1 = .ok (.iconst 0, 1) := by decide +kernel
theorem dL_undo_2 : decode cL_undo 2 = .ok (.aload_n 0, 1) := by decide +kernel
theorem dL_undo_3 : decode cL_undo 3 = .ok (.invokevirtual 136, 3) := by decide +kernel
theorem dL_undo_6 : decode cL_undo 6 = .ok (.i2l, 1) := by decide +kernel
theorem dL_undo_7 : decode cL_undo 7 = .ok (.lastore, 1) := by decide +kernel
theorem dL_undo_8 : decode cL_undo 8 = .ok (.goto 6, 3) := by decide +kernel
theorem dL_undo_11 : decode cL_undo 11 = .ok (.astore_n 2, 1) := by decide +kernel
theorem dL_undo_12 : decode cL_undo 12 = .ok (.iconst 1, 1) := by decide +kernel
theorem dL_undo_13 : decode cL_undo 13 = .ok (.ireturn, 1) := by decide +kernel
theorem dL_undo_14 : decode cL_undo 14 = .ok (.iconst 0, 1) := by decide +kernel
theorem dL_undo_15 : decode cL_undo 15 = .ok (.ireturn, 1) := by decide +kernel
theorem dL_restore_0 : decode cL_restore 0 = .ok (.aload_n 1, 1) := by decide +kernel
theorem dL_restore_1 : decode cL_restore 1 = .ok (.iconst 0, 1) := by decide +kernel
theorem dL_restore_2 : decode cL_restore 2 = .ok (.aload_n 0, 1) := by decide +kernel
theorem dL_restore_3 : decode cL_restore 3 = .ok (.invokevirtual 139, 3) := by decide +kernel
theorem dL_restore_6 : decode cL_restore 6 = .ok (.i2l, 1) := by decide +kernel
theorem dL_restore_7 : decode cL_restore 7 = .ok (.lastore, 1) := by decide +kernel
theorem dL_restore_8 : decode cL_restore 8 = .ok (.goto 6, 3) := by decide +kernel
theorem dL_restore_11 : decode cL_restore 11 = .ok (.astore_n 2, 1) := by decide +kernel
theorem dL_restore_12 : decode cL_restore 12 = .ok (.iconst 1, 1) := by decide +kernel
theorem dL_restore_13 : decode cL_restore 13 = .ok (.ireturn, 1) := by decide +kernel
theorem dL_restore_14 : decode cL_restore 14 = .ok (.iconst 0, 1) := by decide +kernel
theorem dL_restore_15 : decode cL_restore 15 = .ok (.ireturn, 1) := by decide +kernel
