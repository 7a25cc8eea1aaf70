theorem dX0_init_0 : decode cX0_init 0 = .ok (.aload_n 0, 1) := by decide +kernel
theorem dX0_init_1 : decode cX0_init 1 = .ok (.invokespecial 3, 3) := by decide +kernel
theorem dX0_init_4 : decode cX0_init 4 = .ok (.aload_n 0, 1) := by decide +kernel
theorem dX0_init_5 : decode cX0_init 5 = .ok (.new 9, 3) := by decide +kernel
theorem dX0_init_8 : decode cX0_init 8 = .ok (.dup, 1) := by decide +kernel
theorem dX0_init_9 : decode cX0_init 9 = .ok (.invokespecial 11, 3) := by decide +kernel
theorem dX0_init_12 : decode cX0_init 12 = .ok (.putfield 12, 3) := by decide +kernel
theorem dX0_init_15 : decode cX0_init 15 = .ok (.aload_n 0, 1) := by decide +kernel
theorem dX0_init_16 : decode cX0_init 16 = .ok (.iconst 0, 1) := by decide +kernel
theorem dX0_init_17 : decode cX0_init 17 = .ok (.putfield 18, 3) := by decide +kernel
theorem dX0_init_20 : decode cX0_init 20 = .ok (.aload_n 0, 1) := by decide +kernel
theorem dX0_init_21 : decode cX0_init 21 = .ok (.iconst 0, 1) := by decide +kernel
theorem dX0_init_22 : decode cX0_init 22 = .ok (.putfield 22, 3) := by decide +kernel
theorem dX0_init_25 : decode cX0_init 25 = .ok (.aload_n 0, 1) := by decide +kernel
theorem dX0_init_26 : decode cX0_init 26 = .ok (.iconst 0, 1) := by decide +kernel
theorem dX0_init_27 : decode cX0_init 27 = .ok (.putfield 25, 3) := by decide +kernel
theorem dX0_init_30 : decode cX0_init 30 = .ok (.return_, 1) := by decide +kernel
theorem dX0_copyFrom_0 : decode cX0_copyFrom 0 = .ok (.aload_n 0, 1) := by decide +kernel
theorem dX0_copyFrom_1 : decode cX0_copyFrom 1 = .ok (.getfield 12, 3) := by decide +kernel
theorem dX0_copyFrom_4 : decode cX0_copyFrom 4 = .ok (.aload_n 1, 1) := by decide +kernel
theorem dX0_copyFrom_5 : decode cX0_copyFrom 5 = .ok (.getfield 12, 3) := by decide +kernel
theorem dX0_copyFrom_8 : decode cX0_copyFrom 8 = .ok (.invokevirtual 28, 3) := by decide +kernel
theorem dX0_copyFrom_11 : decode cX0_copyFrom 11 = .ok (.aload_n 0, 1) := by decide +kernel
theorem dX0_copyFrom_12 : decode cX0_copyFrom 12 = .ok (.aload_n 1, 1) := by decide +kernel
theorem dX0_copyFrom_13 : decode cX0_copyFrom 13 = .ok (.getfield 18, 3) := by decide +kernel
theorem dX0_copyFrom_16 : decode cX0_copyFrom 16 = .ok (.putfield 18, 3) := by decide +kernel
theorem dX0_copyFrom_19 : decode cX0_copyFrom 19 = .ok (.aload_n 0, 1) := by decide +kernel
theorem dX0_copyFrom_20 : decode cX0_copyFrom 20 = .ok (.aload_n 1, 1) := by decide +kernel
theorem dX0_copyFrom_21 : decode cX0_copyFrom 21 = .ok (.getfield 22, 3) := by decide +kernel
theorem dX0_copyFrom_24 : decode cX0_copyFrom 24 = .ok (.putfield 22, 3) := by decide +kernel
theorem dX0_copyFrom_27 : decode cX0_copyFrom 27 = .ok (.aload_n 0, 1) := by decide +kernel
theorem dX0_copyFrom_28 : decode cX0_copyFrom 28 = .ok (.aload_n 1, 1) := by decide +kernel
theorem dX0_copyFrom_29 : decode cX0_copyFrom 29 = .ok (.getfield 25, 3) := by decide +kernel
theorem dX0_copyFrom_32 : decode cX0_copyFrom 32 = .ok (.putfield 25, 3) := by decide +kernel
theorem dX0_copyFrom_35 : decode cX0_copyFrom 35 = .ok (.return_, 1) := by decide +kernel
theorem dX0_wipe_0 : decode cX0_wipe 0 = .ok (.aload_n 0, 1) := by decide +kernel
theorem dX0_wipe_1 : decode cX0_wipe 1 = .ok (.getfield 12, 3) := by decide +kernel
theorem dX0_wipe_4 : decode cX0_wipe 4 = .ok (.invokevirtual 32, 3) := by decide +kernel
theorem dX0_wipe_7 : decode cX0_wipe 7 = .ok (.aload_n 0, 1) := by decide +kernel
theorem dX0_wipe_8 : decode cX0_wipe 8 = .ok (.iconst 0, 1) := by decide +kernel
theorem dX0_wipe_9 : decode cX0_wipe 9 = .ok (.putfield 18, 3) := by decide +kernel
theorem dX0_wipe_12 : decode cX0_wipe 12 = .ok (.aload_n 0, 1) := by decide +kernel
theorem dX0_wipe_13 : decode cX0_wipe 13 = .ok (.iconst 0, 1) := by decide +kernel
theorem dX0_wipe_14 : decode cX0_wipe 14 = .ok (.putfield 22, 3) := by decide +kernel
theorem dX0_wipe_17 : decode cX0_wipe 17 = .ok (.aload_n 0, 1) := by decide +kernel
theorem dX0_wipe_18 : decode cX0_wipe 18 = .ok (.iconst 0, 1) := by decide +kernel
theorem dX0_wipe_19 : decode cX0_wipe 19 = .ok (.putfield 25, 3) := by decide +kernel
theorem dX0_wipe_22 : decode cX0_wipe 22 = .ok (.return_, 1) := by decide +kernel
theorem dX0_grow_0 : decode cX0_grow 0 = .ok (.aload_n 0, 1) := by decide +kernel
theorem dX0_grow_1 : decode cX0_grow 1 = .ok (.getfield 18, 3) := by decide +kernel
theorem dX0_grow_4 : decode cX0_grow 4 = .ok (.bipush 14, 2) := by decide +kernel
theorem dX0_grow_6 : decode cX0_grow 6 = .ok (.if_icmp .lt 4, 3) := by decide +kernel
theorem dX0_grow_9 : decode cX0_grow 9 = .ok (.return_, 1) := by decide +kernel
theorem dX0_grow_10 : decode cX0_grow 10 = .ok (.iload_n 1, 1) := by decide +kernel
theorem dX0_grow_11 : decode cX0_grow 11 = .ok (.iconst (-1), 1) := by decide +kernel
theorem dX0_grow_12 : decode cX0_grow 12 = .ok (.if_icmp .eq 15, 3) := by decide +kernel
theorem dX0_grow_15 : decode cX0_grow 15 = .ok (.aload_n 0, 1) := by decide +kernel
theorem dX0_grow_16 : decode cX0_grow 16 = .ok (.getfield 12, 3) := by decide +kernel
theorem dX0_grow_19 : decode cX0_grow 19 = .ok (.aload_n 0, 1) := by decide +kernel
theorem dX0_grow_20 : decode cX0_grow 20 = .ok (.getfield 18, 3) := by decide +kernel
theorem dX0_grow_23 : decode cX0_grow 23 = .ok (.iload_n 1, 1) := by decide +kernel
theorem dX0_grow_24 : decode cX0_grow 24 = .ok (.invokevirtual 35, 3) := by decide +kernel
theorem dX0_grow_27 : decode cX0_grow 27 = .ok (.aload_n 0, 1) := by decide +kernel
theorem dX0_grow_28 : decode cX0_grow 28 = .ok (.dup, 1) := by decide +kernel
theorem dX0_grow_29 : decode cX0_grow 29 = .ok (.getfield 22, 3) := by decide +kernel
theorem dX0_grow_32 : decode cX0_grow 32 = .ok (.aload_n 0, 1) := by decide +kernel
theorem dX0_grow_33 : decode cX0_grow 33 = .ok (.getfield 18, 3) := by decide +kernel
theorem dX0_grow_36 : decode cX0_grow 36 = .ok (.invokestatic 39, 3) := by decide +kernel
theorem dX0_grow_39 : decode cX0_grow 39 = .ok (.ior, 1) := by decide +kernel
theorem dX0_grow_40 : decode cX0_grow 40 = .ok (.putfield 22, 3) := by decide +kernel
theorem dX0_grow_43 : decode cX0_grow 43 = .ok (.aload_n 0, 1) := by decide +kernel
theorem dX0_grow_44 : decode cX0_grow 44 = .ok (.dup, 1) := by decide +kernel
theorem dX0_grow_45 : decode cX0_grow 45 = .ok (.getfield 18, 3) := by decide +kernel
theorem dX0_grow_48 : decode cX0_grow 48 = .ok (.iconst 1, 1) := by decide +kernel
theorem dX0_grow_49 : decode cX0_grow 49 = .ok (.iadd, 1) := by decide +kernel
theorem dX0_grow_50 : decode cX0_grow 50 = .ok (.putfield 18, 3) := by decide +kernel
theorem dX0_grow_53 : decode cX0_grow 53 = .ok (.return_, 1) := by decide +kernel
theorem dX0_choose_0 : decode cX0_choose 0 = .ok (.aload_n 0, 1) := by decide +kernel
theorem dX0_choose_1 : decode cX0_choose 1 = .ok (.iload_n 1, 1) := by decide +kernel
theorem dX0_choose_2 : decode cX0_choose 2 = .ok (.invokevirtual 43, 3) := by decide +kernel
theorem dX0_choose_5 : decode cX0_choose 5 = .ok (.istore_n 2, 1) := by decide +kernel
theorem dX0_choose_6 : decode cX0_choose 6 = .ok (.aload_n 0, 1) := by decide +kernel
theorem dX0_choose_7 : decode cX0_choose 7 = .ok (.getfield 22, 3) := by decide +kernel
theorem dX0_choose_10 : decode cX0_choose 10 = .ok (.invokestatic 46, 3) := by decide +kernel
theorem dX0_choose_13 : decode cX0_choose 13 = .ok (.iload_n 2, 1) := by decide +kernel
theorem dX0_choose_14 : decode cX0_choose 14 = .ok (.invokestatic 46, 3) := by decide +kernel
theorem dX0_choose_17 : decode cX0_choose 17 = .ok (.isub, 1) := by decide +kernel
theorem dX0_choose_18 : decode cX0_choose 18 = .ok (.istore_n 3, 1) := by decide +kernel
theorem dX0_choose_19 : decode cX0_choose 19 = .ok (.aload_n 0, 1) := by decide +kernel
theorem dX0_choose_20 : decode cX0_choose 20 = .ok (.iload_n 2, 1) := by decide +kernel
theorem dX0_choose_21 : decode cX0_choose 21 = .ok (.putfield 22, 3) := by decide +kernel
theorem dX0_choose_24 : decode cX0_choose 24 = .ok (.aload_n 0, 1) := by decide +kernel
theorem dX0_choose_25 : decode cX0_choose 25 = .ok (.dup, 1) := by decide +kernel
theorem dX0_choose_26 : decode cX0_choose 26 = .ok (.getfield 25, 3) := by decide +kernel
theorem dX0_choose_29 : decode cX0_choose 29 = .ok (.iconst 1, 1) := by decide +kernel
theorem dX0_choose_30 : decode cX0_choose 30 = .ok (.iadd, 1) := by decide +kernel
theorem dX0_choose_31 : decode cX0_choose 31 = .ok (.putfield 25, 3) := by decide +kernel
theorem dX0_choose_34 : decode cX0_choose 34 = .ok (.iload_n 3, 1) := by decide +kernel
theorem dX0_choose_35 : decode cX0_choose 35 = .ok (.ireturn, 1) := by decide +kernel
theorem dX0_startAgain_0 : decode cX0_startAgain 0 = .ok (.aload_n 0, 1) := by decide +kernel
theorem dX0_startAgain_1 : decode cX0_startAgain 1 = .ok (.iconst 1, 1) := by decide +kernel
theorem dX0_startAgain_2 : decode cX0_startAgain 2 = .ok (.aload_n 0, 1) := by decide +kernel
theorem dX0_startAgain_3 : decode cX0_startAgain 3 = .ok (.getfield 18, 3) := by decide +kernel
theorem dX0_startAgain_6 : decode cX0_startAgain 6 = .ok (.ishl, 1) := by decide +kernel
theorem dX0_startAgain_7 : decode cX0_startAgain 7 = .ok (.iconst 1, 1) := by decide +kernel
theorem dX0_startAgain_8 : decode cX0_startAgain 8 = .ok (.isub, 1) := by decide +kernel
theorem dX0_startAgain_9 : decode cX0_startAgain 9 = .ok (.putfield 22, 3) := by decide +kernel
theorem dX0_startAgain_12 : decode cX0_startAgain 12 = .ok (.aload_n 0, 1) := by decide +kernel
theorem dX0_startAgain_13 : decode cX0_startAgain 13 = .ok (.iconst 0, 1) := by decide +kernel
theorem dX0_startAgain_14 : decode cX0_startAgain 14 = .ok (.putfield 25, 3) := by decide +kernel
theorem dX0_startAgain_17 : decode cX0_startAgain 17 = .ok (.return_, 1) := by decide +kernel
theorem dX0_isThere_0 : decode cX0_isThere 0 = .ok (.aload_n 0, 1) := by decide +kernel
theorem dX0_isThere_1 : decode cX0_isThere 1 = .ok (.getfield 22, 3) := by decide +kernel
theorem dX0_isThere_4 : decode cX0_isThere 4 = .ok (.iload_n 1, 1) := by decide +kernel
theorem dX0_isThere_5 : decode cX0_isThere 5 = .ok (.invokestatic 51, 3) := by decide +kernel
theorem dX0_isThere_8 : decode cX0_isThere 8 = .ok (.ireturn, 1) := by decide +kernel
theorem dX0_leftAfter_0 : decode cX0_leftAfter 0 = .ok (.aload_n 0, 1) := by decide +kernel
theorem dX0_leftAfter_1 : decode cX0_leftAfter 1 = .ok (.getfield 22, 3) := by decide +kernel
theorem dX0_leftAfter_4 : decode cX0_leftAfter 4 = .ok (.aload_n 0, 1) := by decide +kernel
theorem dX0_leftAfter_5 : decode cX0_leftAfter 5 = .ok (.getfield 12, 3) := by decide +kernel
theorem dX0_leftAfter_8 : decode cX0_leftAfter 8 = .ok (.iload_n 1, 1) := by decide +kernel
theorem dX0_leftAfter_9 : decode cX0_leftAfter 9 = .ok (.invokevirtual 55, 3) := by decide +kernel
theorem dX0_leftAfter_12 : decode cX0_leftAfter 12 = .ok (.iconst (-1), 1) := by decide +kernel
theorem dX0_leftAfter_13 : decode cX0_leftAfter 13 = .ok (.ixor, 1) := by decide +kernel
theorem dX0_leftAfter_14 : decode cX0_leftAfter 14 = .ok (.iand, 1) := by decide +kernel
theorem dX0_leftAfter_15 : decode cX0_leftAfter 15 = .ok (.ireturn, 1) := by decide +kernel
theorem dX0_hasEdge_0 : decode cX0_hasEdge 0 = .ok (.aload_n 0, 1) := by decide +kernel
theorem dX0_hasEdge_1 : decode cX0_hasEdge 1 = .ok (.iload_n 1, 1) := by decide +kernel
theorem dX0_hasEdge_2 : decode cX0_hasEdge 2 = .ok (.invokevirtual 58, 3) := by decide +kernel
theorem dX0_hasEdge_5 : decode cX0_hasEdge 5 = .ok (.ifCond .eq 30, 3) := by decide +kernel
theorem dX0_hasEdge_8 : decode cX0_hasEdge 8 = .ok (.aload_n 0, 1) := by decide +kernel
theorem dX0_hasEdge_9 : decode cX0_hasEdge 9 = .ok (.iload_n 2, 1) := by decide +kernel
theorem dX0_hasEdge_10 : decode cX0_hasEdge 10 = .ok (.invokevirtual 58, 3) := by decide +kernel
theorem dX0_hasEdge_13 : decode cX0_hasEdge 13 = .ok (.ifCond .eq 22, 3) := by decide +kernel
theorem dX0_hasEdge_16 : decode cX0_hasEdge 16 = .ok (.aload_n 0, 1) := by decide +kernel
theorem dX0_hasEdge_17 : decode cX0_hasEdge 17 = .ok (.getfield 12, 3) := by decide +kernel
theorem dX0_hasEdge_20 : decode cX0_hasEdge 20 = .ok (.iload_n 1, 1) := by decide +kernel
theorem dX0_hasEdge_21 : decode cX0_hasEdge 21 = .ok (.invokevirtual 62, 3) := by decide +kernel
theorem dX0_hasEdge_24 : decode cX0_hasEdge 24 = .ok (.iload_n 2, 1) := by decide +kernel
theorem dX0_hasEdge_25 : decode cX0_hasEdge 25 = .ok (.invokestatic 51, 3) := by decide +kernel
theorem dX0_hasEdge_28 : decode cX0_hasEdge 28 = .ok (.ifCond .eq 7, 3) := by decide +kernel
theorem dX0_hasEdge_31 : decode cX0_hasEdge 31 = .ok (.iconst 1, 1) := by decide +kernel
theorem dX0_hasEdge_32 : decode cX0_hasEdge 32 = .ok (.goto 4, 3) := by decide +kernel
theorem dX0_hasEdge_35 : decode cX0_hasEdge 35 = .ok (.iconst 0, 1) := by decide +kernel
theorem dX0_hasEdge_36 : decode cX0_hasEdge 36 = .ok (.ireturn, 1) := by decide +kernel
theorem dX0_canBeJoined_0 : decode cX0_canBeJoined 0 = .ok (.aload_n 0, 1) := by decide +kernel
theorem dX0_canBeJoined_1 : decode cX0_canBeJoined 1 = .ok (.iload_n 1, 1) := by decide +kernel
theorem dX0_canBeJoined_2 : decode cX0_canBeJoined 2 = .ok (.invokevirtual 58, 3) := by decide +kernel
theorem dX0_canBeJoined_5 : decode cX0_canBeJoined 5 = .ok (.ifCond .eq 38, 3) := by decide +kernel
theorem dX0_canBeJoined_8 : decode cX0_canBeJoined 8 = .ok (.aload_n 0, 1) := by decide +kernel
theorem dX0_canBeJoined_9 : decode cX0_canBeJoined 9 = .ok (.iload_n 2, 1) := by decide +kernel
theorem dX0_canBeJoined_10 : decode cX0_canBeJoined 10 = .ok (.invokevirtual 58, 3) := by decide +kernel
theorem dX0_canBeJoined_13 : decode cX0_canBeJoined 13 = .ok (.ifCond .eq 30, 3) := by decide +kernel
theorem dX0_canBeJoined_16 : decode cX0_canBeJoined 16 = .ok (.aload_n 0, 1) := by decide +kernel
theorem dX0_canBeJoined_17 : decode cX0_canBeJoined 17 = .ok (.getfield 12, 3) := by decide +kernel
theorem dX0_canBeJoined_20 : decode cX0_canBeJoined 20 = .ok (.iload_n 1, 1) := by decide +kernel
theorem dX0_canBeJoined_21 : decode cX0_canBeJoined 21 = .ok (.iconst 1, 1) := by decide +kernel
theorem dX0_canBeJoined_22 : decode cX0_canBeJoined 22 = .ok (.aload_n 0, 1) := by decide +kernel
theorem dX0_canBeJoined_23 : decode cX0_canBeJoined 23 = .ok (.getfield 18, 3) := by decide +kernel
theorem dX0_canBeJoined_26 : decode cX0_canBeJoined 26 = .ok (.ishl, 1) := by decide +kernel
theorem dX0_canBeJoined_27 : decode cX0_canBeJoined 27 = .ok (.iconst 1, 1) := by decide +kernel
theorem dX0_canBeJoined_28 : decode cX0_canBeJoined 28 = .ok (.isub, 1) := by decide +kernel
theorem dX0_canBeJoined_29 : decode cX0_canBeJoined 29 = .ok (.invokevirtual 65, 3) := by decide +kernel
theorem dX0_canBeJoined_32 : decode cX0_canBeJoined 32 = .ok (.iload_n 2, 1) := by decide +kernel
theorem dX0_canBeJoined_33 : decode cX0_canBeJoined 33 = .ok (.invokestatic 51, 3) := by decide +kernel
theorem dX0_canBeJoined_36 : decode cX0_canBeJoined 36 = .ok (.ifCond .ne 7, 3) := by decide +kernel
theorem dX0_canBeJoined_39 : decode cX0_canBeJoined 39 = .ok (.iconst 1, 1) := by decide +kernel
theorem dX0_canBeJoined_40 : decode cX0_canBeJoined 40 = .ok (.goto 4, 3) := by decide +kernel
theorem dX0_canBeJoined_43 : decode cX0_canBeJoined 43 = .ok (.iconst 0, 1) := by decide +kernel
theorem dX0_canBeJoined_44 : decode cX0_canBeJoined 44 = .ok (.ireturn, 1) := by decide +kernel
theorem dX0_treeCount_0 : decode cX0_treeCount 0 = .ok (.iconst 0, 1) := by decide +kernel
theorem dX0_treeCount_1 : decode cX0_treeCount 1 = .ok (.istore_n 1, 1) := by decide +kernel
theorem dX0_treeCount_2 : decode cX0_treeCount 2 = .ok (.iload_n 1, 1) := by decide +kernel
theorem dX0_treeCount_3 : decode cX0_treeCount 3 = .ok (.bipush 14, 2) := by decide +kernel
theorem dX0_treeCount_5 : decode cX0_treeCount 5 = .ok (.if_icmp .ge 19, 3) := by decide +kernel
theorem dX0_treeCount_8 : decode cX0_treeCount 8 = .ok (.aload_n 0, 1) := by decide +kernel
theorem dX0_treeCount_9 : decode cX0_treeCount 9 = .ok (.iload_n 1, 1) := by decide +kernel
theorem dX0_treeCount_10 : decode cX0_treeCount 10 = .ok (.invokevirtual 69, 3) := by decide +kernel
theorem dX0_treeCount_13 : decode cX0_treeCount 13 = .ok (.ifCond .ne 5, 3) := by decide +kernel
theorem dX0_treeCount_16 : decode cX0_treeCount 16 = .ok (.iload_n 1, 1) := by decide +kernel
theorem dX0_treeCount_17 : decode cX0_treeCount 17 = .ok (.ireturn, 1) := by decide +kernel
theorem dX0_treeCount_18 : decode cX0_treeCount 18 = .ok (.iinc 1 1, 3) := by decide +kernel
theorem dX0_treeCount_21 : decode cX0_treeCount 21 = .ok (.goto (-19), 3) := by decide +kernel
theorem dX0_treeCount_24 : decode cX0_treeCount 24 = .ok (.bipush 14, 2) := by decide +kernel
theorem dX0_treeCount_26 : decode cX0_treeCount 26 = .ok (.ireturn, 1) := by decide +kernel
theorem dX0_treeAt_0 : decode cX0_treeAt 0 = .ok (.aload_n 0, 1) := by decide +kernel
theorem dX0_treeAt_1 : decode cX0_treeAt 1 = .ok (.getfield 22, 3) := by decide +kernel
theorem dX0_treeAt_4 : decode cX0_treeAt 4 = .ok (.istore_n 2, 1) := by decide +kernel
theorem dX0_treeAt_5 : decode cX0_treeAt 5 = .ok (.iconst 0, 1) := by decide +kernel
theorem dX0_treeAt_6 : decode cX0_treeAt 6 = .ok (.istore_n 3, 1) := by decide +kernel
theorem dX0_treeAt_7 : decode cX0_treeAt 7 = .ok (.iload_n 3, 1) := by decide +kernel
theorem dX0_treeAt_8 : decode cX0_treeAt 8 = .ok (.bipush 14, 2) := by decide +kernel
theorem dX0_treeAt_10 : decode cX0_treeAt 10 = .ok (.if_icmp .ge 45, 3) := by decide +kernel
theorem dX0_treeAt_13 : decode cX0_treeAt 13 = .ok (.iload_n 2, 1) := by decide +kernel
theorem dX0_treeAt_14 : decode cX0_treeAt 14 = .ok (.ifCond .eq 41, 3) := by decide +kernel
theorem dX0_treeAt_17 : decode cX0_treeAt 17 = .ok (.aload_n 0, 1) := by decide +kernel
theorem dX0_treeAt_18 : decode cX0_treeAt 18 = .ok (.getfield 12, 3) := by decide +kernel
theorem dX0_treeAt_21 : decode cX0_treeAt 21 = .ok (.iload_n 2, 1) := by decide +kernel
theorem dX0_treeAt_22 : decode cX0_treeAt 22 = .ok (.invokestatic 72, 3) := by decide +kernel
theorem dX0_treeAt_25 : decode cX0_treeAt 25 = .ok (.aload_n 0, 1) := by decide +kernel
theorem dX0_treeAt_26 : decode cX0_treeAt 26 = .ok (.getfield 22, 3) := by decide +kernel
theorem dX0_treeAt_29 : decode cX0_treeAt 29 = .ok (.invokevirtual 65, 3) := by decide +kernel
theorem dX0_treeAt_32 : decode cX0_treeAt 32 = .ok (.istore 4, 2) := by decide +kernel
theorem dX0_treeAt_34 : decode cX0_treeAt 34 = .ok (.iload_n 3, 1) := by decide +kernel
theorem dX0_treeAt_35 : decode cX0_treeAt 35 = .ok (.iload_n 1, 1) := by decide +kernel
theorem dX0_treeAt_36 : decode cX0_treeAt 36 = .ok (.if_icmp .ne 6, 3) := by decide +kernel
theorem dX0_treeAt_39 : decode cX0_treeAt 39 = .ok (.iload 4, 2) := by decide +kernel
theorem dX0_treeAt_41 : decode cX0_treeAt 41 = .ok (.ireturn, 1) := by decide +kernel
theorem dX0_treeAt_42 : decode cX0_treeAt 42 = .ok (.iload_n 2, 1) := by decide +kernel
theorem dX0_treeAt_43 : decode cX0_treeAt 43 = .ok (.iload 4, 2) := by decide +kernel
theorem dX0_treeAt_45 : decode cX0_treeAt 45 = .ok (.iconst (-1), 1) := by decide +kernel
theorem dX0_treeAt_46 : decode cX0_treeAt 46 = .ok (.ixor, 1) := by decide +kernel
theorem dX0_treeAt_47 : decode cX0_treeAt 47 = .ok (.iand, 1) := by decide +kernel
theorem dX0_treeAt_48 : decode cX0_treeAt 48 = .ok (.istore_n 2, 1) := by decide +kernel
theorem dX0_treeAt_49 : decode cX0_treeAt 49 = .ok (.iinc 3 1, 3) := by decide +kernel
theorem dX0_treeAt_52 : decode cX0_treeAt 52 = .ok (.goto (-45), 3) := by decide +kernel
theorem dX0_treeAt_55 : decode cX0_treeAt 55 = .ok (.iconst 0, 1) := by decide +kernel
theorem dX0_treeAt_56 : decode cX0_treeAt 56 = .ok (.ireturn, 1) := by decide +kernel
theorem dX0_treeNumber_0 : decode cX0_treeNumber 0 = .ok (.iconst 0, 1) := by decide +kernel
theorem dX0_treeNumber_1 : decode cX0_treeNumber 1 = .ok (.istore_n 2, 1) := by decide +kernel
theorem dX0_treeNumber_2 : decode cX0_treeNumber 2 = .ok (.iload_n 2, 1) := by decide +kernel
theorem dX0_treeNumber_3 : decode cX0_treeNumber 3 = .ok (.bipush 14, 2) := by decide +kernel
theorem dX0_treeNumber_5 : decode cX0_treeNumber 5 = .ok (.if_icmp .ge 23, 3) := by decide +kernel
theorem dX0_treeNumber_8 : decode cX0_treeNumber 8 = .ok (.aload_n 0, 1) := by decide +kernel
theorem dX0_treeNumber_9 : decode cX0_treeNumber 9 = .ok (.iload_n 2, 1) := by decide +kernel
theorem dX0_treeNumber_10 : decode cX0_treeNumber 10 = .ok (.invokevirtual 69, 3) := by decide +kernel
theorem dX0_treeNumber_13 : decode cX0_treeNumber 13 = .ok (.iload_n 1, 1) := by decide +kernel
theorem dX0_treeNumber_14 : decode cX0_treeNumber 14 = .ok (.invokestatic 51, 3) := by decide +kernel
theorem dX0_treeNumber_17 : decode cX0_treeNumber 17 = .ok (.ifCond .eq 5, 3) := by decide +kernel
theorem dX0_treeNumber_20 : decode cX0_treeNumber 20 = .ok (.iload_n 2, 1) := by decide +kernel
theorem dX0_treeNumber_21 : decode cX0_treeNumber 21 = .ok (.ireturn, 1) := by decide +kernel
theorem dX0_treeNumber_22 : decode cX0_treeNumber 22 = .ok (.iinc 2 1, 3) := by decide +kernel
theorem dX0_treeNumber_25 : decode cX0_treeNumber 25 = .ok (.goto (-23), 3) := by decide +kernel
theorem dX0_treeNumber_28 : decode cX0_treeNumber 28 = .ok (.iconst (-1), 1) := by decide +kernel
theorem dX0_treeNumber_29 : decode cX0_treeNumber 29 = .ok (.ireturn, 1) := by decide +kernel
theorem dX0_lesserNeighbours_0 : decode cX0_lesserNeighbours 0 = .ok (.aload_n 0, 1) := by decide +kernel
theorem dX0_lesserNeighbours_1 : decode cX0_lesserNeighbours 1 = .ok (.getfield 12, 3) := by decide +kernel
theorem dX0_lesserNeighbours_4 : decode cX0_lesserNeighbours 4 = .ok (.iload_n 1, 1) := by decide +kernel
theorem dX0_lesserNeighbours_5 : decode cX0_lesserNeighbours 5 = .ok (.invokevirtual 62, 3) := by decide +kernel
theorem dX0_lesserNeighbours_8 : decode cX0_lesserNeighbours 8 = .ok (.iload_n 1, 1) := by decide +kernel
theorem dX0_lesserNeighbours_9 : decode cX0_lesserNeighbours 9 = .ok (.invokestatic 39, 3) := by decide +kernel
theorem dX0_lesserNeighbours_12 : decode cX0_lesserNeighbours 12 = .ok (.iconst 1, 1) := by decide +kernel
theorem dX0_lesserNeighbours_13 : decode cX0_lesserNeighbours 13 = .ok (.isub, 1) := by decide +kernel
theorem dX0_lesserNeighbours_14 : decode cX0_lesserNeighbours 14 = .ok (.iand, 1) := by decide +kernel
theorem dX0_lesserNeighbours_15 : decode cX0_lesserNeighbours 15 = .ok (.ireturn, 1) := by decide +kernel
theorem dX0_lesserNeighbour_0 : decode cX0_lesserNeighbour 0 = .ok (.aload_n 0, 1) := by decide +kernel
theorem dX0_lesserNeighbour_1 : decode cX0_lesserNeighbour 1 = .ok (.iload_n 1, 1) := by decide +kernel
theorem dX0_lesserNeighbour_2 : decode cX0_lesserNeighbour 2 = .ok (.invokevirtual 75, 3) := by decide +kernel
theorem dX0_lesserNeighbour_5 : decode cX0_lesserNeighbour 5 = .ok (.istore_n 2, 1) := by decide +kernel
theorem dX0_lesserNeighbour_6 : decode cX0_lesserNeighbour 6 = .ok (.iload_n 2, 1) := by decide +kernel
theorem dX0_lesserNeighbour_7 : decode cX0_lesserNeighbour 7 = .ok (.ifCond .ne 7, 3) := by decide +kernel
theorem dX0_lesserNeighbour_10 : decode cX0_lesserNeighbour 10 = .ok (.iconst (-1), 1) := by decide +kernel
theorem dX0_lesserNeighbour_11 : decode cX0_lesserNeighbour 11 = .ok (.goto 7, 3) := by decide +kernel
theorem dX0_lesserNeighbour_14 : decode cX0_lesserNeighbour 14 = .ok (.iload_n 2, 1) := by decide +kernel
theorem dX0_lesserNeighbour_15 : decode cX0_lesserNeighbour 15 = .ok (.invokestatic 72, 3) := by decide +kernel
theorem dX0_lesserNeighbour_18 : decode cX0_lesserNeighbour 18 = .ok (.ireturn, 1) := by decide +kernel
theorem dX0_canBeWritten_0 : decode cX0_canBeWritten 0 = .ok (.iconst 0, 1) := by decide +kernel
theorem dX0_canBeWritten_1 : decode cX0_canBeWritten 1 = .ok (.istore_n 1, 1) := by decide +kernel
theorem dX0_canBeWritten_2 : decode cX0_canBeWritten 2 = .ok (.iload_n 1, 1) := by decide +kernel
theorem dX0_canBeWritten_3 : decode cX0_canBeWritten 3 = .ok (.aload_n 0, 1) := by decide +kernel
theorem dX0_canBeWritten_4 : decode cX0_canBeWritten 4 = .ok (.getfield 18, 3) := by decide +kernel
theorem dX0_canBeWritten_7 : decode cX0_canBeWritten 7 = .ok (.if_icmp .ge 23, 3) := by decide +kernel
theorem dX0_canBeWritten_10 : decode cX0_canBeWritten 10 = .ok (.aload_n 0, 1) := by decide +kernel
theorem dX0_canBeWritten_11 : decode cX0_canBeWritten 11 = .ok (.iload_n 1, 1) := by decide +kernel
theorem dX0_canBeWritten_12 : decode cX0_canBeWritten 12 = .ok (.invokevirtual 75, 3) := by decide +kernel
theorem dX0_canBeWritten_15 : decode cX0_canBeWritten 15 = .ok (.invokestatic 46, 3) := by decide +kernel
theorem dX0_canBeWritten_18 : decode cX0_canBeWritten 18 = .ok (.iconst 1, 1) := by decide +kernel
theorem dX0_canBeWritten_19 : decode cX0_canBeWritten 19 = .ok (.if_icmp .le 5, 3) := by decide +kernel
theorem dX0_canBeWritten_22 : decode cX0_canBeWritten 22 = .ok (.iconst 0, 1) := by decide +kernel
theorem dX0_canBeWritten_23 : decode cX0_canBeWritten 23 = .ok (.ireturn, 1) := by decide +kernel
theorem dX0_canBeWritten_24 : decode cX0_canBeWritten 24 = .ok (.iinc 1 1, 3) := by decide +kernel
theorem dX0_canBeWritten_27 : decode cX0_canBeWritten 27 = .ok (.goto (-25), 3) := by decide +kernel
theorem dX0_canBeWritten_30 : decode cX0_canBeWritten 30 = .ok (.iconst 1, 1) := by decide +kernel
theorem dX0_canBeWritten_31 : decode cX0_canBeWritten 31 = .ok (.ireturn, 1) := by decide +kernel
theorem dX1_init_0 : decode cX1_init 0 = .ok (.aload_n 0, 1) := by decide +kernel
theorem dX1_init_1 : decode cX1_init 1 = .ok (.invokespecial 3, 3) := by decide +kernel
theorem dX1_init_4 : decode cX1_init 4 = .ok (.aload_n 0, 1) := by decide +kernel
theorem dX1_init_5 : decode cX1_init 5 = .ok (.bipush 14, 2) := by decide +kernel
theorem dX1_init_7 : decode cX1_init 7 = .ok (.newarray .int, 2) := by decide +kernel
theorem dX1_init_9 : decode cX1_init 9 = .ok (.putfield 9, 3) := by decide +kernel
theorem dX1_init_12 : decode cX1_init 12 = .ok (.return_, 1) := by decide +kernel
theorem dX1_around_0 : decode cX1_around 0 = .ok (.iload_n 1, 1) := by decide +kernel
theorem dX1_around_1 : decode cX1_around 1 = .ok (.ifCond .lt 18, 3) := by decide +kernel
theorem dX1_around_4 : decode cX1_around 4 = .ok (.iload_n 1, 1) := by decide +kernel
theorem dX1_around_5 : decode cX1_around 5 = .ok (.bipush 14, 2) := by decide +kernel
theorem dX1_around_7 : decode cX1_around 7 = .ok (.if_icmp .ge 12, 3) := by decide +kernel
theorem dX1_around_10 : decode cX1_around 10 = .ok (.aload_n 0, 1) := by decide +kernel
theorem dX1_around_11 : decode cX1_around 11 = .ok (.getfield 9, 3) := by decide +kernel
theorem dX1_around_14 : decode cX1_around 14 = .ok (.iload_n 1, 1) := by decide +kernel
theorem dX1_around_15 : decode cX1_around 15 = .ok (.iaload, 1) := by decide +kernel
theorem dX1_around_16 : decode cX1_around 16 = .ok (.goto 4, 3) := by decide +kernel
theorem dX1_around_19 : decode cX1_around 19 = .ok (.iconst 0, 1) := by decide +kernel
theorem dX1_around_20 : decode cX1_around 20 = .ok (.ireturn, 1) := by decide +kernel
theorem dX1_takenWith_0 : decode cX1_takenWith 0 = .ok (.iload_n 1, 1) := by decide +kernel
theorem dX1_takenWith_1 : decode cX1_takenWith 1 = .ok (.ifCond .lt 22, 3) := by decide +kernel
theorem dX1_takenWith_4 : decode cX1_takenWith 4 = .ok (.iload_n 1, 1) := by decide +kernel
theorem dX1_takenWith_5 : decode cX1_takenWith 5 = .ok (.bipush 14, 2) := by decide +kernel
theorem dX1_takenWith_7 : decode cX1_takenWith 7 = .ok (.if_icmp .ge 16, 3) := by decide +kernel
theorem dX1_takenWith_10 : decode cX1_takenWith 10 = .ok (.aload_n 0, 1) := by decide +kernel
theorem dX1_takenWith_11 : decode cX1_takenWith 11 = .ok (.getfield 9, 3) := by decide +kernel
theorem dX1_takenWith_14 : decode cX1_takenWith 14 = .ok (.iload_n 1, 1) := by decide +kernel
theorem dX1_takenWith_15 : decode cX1_takenWith 15 = .ok (.iaload, 1) := by decide +kernel
theorem dX1_takenWith_16 : decode cX1_takenWith 16 = .ok (.iconst 1, 1) := by decide +kernel
theorem dX1_takenWith_17 : decode cX1_takenWith 17 = .ok (.iload_n 1, 1) := by decide +kernel
theorem dX1_takenWith_18 : decode cX1_takenWith 18 = .ok (.ishl, 1) := by decide +kernel
theorem dX1_takenWith_19 : decode cX1_takenWith 19 = .ok (.ior, 1) := by decide +kernel
theorem dX1_takenWith_20 : decode cX1_takenWith 20 = .ok (.goto 4, 3) := by decide +kernel
theorem dX1_takenWith_23 : decode cX1_takenWith 23 = .ok (.iconst 0, 1) := by decide +kernel
theorem dX1_takenWith_24 : decode cX1_takenWith 24 = .ok (.ireturn, 1) := by decide +kernel
theorem dX1_link_0 : decode cX1_link 0 = .ok (.aload_n 0, 1) := by decide +kernel
theorem dX1_link_1 : decode cX1_link 1 = .ok (.iload_n 1, 1) := by decide +kernel
theorem dX1_link_2 : decode cX1_link 2 = .ok (.aload_n 0, 1) := by decide +kernel
theorem dX1_link_3 : decode cX1_link 3 = .ok (.iload_n 1, 1) := by decide +kernel
theorem dX1_link_4 : decode cX1_link 4 = .ok (.invokevirtual 15, 3) := by decide +kernel
theorem dX1_link_7 : decode cX1_link 7 = .ok (.iload_n 2, 1) := by decide +kernel
theorem dX1_link_8 : decode cX1_link 8 = .ok (.invokestatic 19, 3) := by decide +kernel
theorem dX1_link_11 : decode cX1_link 11 = .ok (.ior, 1) := by decide +kernel
theorem dX1_link_12 : decode cX1_link 12 = .ok (.invokevirtual 22, 3) := by decide +kernel
theorem dX1_link_15 : decode cX1_link 15 = .ok (.aload_n 0, 1) := by decide +kernel
theorem dX1_link_16 : decode cX1_link 16 = .ok (.iload_n 2, 1) := by decide +kernel
theorem dX1_link_17 : decode cX1_link 17 = .ok (.aload_n 0, 1) := by decide +kernel
theorem dX1_link_18 : decode cX1_link 18 = .ok (.iload_n 2, 1) := by decide +kernel
theorem dX1_link_19 : decode cX1_link 19 = .ok (.invokevirtual 15, 3) := by decide +kernel
theorem dX1_link_22 : decode cX1_link 22 = .ok (.iload_n 1, 1) := by decide +kernel
theorem dX1_link_23 : decode cX1_link 23 = .ok (.invokestatic 19, 3) := by decide +kernel
theorem dX1_link_26 : decode cX1_link 26 = .ok (.ior, 1) := by decide +kernel
theorem dX1_link_27 : decode cX1_link 27 = .ok (.invokevirtual 22, 3) := by decide +kernel
theorem dX1_link_30 : decode cX1_link 30 = .ok (.return_, 1) := by decide +kernel
theorem dX1_unlink_0 : decode cX1_unlink 0 = .ok (.aload_n 0, 1) := by decide +kernel
theorem dX1_unlink_1 : decode cX1_unlink 1 = .ok (.iload_n 1, 1) := by decide +kernel
theorem dX1_unlink_2 : decode cX1_unlink 2 = .ok (.aload_n 0, 1) := by decide +kernel
theorem dX1_unlink_3 : decode cX1_unlink 3 = .ok (.iload_n 1, 1) := by decide +kernel
theorem dX1_unlink_4 : decode cX1_unlink 4 = .ok (.invokevirtual 15, 3) := by decide +kernel
theorem dX1_unlink_7 : decode cX1_unlink 7 = .ok (.iload_n 2, 1) := by decide +kernel
theorem dX1_unlink_8 : decode cX1_unlink 8 = .ok (.invokestatic 19, 3) := by decide +kernel
theorem dX1_unlink_11 : decode cX1_unlink 11 = .ok (.iconst (-1), 1) := by decide +kernel
theorem dX1_unlink_12 : decode cX1_unlink 12 = .ok (.ixor, 1) := by decide +kernel
theorem dX1_unlink_13 : decode cX1_unlink 13 = .ok (.iand, 1) := by decide +kernel
theorem dX1_unlink_14 : decode cX1_unlink 14 = .ok (.invokevirtual 22, 3) := by decide +kernel
theorem dX1_unlink_17 : decode cX1_unlink 17 = .ok (.aload_n 0, 1) := by decide +kernel
theorem dX1_unlink_18 : decode cX1_unlink 18 = .ok (.iload_n 2, 1) := by decide +kernel
theorem dX1_unlink_19 : decode cX1_unlink 19 = .ok (.aload_n 0, 1) := by decide +kernel
theorem dX1_unlink_20 : decode cX1_unlink 20 = .ok (.iload_n 2, 1) := by decide +kernel
theorem dX1_unlink_21 : decode cX1_unlink 21 = .ok (.invokevirtual 15, 3) := by decide +kernel
theorem dX1_unlink_24 : decode cX1_unlink 24 = .ok (.iload_n 1, 1) := by decide +kernel
theorem dX1_unlink_25 : decode cX1_unlink 25 = .ok (.invokestatic 19, 3) := by decide +kernel
theorem dX1_unlink_28 : decode cX1_unlink 28 = .ok (.iconst (-1), 1) := by decide +kernel
theorem dX1_unlink_29 : decode cX1_unlink 29 = .ok (.ixor, 1) := by decide +kernel
theorem dX1_unlink_30 : decode cX1_unlink 30 = .ok (.iand, 1) := by decide +kernel
theorem dX1_unlink_31 : decode cX1_unlink 31 = .ok (.invokevirtual 22, 3) := by decide +kernel
theorem dX1_unlink_34 : decode cX1_unlink 34 = .ok (.return_, 1) := by decide +kernel
theorem dX1_setAround_0 : decode cX1_setAround 0 = .ok (.iload_n 1, 1) := by decide +kernel
theorem dX1_setAround_1 : decode cX1_setAround 1 = .ok (.ifCond .lt 16, 3) := by decide +kernel
theorem dX1_setAround_4 : decode cX1_setAround 4 = .ok (.iload_n 1, 1) := by decide +kernel
theorem dX1_setAround_5 : decode cX1_setAround 5 = .ok (.bipush 14, 2) := by decide +kernel
theorem dX1_setAround_7 : decode cX1_setAround 7 = .ok (.if_icmp .ge 10, 3) := by decide +kernel
theorem dX1_setAround_10 : decode cX1_setAround 10 = .ok (.aload_n 0, 1) := by decide +kernel
theorem dX1_setAround_11 : decode cX1_setAround 11 = .ok (.getfield 9, 3) := by decide +kernel
theorem dX1_setAround_14 : decode cX1_setAround 14 = .ok (.iload_n 1, 1) := by decide +kernel
theorem dX1_setAround_15 : decode cX1_setAround 15 = .ok (.iload_n 2, 1) := by decide +kernel
theorem dX1_setAround_16 : decode cX1_setAround 16 = .ok (.iastore, 1) := by decide +kernel
theorem dX1_setAround_17 : decode cX1_setAround 17 = .ok (.return_, 1) := by decide +kernel
theorem dX1_wipe_0 : decode cX1_wipe 0 = .ok (.aload_n 0, 1) := by decide +kernel
theorem dX1_wipe_1 : decode cX1_wipe 1 = .ok (.getfield 9, 3) := by decide +kernel
theorem dX1_wipe_4 : decode cX1_wipe 4 = .ok (.iconst 0, 1) := by decide +kernel
theorem dX1_wipe_5 : decode cX1_wipe 5 = .ok (.invokestatic 26, 3) := by decide +kernel
theorem dX1_wipe_8 : decode cX1_wipe 8 = .ok (.return_, 1) := by decide +kernel
theorem dX1_copyFrom_0 : decode cX1_copyFrom 0 = .ok (.aload_n 1, 1) := by decide +kernel
theorem dX1_copyFrom_1 : decode cX1_copyFrom 1 = .ok (.getfield 9, 3) := by decide +kernel
theorem dX1_copyFrom_4 : decode cX1_copyFrom 4 = .ok (.iconst 0, 1) := by decide +kernel
theorem dX1_copyFrom_5 : decode cX1_copyFrom 5 = .ok (.aload_n 0, 1) := by decide +kernel
theorem dX1_copyFrom_6 : decode cX1_copyFrom 6 = .ok (.getfield 9, 3) := by decide +kernel
theorem dX1_copyFrom_9 : decode cX1_copyFrom 9 = .ok (.iconst 0, 1) := by decide +kernel
theorem dX1_copyFrom_10 : decode cX1_copyFrom 10 = .ok (.bipush 14, 2) := by decide +kernel
theorem dX1_copyFrom_12 : decode cX1_copyFrom 12 = .ok (.invokestatic 32, 3) := by decide +kernel
theorem dX1_copyFrom_15 : decode cX1_copyFrom 15 = .ok (.return_, 1) := by decide +kernel
theorem dX1_isLike_0 : decode cX1_isLike 0 = .ok (.iconst 0, 1) := by decide +kernel
theorem dX1_isLike_1 : decode cX1_isLike 1 = .ok (.istore_n 2, 1) := by decide +kernel
theorem dX1_isLike_2 : decode cX1_isLike 2 = .ok (.iload_n 2, 1) := by decide +kernel
theorem dX1_isLike_3 : decode cX1_isLike 3 = .ok (.bipush 14, 2) := by decide +kernel
theorem dX1_isLike_5 : decode cX1_isLike 5 = .ok (.if_icmp .ge 26, 3) := by decide +kernel
theorem dX1_isLike_8 : decode cX1_isLike 8 = .ok (.aload_n 0, 1) := by decide +kernel
theorem dX1_isLike_9 : decode cX1_isLike 9 = .ok (.getfield 9, 3) := by decide +kernel
theorem dX1_isLike_12 : decode cX1_isLike 12 = .ok (.iload_n 2, 1) := by decide +kernel
theorem dX1_isLike_13 : decode cX1_isLike 13 = .ok (.iaload, 1) := by decide +kernel
theorem dX1_isLike_14 : decode cX1_isLike 14 = .ok (.aload_n 1, 1) := by decide +kernel
theorem dX1_isLike_15 : decode cX1_isLike 15 = .ok (.getfield 9, 3) := by decide +kernel
theorem dX1_isLike_18 : decode cX1_isLike 18 = .ok (.iload_n 2, 1) := by decide +kernel
theorem dX1_isLike_19 : decode cX1_isLike 19 = .ok (.iaload, 1) := by decide +kernel
theorem dX1_isLike_20 : decode cX1_isLike 20 = .ok (.if_icmp .eq 5, 3) := by decide +kernel
theorem dX1_isLike_23 : decode cX1_isLike 23 = .ok (.iconst 0, 1) := by decide +kernel
theorem dX1_isLike_24 : decode cX1_isLike 24 = .ok (.ireturn, 1) := by decide +kernel
theorem dX1_isLike_25 : decode cX1_isLike 25 = .ok (.iinc 2 1, 3) := by decide +kernel
theorem dX1_isLike_28 : decode cX1_isLike 28 = .ok (.goto (-26), 3) := by decide +kernel
theorem dX1_isLike_31 : decode cX1_isLike 31 = .ok (.iconst 1, 1) := by decide +kernel
theorem dX1_isLike_32 : decode cX1_isLike 32 = .ok (.ireturn, 1) := by decide +kernel
theorem dX1_reach_0 : decode cX1_reach 0 = .ok (.iload_n 1, 1) := by decide +kernel
theorem dX1_reach_1 : decode cX1_reach 1 = .ok (.invokestatic 19, 3) := by decide +kernel
theorem dX1_reach_4 : decode cX1_reach 4 = .ok (.iload_n 2, 1) := by decide +kernel
theorem dX1_reach_5 : decode cX1_reach 5 = .ok (.iand, 1) := by decide +kernel
theorem dX1_reach_6 : decode cX1_reach 6 = .ok (.istore_n 3, 1) := by decide +kernel
theorem dX1_reach_7 : decode cX1_reach 7 = .ok (.iload_n 3, 1) := by decide +kernel
theorem dX1_reach_8 : decode cX1_reach 8 = .ok (.istore 4, 2) := by decide +kernel
theorem dX1_reach_10 : decode cX1_reach 10 = .ok (.iconst 0, 1) := by decide +kernel
theorem dX1_reach_11 : decode cX1_reach 11 = .ok (.istore 5, 2) := by decide +kernel
theorem dX1_reach_13 : decode cX1_reach 13 = .ok (.iload 5, 2) := by decide +kernel
theorem dX1_reach_15 : decode cX1_reach 15 = .ok (.bipush 14, 2) := by decide +kernel
theorem dX1_reach_17 : decode cX1_reach 17 = .ok (.if_icmp .ge 55, 3) := by decide +kernel
theorem dX1_reach_20 : decode cX1_reach 20 = .ok (.iload 4, 2) := by decide +kernel
theorem dX1_reach_22 : decode cX1_reach 22 = .ok (.ifCond .eq 50, 3) := by decide +kernel
theorem dX1_reach_25 : decode cX1_reach 25 = .ok (.iload 4, 2) := by decide +kernel
theorem dX1_reach_27 : decode cX1_reach 27 = .ok (.invokestatic 38, 3) := by decide +kernel
theorem dX1_reach_30 : decode cX1_reach 30 = .ok (.istore 6, 2) := by decide +kernel
theorem dX1_reach_32 : decode cX1_reach 32 = .ok (.aload_n 0, 1) := by decide +kernel
theorem dX1_reach_33 : decode cX1_reach 33 = .ok (.iload 6, 2) := by decide +kernel
theorem dX1_reach_35 : decode cX1_reach 35 = .ok (.invokevirtual 15, 3) := by decide +kernel
theorem dX1_reach_38 : decode cX1_reach 38 = .ok (.iload_n 2, 1) := by decide +kernel
theorem dX1_reach_39 : decode cX1_reach 39 = .ok (.iand, 1) := by decide +kernel
theorem dX1_reach_40 : decode cX1_reach 40 = .ok (.iload_n 3, 1) := by decide +kernel
theorem dX1_reach_41 : decode cX1_reach 41 = .ok (.iconst (-1), 1) := by decide +kernel
theorem dX1_reach_42 : decode cX1_reach 42 = .ok (.ixor, 1) := by decide +kernel
theorem dX1_reach_43 : decode cX1_reach 43 = .ok (.iand, 1) := by decide +kernel
theorem dX1_reach_44 : decode cX1_reach 44 = .ok (.istore 7, 2) := by decide +kernel
theorem dX1_reach_46 : decode cX1_reach 46 = .ok (.iload_n 3, 1) := by decide +kernel
theorem dX1_reach_47 : decode cX1_reach 47 = .ok (.iload 7, 2) := by decide +kernel
theorem dX1_reach_49 : decode cX1_reach 49 = .ok (.ior, 1) := by decide +kernel
theorem dX1_reach_50 : decode cX1_reach 50 = .ok (.istore_n 3, 1) := by decide +kernel
theorem dX1_reach_51 : decode cX1_reach 51 = .ok (.iload 4, 2) := by decide +kernel
theorem dX1_reach_53 : decode cX1_reach 53 = .ok (.iload 7, 2) := by decide +kernel
theorem dX1_reach_55 : decode cX1_reach 55 = .ok (.ior, 1) := by decide +kernel
theorem dX1_reach_56 : decode cX1_reach 56 = .ok (.iload 6, 2) := by decide +kernel
theorem dX1_reach_58 : decode cX1_reach 58 = .ok (.invokestatic 19, 3) := by decide +kernel
theorem dX1_reach_61 : decode cX1_reach 61 = .ok (.iconst (-1), 1) := by decide +kernel
theorem dX1_reach_62 : decode cX1_reach 62 = .ok (.ixor, 1) := by decide +kernel
theorem dX1_reach_63 : decode cX1_reach 63 = .ok (.iand, 1) := by decide +kernel
theorem dX1_reach_64 : decode cX1_reach 64 = .ok (.istore 4, 2) := by decide +kernel
theorem dX1_reach_66 : decode cX1_reach 66 = .ok (.iinc 5 1, 3) := by decide +kernel
theorem dX1_reach_69 : decode cX1_reach 69 = .ok (.goto (-56), 3) := by decide +kernel
theorem dX1_reach_72 : decode cX1_reach 72 = .ok (.iload_n 3, 1) := by decide +kernel
theorem dX1_reach_73 : decode cX1_reach 73 = .ok (.ireturn, 1) := by decide +kernel
theorem dX1_edgesIn_0 : decode cX1_edgesIn 0 = .ok (.iconst 0, 1) := by decide +kernel
theorem dX1_edgesIn_1 : decode cX1_edgesIn 1 = .ok (.istore_n 2, 1) := by decide +kernel
theorem dX1_edgesIn_2 : decode cX1_edgesIn 2 = .ok (.iconst 0, 1) := by decide +kernel
theorem dX1_edgesIn_3 : decode cX1_edgesIn 3 = .ok (.istore_n 3, 1) := by decide +kernel
theorem dX1_edgesIn_4 : decode cX1_edgesIn 4 = .ok (.iload_n 3, 1) := by decide +kernel
theorem dX1_edgesIn_5 : decode cX1_edgesIn 5 = .ok (.bipush 14, 2) := by decide +kernel
theorem dX1_edgesIn_7 : decode cX1_edgesIn 7 = .ok (.if_icmp .ge 30, 3) := by decide +kernel
theorem dX1_edgesIn_10 : decode cX1_edgesIn 10 = .ok (.iload_n 1, 1) := by decide +kernel
theorem dX1_edgesIn_11 : decode cX1_edgesIn 11 = .ok (.iload_n 3, 1) := by decide +kernel
theorem dX1_edgesIn_12 : decode cX1_edgesIn 12 = .ok (.invokestatic 43, 3) := by decide +kernel
theorem dX1_edgesIn_15 : decode cX1_edgesIn 15 = .ok (.ifCond .eq 16, 3) := by decide +kernel
theorem dX1_edgesIn_18 : decode cX1_edgesIn 18 = .ok (.iload_n 2, 1) := by decide +kernel
theorem dX1_edgesIn_19 : decode cX1_edgesIn 19 = .ok (.aload_n 0, 1) := by decide +kernel
theorem dX1_edgesIn_20 : decode cX1_edgesIn 20 = .ok (.iload_n 3, 1) := by decide +kernel
theorem dX1_edgesIn_21 : decode cX1_edgesIn 21 = .ok (.invokevirtual 15, 3) := by decide +kernel
theorem dX1_edgesIn_24 : decode cX1_edgesIn 24 = .ok (.iload_n 1, 1) := by decide +kernel
theorem dX1_edgesIn_25 : decode cX1_edgesIn 25 = .ok (.iand, 1) := by decide +kernel
theorem dX1_edgesIn_26 : decode cX1_edgesIn 26 = .ok (.invokestatic 47, 3) := by decide +kernel
theorem dX1_edgesIn_29 : decode cX1_edgesIn 29 = .ok (.iadd, 1) := by decide +kernel
theorem dX1_edgesIn_30 : decode cX1_edgesIn 30 = .ok (.istore_n 2, 1) := by decide +kernel
theorem dX1_edgesIn_31 : decode cX1_edgesIn 31 = .ok (.iinc 3 1, 3) := by decide +kernel
theorem dX1_edgesIn_34 : decode cX1_edgesIn 34 = .ok (.goto (-30), 3) := by decide +kernel
theorem dX1_edgesIn_37 : decode cX1_edgesIn 37 = .ok (.iload_n 2, 1) := by decide +kernel
theorem dX1_edgesIn_38 : decode cX1_edgesIn 38 = .ok (.iconst 2, 1) := by decide +kernel
theorem dX1_edgesIn_39 : decode cX1_edgesIn 39 = .ok (.idiv, 1) := by decide +kernel
theorem dX1_edgesIn_40 : decode cX1_edgesIn 40 = .ok (.ireturn, 1) := by decide +kernel
theorem dX1_longestWay_0 : decode cX1_longestWay 0 = .ok (.iconst 0, 1) := by decide +kernel
theorem dX1_longestWay_1 : decode cX1_longestWay 1 = .ok (.istore_n 2, 1) := by decide +kernel
theorem dX1_longestWay_2 : decode cX1_longestWay 2 = .ok (.iconst 0, 1) := by decide +kernel
theorem dX1_longestWay_3 : decode cX1_longestWay 3 = .ok (.istore_n 3, 1) := by decide +kernel
theorem dX1_longestWay_4 : decode cX1_longestWay 4 = .ok (.iload_n 3, 1) := by decide +kernel
theorem dX1_longestWay_5 : decode cX1_longestWay 5 = .ok (.bipush 14, 2) := by decide +kernel
theorem dX1_longestWay_7 : decode cX1_longestWay 7 = .ok (.if_icmp .ge 28, 3) := by decide +kernel
theorem dX1_longestWay_10 : decode cX1_longestWay 10 = .ok (.iload_n 1, 1) := by decide +kernel
theorem dX1_longestWay_11 : decode cX1_longestWay 11 = .ok (.iload_n 3, 1) := by decide +kernel
theorem dX1_longestWay_12 : decode cX1_longestWay 12 = .ok (.invokestatic 43, 3) := by decide +kernel
theorem dX1_longestWay_15 : decode cX1_longestWay 15 = .ok (.ifCond .eq 14, 3) := by decide +kernel
theorem dX1_longestWay_18 : decode cX1_longestWay 18 = .ok (.iload_n 2, 1) := by decide +kernel
theorem dX1_longestWay_19 : decode cX1_longestWay 19 = .ok (.aload_n 0, 1) := by decide +kernel
theorem dX1_longestWay_20 : decode cX1_longestWay 20 = .ok (.iload_n 3, 1) := by decide +kernel
theorem dX1_longestWay_21 : decode cX1_longestWay 21 = .ok (.iload_n 1, 1) := by decide +kernel
theorem dX1_longestWay_22 : decode cX1_longestWay 22 = .ok (.invokevirtual 50, 3) := by decide +kernel
theorem dX1_longestWay_25 : decode cX1_longestWay 25 = .ok (.invokestatic 54, 3) := by decide +kernel
theorem dX1_longestWay_28 : decode cX1_longestWay 28 = .ok (.istore_n 2, 1) := by decide +kernel
theorem dX1_longestWay_29 : decode cX1_longestWay 29 = .ok (.iinc 3 1, 3) := by decide +kernel
theorem dX1_longestWay_32 : decode cX1_longestWay 32 = .ok (.goto (-28), 3) := by decide +kernel
theorem dX1_longestWay_35 : decode cX1_longestWay 35 = .ok (.iload_n 2, 1) := by decide +kernel
theorem dX1_longestWay_36 : decode cX1_longestWay 36 = .ok (.ireturn, 1) := by decide +kernel
theorem dX1_longestWayFrom_0 : decode cX1_longestWayFrom 0 = .ok (.iload_n 1, 1) := by decide +kernel
theorem dX1_longestWayFrom_1 : decode cX1_longestWayFrom 1 = .ok (.invokestatic 19, 3) := by decide +kernel
theorem dX1_longestWayFrom_4 : decode cX1_longestWayFrom 4 = .ok (.istore_n 3, 1) := by decide +kernel
theorem dX1_longestWayFrom_5 : decode cX1_longestWayFrom 5 = .ok (.iconst 0, 1) := by decide +kernel
theorem dX1_longestWayFrom_6 : decode cX1_longestWayFrom 6 = .ok (.istore 4, 2) := by decide +kernel
theorem dX1_longestWayFrom_8 : decode cX1_longestWayFrom 8 = .ok (.iconst 1, 1) := by decide +kernel
theorem dX1_longestWayFrom_9 : decode cX1_longestWayFrom 9 = .ok (.istore 5, 2) := by decide +kernel
theorem dX1_longestWayFrom_11 : decode cX1_longestWayFrom 11 = .ok (.iload 5, 2) := by decide +kernel
theorem dX1_longestWayFrom_13 : decode cX1_longestWayFrom 13 = .ok (.bipush 14, 2) := by decide +kernel
theorem dX1_longestWayFrom_15 : decode cX1_longestWayFrom 15 = .ok (.if_icmp .ge 33, 3) := by decide +kernel
theorem dX1_longestWayFrom_18 : decode cX1_longestWayFrom 18 = .ok (.iload_n 3, 1) := by decide +kernel
theorem dX1_longestWayFrom_19 : decode cX1_longestWayFrom 19 = .ok (.aload_n 0, 1) := by decide +kernel
theorem dX1_longestWayFrom_20 : decode cX1_longestWayFrom 20 = .ok (.iload_n 3, 1) := by decide +kernel
theorem dX1_longestWayFrom_21 : decode cX1_longestWayFrom 21 = .ok (.invokevirtual 59, 3) := by decide +kernel
theorem dX1_longestWayFrom_24 : decode cX1_longestWayFrom 24 = .ok (.iload_n 2, 1) := by decide +kernel
theorem dX1_longestWayFrom_25 : decode cX1_longestWayFrom 25 = .ok (.iand, 1) := by decide +kernel
theorem dX1_longestWayFrom_26 : decode cX1_longestWayFrom 26 = .ok (.ior, 1) := by decide +kernel
theorem dX1_longestWayFrom_27 : decode cX1_longestWayFrom 27 = .ok (.istore 6, 2) := by decide +kernel
theorem dX1_longestWayFrom_29 : decode cX1_longestWayFrom 29 = .ok (.iload 6, 2) := by decide +kernel
theorem dX1_longestWayFrom_31 : decode cX1_longestWayFrom 31 = .ok (.iload_n 3, 1) := by decide +kernel
theorem dX1_longestWayFrom_32 : decode cX1_longestWayFrom 32 = .ok (.if_icmp .eq 7, 3) := by decide +kernel
theorem dX1_longestWayFrom_35 : decode cX1_longestWayFrom 35 = .ok (.iload 5, 2) := by decide +kernel
theorem dX1_longestWayFrom_37 : decode cX1_longestWayFrom 37 = .ok (.istore 4, 2) := by decide +kernel
theorem dX1_longestWayFrom_39 : decode cX1_longestWayFrom 39 = .ok (.iload 6, 2) := by decide +kernel
theorem dX1_longestWayFrom_41 : decode cX1_longestWayFrom 41 = .ok (.istore_n 3, 1) := by decide +kernel
theorem dX1_longestWayFrom_42 : decode cX1_longestWayFrom 42 = .ok (.iinc 5 1, 3) := by decide +kernel
theorem dX1_longestWayFrom_45 : decode cX1_longestWayFrom 45 = .ok (.goto (-34), 3) := by decide +kernel
theorem dX1_longestWayFrom_48 : decode cX1_longestWayFrom 48 = .ok (.iload 4, 2) := by decide +kernel
theorem dX1_longestWayFrom_50 : decode cX1_longestWayFrom 50 = .ok (.ireturn, 1) := by decide +kernel
theorem dX1_aroundAny_0 : decode cX1_aroundAny 0 = .ok (.iconst 0, 1) := by decide +kernel
theorem dX1_aroundAny_1 : decode cX1_aroundAny 1 = .ok (.istore_n 2, 1) := by decide +kernel
theorem dX1_aroundAny_2 : decode cX1_aroundAny 2 = .ok (.iconst 0, 1) := by decide +kernel
theorem dX1_aroundAny_3 : decode cX1_aroundAny 3 = .ok (.istore_n 3, 1) := by decide +kernel
theorem dX1_aroundAny_4 : decode cX1_aroundAny 4 = .ok (.iload_n 3, 1) := by decide +kernel
theorem dX1_aroundAny_5 : decode cX1_aroundAny 5 = .ok (.bipush 14, 2) := by decide +kernel
theorem dX1_aroundAny_7 : decode cX1_aroundAny 7 = .ok (.if_icmp .ge 26, 3) := by decide +kernel
theorem dX1_aroundAny_10 : decode cX1_aroundAny 10 = .ok (.iload_n 1, 1) := by decide +kernel
theorem dX1_aroundAny_11 : decode cX1_aroundAny 11 = .ok (.iload_n 3, 1) := by decide +kernel
theorem dX1_aroundAny_12 : decode cX1_aroundAny 12 = .ok (.invokestatic 43, 3) := by decide +kernel
theorem dX1_aroundAny_15 : decode cX1_aroundAny 15 = .ok (.ifCond .eq 12, 3) := by decide +kernel
theorem dX1_aroundAny_18 : decode cX1_aroundAny 18 = .ok (.iload_n 2, 1) := by decide +kernel
theorem dX1_aroundAny_19 : decode cX1_aroundAny 19 = .ok (.aload_n 0, 1) := by decide +kernel
theorem dX1_aroundAny_20 : decode cX1_aroundAny 20 = .ok (.getfield 9, 3) := by decide +kernel
theorem dX1_aroundAny_23 : decode cX1_aroundAny 23 = .ok (.iload_n 3, 1) := by decide +kernel
theorem dX1_aroundAny_24 : decode cX1_aroundAny 24 = .ok (.iaload, 1) := by decide +kernel
theorem dX1_aroundAny_25 : decode cX1_aroundAny 25 = .ok (.ior, 1) := by decide +kernel
theorem dX1_aroundAny_26 : decode cX1_aroundAny 26 = .ok (.istore_n 2, 1) := by decide +kernel
theorem dX1_aroundAny_27 : decode cX1_aroundAny 27 = .ok (.iinc 3 1, 3) := by decide +kernel
theorem dX1_aroundAny_30 : decode cX1_aroundAny 30 = .ok (.goto (-26), 3) := by decide +kernel
theorem dX1_aroundAny_33 : decode cX1_aroundAny 33 = .ok (.iload_n 2, 1) := by decide +kernel
theorem dX1_aroundAny_34 : decode cX1_aroundAny 34 = .ok (.ireturn, 1) := by decide +kernel
theorem dX2_init_0 : decode cX2_init 0 = .ok (.aload_n 0, 1) := by decide +kernel
theorem dX2_init_1 : decode cX2_init 1 = .ok (.invokespecial 3, 3) := by decide +kernel
theorem dX2_init_4 : decode cX2_init 4 = .ok (.aload_n 0, 1) := by decide +kernel
theorem dX2_init_5 : decode cX2_init 5 = .ok (.bipush 6, 2) := by decide +kernel
theorem dX2_init_7 : decode cX2_init 7 = .ok (.anewarray 9, 3) := by decide +kernel
theorem dX2_init_10 : decode cX2_init 10 = .ok (.putfield 11, 3) := by decide +kernel
theorem dX2_init_13 : decode cX2_init 13 = .ok (.aload_n 0, 1) := by decide +kernel
theorem dX2_init_14 : decode cX2_init 14 = .ok (.iconst 0, 1) := by decide +kernel
theorem dX2_init_15 : decode cX2_init 15 = .ok (.putfield 17, 3) := by decide +kernel
theorem dX2_init_18 : decode cX2_init 18 = .ok (.aload_n 0, 1) := by decide +kernel
theorem dX2_init_19 : decode cX2_init 19 = .ok (.iconst 0, 1) := by decide +kernel
theorem dX2_init_20 : decode cX2_init 20 = .ok (.putfield 21, 3) := by decide +kernel
theorem dX2_init_23 : decode cX2_init 23 = .ok (.iconst 0, 1) := by decide +kernel
theorem dX2_init_24 : decode cX2_init 24 = .ok (.istore_n 1, 1) := by decide +kernel
theorem dX2_init_25 : decode cX2_init 25 = .ok (.iload_n 1, 1) := by decide +kernel
theorem dX2_init_26 : decode cX2_init 26 = .ok (.bipush 6, 2) := by decide +kernel
theorem dX2_init_28 : decode cX2_init 28 = .ok (.if_icmp .ge 22, 3) := by decide +kernel
theorem dX2_init_31 : decode cX2_init 31 = .ok (.aload_n 0, 1) := by decide +kernel
theorem dX2_init_32 : decode cX2_init 32 = .ok (.getfield 11, 3) := by decide +kernel
theorem dX2_init_35 : decode cX2_init 35 = .ok (.iload_n 1, 1) := by decide +kernel
theorem dX2_init_36 : decode cX2_init 36 = .ok (.new 9, 3) := by decide +kernel
theorem dX2_init_39 : decode cX2_init 39 = .ok (.dup, 1) := by decide +kernel
theorem dX2_init_40 : decode cX2_init 40 = .ok (.invokespecial 24, 3) := by decide +kernel
theorem dX2_init_43 : decode cX2_init 43 = .ok (.aastore, 1) := by decide +kernel
theorem dX2_init_44 : decode cX2_init 44 = .ok (.iinc 1 1, 3) := by decide +kernel
theorem dX2_init_47 : decode cX2_init 47 = .ok (.goto (-22), 3) := by decide +kernel
theorem dX2_init_50 : decode cX2_init 50 = .ok (.return_, 1) := by decide +kernel
theorem dX2_save_0 : decode cX2_save 0 = .ok (.aload_n 0, 1) := by decide +kernel
theorem dX2_save_1 : decode cX2_save 1 = .ok (.getfield 21, 3) := by decide +kernel
theorem dX2_save_4 : decode cX2_save 4 = .ok (.bipush 6, 2) := by decide +kernel
theorem dX2_save_6 : decode cX2_save 6 = .ok (.if_icmp .lt 21, 3) := by decide +kernel
theorem dX2_save_9 : decode cX2_save 9 = .ok (.aload_n 0, 1) := by decide +kernel
theorem dX2_save_10 : decode cX2_save 10 = .ok (.aload_n 0, 1) := by decide +kernel
theorem dX2_save_11 : decode cX2_save 11 = .ok (.getfield 17, 3) := by decide +kernel
theorem dX2_save_14 : decode cX2_save 14 = .ok (.iconst 1, 1) := by decide +kernel
theorem dX2_save_15 : decode cX2_save 15 = .ok (.iadd, 1) := by decide +kernel
theorem dX2_save_16 : decode cX2_save 16 = .ok (.bipush 6, 2) := by decide +kernel
theorem dX2_save_18 : decode cX2_save 18 = .ok (.irem, 1) := by decide +kernel
theorem dX2_save_19 : decode cX2_save 19 = .ok (.putfield 17, 3) := by decide +kernel
theorem dX2_save_22 : decode cX2_save 22 = .ok (.aload_n 0, 1) := by decide +kernel
theorem dX2_save_23 : decode cX2_save 23 = .ok (.iconst 5, 1) := by decide +kernel
theorem dX2_save_24 : decode cX2_save 24 = .ok (.putfield 21, 3) := by decide +kernel
theorem dX2_save_27 : decode cX2_save 27 = .ok (.aload_n 0, 1) := by decide +kernel
theorem dX2_save_28 : decode cX2_save 28 = .ok (.getfield 11, 3) := by decide +kernel
theorem dX2_save_31 : decode cX2_save 31 = .ok (.aload_n 0, 1) := by decide +kernel
theorem dX2_save_32 : decode cX2_save 32 = .ok (.getfield 17, 3) := by decide +kernel
theorem dX2_save_35 : decode cX2_save 35 = .ok (.aload_n 0, 1) := by decide +kernel
theorem dX2_save_36 : decode cX2_save 36 = .ok (.getfield 21, 3) := by decide +kernel
theorem dX2_save_39 : decode cX2_save 39 = .ok (.iadd, 1) := by decide +kernel
theorem dX2_save_40 : decode cX2_save 40 = .ok (.bipush 6, 2) := by decide +kernel
theorem dX2_save_42 : decode cX2_save 42 = .ok (.invokestatic 25, 3) := by decide +kernel
theorem dX2_save_45 : decode cX2_save 45 = .ok (.aaload, 1) := by decide +kernel
theorem dX2_save_46 : decode cX2_save 46 = .ok (.astore_n 2, 1) := by decide +kernel
theorem dX2_save_47 : decode cX2_save 47 = .ok (.aload_n 2, 1) := by decide +kernel
theorem dX2_save_48 : decode cX2_save 48 = .ok (.ifnull 8, 3) := by decide +kernel
theorem dX2_save_51 : decode cX2_save 51 = .ok (.aload_n 2, 1) := by decide +kernel
theorem dX2_save_52 : decode cX2_save 52 = .ok (.aload_n 1, 1) := by decide +kernel
theorem dX2_save_53 : decode cX2_save 53 = .ok (.invokevirtual 31, 3) := by decide +kernel
theorem dX2_save_56 : decode cX2_save 56 = .ok (.aload_n 0, 1) := by decide +kernel
theorem dX2_save_57 : decode cX2_save 57 = .ok (.dup, 1) := by decide +kernel
theorem dX2_save_58 : decode cX2_save 58 = .ok (.getfield 21, 3) := by decide +kernel
theorem dX2_save_61 : decode cX2_save 61 = .ok (.iconst 1, 1) := by decide +kernel
theorem dX2_save_62 : decode cX2_save 62 = .ok (.iadd, 1) := by decide +kernel
theorem dX2_save_63 : decode cX2_save 63 = .ok (.putfield 21, 3) := by decide +kernel
theorem dX2_save_66 : decode cX2_save 66 = .ok (.return_, 1) := by decide +kernel
theorem dX2_restore_0 : decode cX2_restore 0 = .ok (.aload_n 0, 1) := by decide +kernel
theorem dX2_restore_1 : decode cX2_restore 1 = .ok (.getfield 21, 3) := by decide +kernel
theorem dX2_restore_4 : decode cX2_restore 4 = .ok (.ifCond .gt 4, 3) := by decide +kernel
theorem dX2_restore_7 : decode cX2_restore 7 = .ok (.return_, 1) := by decide +kernel
theorem dX2_restore_8 : decode cX2_restore 8 = .ok (.aload_n 0, 1) := by decide +kernel
theorem dX2_restore_9 : decode cX2_restore 9 = .ok (.dup, 1) := by decide +kernel
theorem dX2_restore_10 : decode cX2_restore 10 = .ok (.getfield 21, 3) := by decide +kernel
theorem dX2_restore_13 : decode cX2_restore 13 = .ok (.iconst 1, 1) := by decide +kernel
theorem dX2_restore_14 : decode cX2_restore 14 = .ok (.isub, 1) := by decide +kernel
theorem dX2_restore_15 : decode cX2_restore 15 = .ok (.putfield 21, 3) := by decide +kernel
theorem dX2_restore_18 : decode cX2_restore 18 = .ok (.aload_n 0, 1) := by decide +kernel
theorem dX2_restore_19 : decode cX2_restore 19 = .ok (.getfield 11, 3) := by decide +kernel
theorem dX2_restore_22 : decode cX2_restore 22 = .ok (.aload_n 0, 1) := by decide +kernel
theorem dX2_restore_23 : decode cX2_restore 23 = .ok (.getfield 17, 3) := by decide +kernel
theorem dX2_restore_26 : decode cX2_restore 26 = .ok (.aload_n 0, 1) := by decide +kernel
theorem dX2_restore_27 : decode cX2_restore 27 = .ok (.getfield 21, 3) := by decide +kernel
theorem dX2_restore_30 : decode cX2_restore 30 = .ok (.iadd, 1) := by decide +kernel
theorem dX2_restore_31 : decode cX2_restore 31 = .ok (.bipush 6, 2) := by decide +kernel
theorem dX2_restore_33 : decode cX2_restore 33 = .ok (.invokestatic 25, 3) := by decide +kernel
theorem dX2_restore_36 : decode cX2_restore 36 = .ok (.aaload, 1) := by decide +kernel
theorem dX2_restore_37 : decode cX2_restore 37 = .ok (.astore_n 2, 1) := by decide +kernel
theorem dX2_restore_38 : decode cX2_restore 38 = .ok (.aload_n 2, 1) := by decide +kernel
theorem dX2_restore_39 : decode cX2_restore 39 = .ok (.ifnull 8, 3) := by decide +kernel
theorem dX2_restore_42 : decode cX2_restore 42 = .ok (.aload_n 1, 1) := by decide +kernel
theorem dX2_restore_43 : decode cX2_restore 43 = .ok (.aload_n 2, 1) := by decide +kernel
theorem dX2_restore_44 : decode cX2_restore 44 = .ok (.invokevirtual 31, 3) := by decide +kernel
theorem dX2_restore_47 : decode cX2_restore 47 = .ok (.return_, 1) := by decide +kernel
theorem dX3_init_0 : decode cX3_init 0 = .ok (.aload_n 0, 1) := by decide +kernel
theorem dX3_init_1 : decode cX3_init 1 = .ok (.invokespecial 3, 3) := by decide +kernel
theorem dX3_init_4 : decode cX3_init 4 = .ok (.aload_n 0, 1) := by decide +kernel
theorem dX3_init_5 : decode cX3_init 5 = .ok (.new 9, 3) := by decide +kernel
theorem dX3_init_8 : decode cX3_init 8 = .ok (.dup, 1) := by decide +kernel
theorem dX3_init_9 : decode cX3_init 9 = .ok (.invokespecial 11, 3) := by decide +kernel
theorem dX3_init_12 : decode cX3_init 12 = .ok (.putfield 12, 3) := by decide +kernel
theorem dX3_init_15 : decode cX3_init 15 = .ok (.aload_n 0, 1) := by decide +kernel
theorem dX3_init_16 : decode cX3_init 16 = .ok (.sipush 16384, 3) := by decide +kernel
theorem dX3_init_19 : decode cX3_init 19 = .ok (.newarray .int, 2) := by decide +kernel
theorem dX3_init_21 : decode cX3_init 21 = .ok (.putfield 18, 3) := by decide +kernel
theorem dX3_init_24 : decode cX3_init 24 = .ok (.return_, 1) := by decide +kernel
theorem dX3_follow_0 : decode cX3_follow 0 = .ok (.aload_n 0, 1) := by decide +kernel
theorem dX3_follow_1 : decode cX3_follow 1 = .ok (.getfield 12, 3) := by decide +kernel
theorem dX3_follow_4 : decode cX3_follow 4 = .ok (.aload_n 1, 1) := by decide +kernel
theorem dX3_follow_5 : decode cX3_follow 5 = .ok (.invokevirtual 22, 3) := by decide +kernel
theorem dX3_follow_8 : decode cX3_follow 8 = .ok (.ifCond .ne 19, 3) := by decide +kernel
theorem dX3_follow_11 : decode cX3_follow 11 = .ok (.aload_n 0, 1) := by decide +kernel
theorem dX3_follow_12 : decode cX3_follow 12 = .ok (.getfield 12, 3) := by decide +kernel
theorem dX3_follow_15 : decode cX3_follow 15 = .ok (.aload_n 1, 1) := by decide +kernel
theorem dX3_follow_16 : decode cX3_follow 16 = .ok (.invokevirtual 26, 3) := by decide +kernel
theorem dX3_follow_19 : decode cX3_follow 19 = .ok (.aload_n 0, 1) := by decide +kernel
theorem dX3_follow_20 : decode cX3_follow 20 = .ok (.getfield 18, 3) := by decide +kernel
theorem dX3_follow_23 : decode cX3_follow 23 = .ok (.iconst 0, 1) := by decide +kernel
theorem dX3_follow_24 : decode cX3_follow 24 = .ok (.invokestatic 30, 3) := by decide +kernel
theorem dX3_follow_27 : decode cX3_follow 27 = .ok (.return_, 1) := by decide +kernel
theorem dX3_valueFor_0 : decode cX3_valueFor 0 = .ok (.aload_n 0, 1) := by decide +kernel
theorem dX3_valueFor_1 : decode cX3_valueFor 1 = .ok (.iload_n 1, 1) := by decide +kernel
theorem dX3_valueFor_2 : decode cX3_valueFor 2 = .ok (.iconst 0, 1) := by decide +kernel
theorem dX3_valueFor_3 : decode cX3_valueFor 3 = .ok (.invokevirtual 36, 3) := by decide +kernel
theorem dX3_valueFor_6 : decode cX3_valueFor 6 = .ok (.sipush 255, 3) := by decide +kernel
theorem dX3_valueFor_9 : decode cX3_valueFor 9 = .ok (.iand, 1) := by decide +kernel
theorem dX3_valueFor_10 : decode cX3_valueFor 10 = .ok (.ireturn, 1) := by decide +kernel
theorem dX3_shortestFor_0 : decode cX3_shortestFor 0 = .ok (.aload_n 0, 1) := by decide +kernel
theorem dX3_shortestFor_1 : decode cX3_shortestFor 1 = .ok (.iload_n 1, 1) := by decide +kernel
theorem dX3_shortestFor_2 : decode cX3_shortestFor 2 = .ok (.iconst 0, 1) := by decide +kernel
theorem dX3_shortestFor_3 : decode cX3_shortestFor 3 = .ok (.invokevirtual 36, 3) := by decide +kernel
theorem dX3_shortestFor_6 : decode cX3_shortestFor 6 = .ok (.bipush 8, 2) := by decide +kernel
theorem dX3_shortestFor_8 : decode cX3_shortestFor 8 = .ok (.ishr, 1) := by decide +kernel
theorem dX3_shortestFor_9 : decode cX3_shortestFor 9 = .ok (.sipush 255, 3) := by decide +kernel
theorem dX3_shortestFor_12 : decode cX3_shortestFor 12 = .ok (.iand, 1) := by decide +kernel
theorem dX3_shortestFor_13 : decode cX3_shortestFor 13 = .ok (.ireturn, 1) := by decide +kernel
theorem dX3_longestFor_0 : decode cX3_longestFor 0 = .ok (.aload_n 0, 1) := by decide +kernel
theorem dX3_longestFor_1 : decode cX3_longestFor 1 = .ok (.iload_n 1, 1) := by decide +kernel
theorem dX3_longestFor_2 : decode cX3_longestFor 2 = .ok (.iconst 0, 1) := by decide +kernel
theorem dX3_longestFor_3 : decode cX3_longestFor 3 = .ok (.invokevirtual 36, 3) := by decide +kernel
theorem dX3_longestFor_6 : decode cX3_longestFor 6 = .ok (.bipush 16, 2) := by decide +kernel
theorem dX3_longestFor_8 : decode cX3_longestFor 8 = .ok (.ishr, 1) := by decide +kernel
theorem dX3_longestFor_9 : decode cX3_longestFor 9 = .ok (.sipush 255, 3) := by decide +kernel
theorem dX3_longestFor_12 : decode cX3_longestFor 12 = .ok (.iand, 1) := by decide +kernel
theorem dX3_longestFor_13 : decode cX3_longestFor 13 = .ok (.ireturn, 1) := by decide +kernel
theorem dX3_isMisereWonFor_0 : decode cX3_isMisereWonFor 0 = .ok (.aload_n 0, 1) := by decide +kernel
theorem dX3_isMisereWonFor_1 : decode cX3_isMisereWonFor 1 = .ok (.iload_n 1, 1) := by decide +kernel
theorem dX3_isMisereWonFor_2 : decode cX3_isMisereWonFor 2 = .ok (.iconst 0, 1) := by decide +kernel
theorem dX3_isMisereWonFor_3 : decode cX3_isMisereWonFor 3 = .ok (.invokevirtual 40, 3) := by decide +kernel
theorem dX3_isMisereWonFor_6 : decode cX3_isMisereWonFor 6 = .ok (.ireturn, 1) := by decide +kernel
theorem dX3_pack_0 : decode cX3_pack 0 = .ok (.iload_n 0, 1) := by decide +kernel
theorem dX3_pack_1 : decode cX3_pack 1 = .ok (.iload_n 1, 1) := by decide +kernel
theorem dX3_pack_2 : decode cX3_pack 2 = .ok (.bipush 8, 2) := by decide +kernel
theorem dX3_pack_4 : decode cX3_pack 4 = .ok (.ishl, 1) := by decide +kernel
theorem dX3_pack_5 : decode cX3_pack 5 = .ok (.ior, 1) := by decide +kernel
theorem dX3_pack_6 : decode cX3_pack 6 = .ok (.iload_n 2, 1) := by decide +kernel
theorem dX3_pack_7 : decode cX3_pack 7 = .ok (.bipush 16, 2) := by decide +kernel
theorem dX3_pack_9 : decode cX3_pack 9 = .ok (.ishl, 1) := by decide +kernel
theorem dX3_pack_10 : decode cX3_pack 10 = .ok (.ior, 1) := by decide +kernel
theorem dX3_pack_11 : decode cX3_pack 11 = .ok (.ireturn, 1) := by decide +kernel
theorem dX3_factsOf_0 : decode cX3_factsOf 0 = .ok (.iload_n 1, 1) := by decide +kernel
theorem dX3_factsOf_1 : decode cX3_factsOf 1 = .ok (.ifCond .le 18, 3) := by decide +kernel
theorem dX3_factsOf_4 : decode cX3_factsOf 4 = .ok (.iload_n 1, 1) := by decide +kernel
theorem dX3_factsOf_5 : decode cX3_factsOf 5 = .ok (.aload_n 0, 1) := by decide +kernel
theorem dX3_factsOf_6 : decode cX3_factsOf 6 = .ok (.getfield 18, 3) := by decide +kernel
theorem dX3_factsOf_9 : decode cX3_factsOf 9 = .ok (.arraylength, 1) := by decide +kernel
theorem dX3_factsOf_10 : decode cX3_factsOf 10 = .ok (.if_icmp .ge 9, 3) := by decide +kernel
theorem dX3_factsOf_13 : decode cX3_factsOf 13 = .ok (.iload_n 2, 1) := by decide +kernel
theorem dX3_factsOf_14 : decode cX3_factsOf 14 = .ok (.bipush 14, 2) := by decide +kernel
theorem dX3_factsOf_16 : decode cX3_factsOf 16 = .ok (.if_icmp .le 5, 3) := by decide +kernel
theorem dX3_factsOf_19 : decode cX3_factsOf 19 = .ok (.iconst 0, 1) := by decide +kernel
theorem dX3_factsOf_20 : decode cX3_factsOf 20 = .ok (.ireturn, 1) := by decide +kernel
theorem dX3_factsOf_21 : decode cX3_factsOf 21 = .ok (.aload_n 0, 1) := by decide +kernel
theorem dX3_factsOf_22 : decode cX3_factsOf 22 = .ok (.getfield 18, 3) := by decide +kernel
theorem dX3_factsOf_25 : decode cX3_factsOf 25 = .ok (.iload_n 1, 1) := by decide +kernel
theorem dX3_factsOf_26 : decode cX3_factsOf 26 = .ok (.iaload, 1) := by decide +kernel
theorem dX3_factsOf_27 : decode cX3_factsOf 27 = .ok (.ldc 44, 2) := by decide +kernel
theorem dX3_factsOf_29 : decode cX3_factsOf 29 = .ok (.iand, 1) := by decide +kernel
theorem dX3_factsOf_30 : decode cX3_factsOf 30 = .ok (.ifCond .ne 57, 3) := by decide +kernel
theorem dX3_factsOf_33 : decode cX3_factsOf 33 = .ok (.aload_n 0, 1) := by decide +kernel
theorem dX3_factsOf_34 : decode cX3_factsOf 34 = .ok (.getfield 12, 3) := by decide +kernel
theorem dX3_factsOf_37 : decode cX3_factsOf 37 = .ok (.iload_n 1, 1) := by decide +kernel
theorem dX3_factsOf_38 : decode cX3_factsOf 38 = .ok (.invokestatic 45, 3) := by decide +kernel
theorem dX3_factsOf_41 : decode cX3_factsOf 41 = .ok (.iload_n 1, 1) := by decide +kernel
theorem dX3_factsOf_42 : decode cX3_factsOf 42 = .ok (.invokevirtual 51, 3) := by decide +kernel
theorem dX3_factsOf_45 : decode cX3_factsOf 45 = .ok (.istore_n 3, 1) := by decide +kernel
theorem dX3_factsOf_46 : decode cX3_factsOf 46 = .ok (.iload_n 3, 1) := by decide +kernel
theorem dX3_factsOf_47 : decode cX3_factsOf 47 = .ok (.iload_n 1, 1) := by decide +kernel
theorem dX3_factsOf_48 : decode cX3_factsOf 48 = .ok (.if_icmp .ne 12, 3) := by decide +kernel
theorem dX3_factsOf_51 : decode cX3_factsOf 51 = .ok (.aload_n 0, 1) := by decide +kernel
theorem dX3_factsOf_52 : decode cX3_factsOf 52 = .ok (.iload_n 1, 1) := by decide +kernel
theorem dX3_factsOf_53 : decode cX3_factsOf 53 = .ok (.iload_n 2, 1) := by decide +kernel
theorem dX3_factsOf_54 : decode cX3_factsOf 54 = .ok (.invokevirtual 54, 3) := by decide +kernel
theorem dX3_factsOf_57 : decode cX3_factsOf 57 = .ok (.goto 14, 3) := by decide +kernel
theorem dX3_factsOf_60 : decode cX3_factsOf 60 = .ok (.aload_n 0, 1) := by decide +kernel
theorem dX3_factsOf_61 : decode cX3_factsOf 61 = .ok (.iload_n 3, 1) := by decide +kernel
theorem dX3_factsOf_62 : decode cX3_factsOf 62 = .ok (.iload_n 1, 1) := by decide +kernel
theorem dX3_factsOf_63 : decode cX3_factsOf 63 = .ok (.iload_n 3, 1) := by decide +kernel
theorem dX3_factsOf_64 : decode cX3_factsOf 64 = .ok (.iconst (-1), 1) := by decide +kernel
theorem dX3_factsOf_65 : decode cX3_factsOf 65 = .ok (.ixor, 1) := by decide +kernel
theorem dX3_factsOf_66 : decode cX3_factsOf 66 = .ok (.iand, 1) := by decide +kernel
theorem dX3_factsOf_67 : decode cX3_factsOf 67 = .ok (.iload_n 2, 1) := by decide +kernel
theorem dX3_factsOf_68 : decode cX3_factsOf 68 = .ok (.invokevirtual 57, 3) := by decide +kernel
theorem dX3_factsOf_71 : decode cX3_factsOf 71 = .ok (.istore 4, 2) := by decide +kernel
theorem dX3_factsOf_73 : decode cX3_factsOf 73 = .ok (.aload_n 0, 1) := by decide +kernel
theorem dX3_factsOf_74 : decode cX3_factsOf 74 = .ok (.getfield 18, 3) := by decide +kernel
theorem dX3_factsOf_77 : decode cX3_factsOf 77 = .ok (.iload_n 1, 1) := by decide +kernel
theorem dX3_factsOf_78 : decode cX3_factsOf 78 = .ok (.dup2, 1) := by decide +kernel
theorem dX3_factsOf_79 : decode cX3_factsOf 79 = .ok (.iaload, 1) := by decide +kernel
theorem dX3_factsOf_80 : decode cX3_factsOf 80 = .ok (.iload 4, 2) := by decide +kernel
theorem dX3_factsOf_82 : decode cX3_factsOf 82 = .ok (.ldc 44, 2) := by decide +kernel
theorem dX3_factsOf_84 : decode cX3_factsOf 84 = .ok (.ior, 1) := by decide +kernel
theorem dX3_factsOf_85 : decode cX3_factsOf 85 = .ok (.ior, 1) := by decide +kernel
theorem dX3_factsOf_86 : decode cX3_factsOf 86 = .ok (.iastore, 1) := by decide +kernel
theorem dX3_factsOf_87 : decode cX3_factsOf 87 = .ok (.aload_n 0, 1) := by decide +kernel
theorem dX3_factsOf_88 : decode cX3_factsOf 88 = .ok (.getfield 18, 3) := by decide +kernel
theorem dX3_factsOf_91 : decode cX3_factsOf 91 = .ok (.iload_n 1, 1) := by decide +kernel
theorem dX3_factsOf_92 : decode cX3_factsOf 92 = .ok (.iaload, 1) := by decide +kernel
theorem dX3_factsOf_93 : decode cX3_factsOf 93 = .ok (.ireturn, 1) := by decide +kernel
theorem dX3_factsOfParts_0 : decode cX3_factsOfParts 0 = .ok (.aload_n 0, 1) := by decide +kernel
theorem dX3_factsOfParts_1 : decode cX3_factsOfParts 1 = .ok (.iload_n 1, 1) := by decide +kernel
theorem dX3_factsOfParts_2 : decode cX3_factsOfParts 2 = .ok (.iload_n 3, 1) := by decide +kernel
theorem dX3_factsOfParts_3 : decode cX3_factsOfParts 3 = .ok (.iconst 1, 1) := by decide +kernel
theorem dX3_factsOfParts_4 : decode cX3_factsOfParts 4 = .ok (.iadd, 1) := by decide +kernel
theorem dX3_factsOfParts_5 : decode cX3_factsOfParts 5 = .ok (.invokevirtual 36, 3) := by decide +kernel
theorem dX3_factsOfParts_8 : decode cX3_factsOfParts 8 = .ok (.istore 4, 2) := by decide +kernel
theorem dX3_factsOfParts_10 : decode cX3_factsOfParts 10 = .ok (.aload_n 0, 1) := by decide +kernel
theorem dX3_factsOfParts_11 : decode cX3_factsOfParts 11 = .ok (.iload_n 2, 1) := by decide +kernel
theorem dX3_factsOfParts_12 : decode cX3_factsOfParts 12 = .ok (.iload_n 3, 1) := by decide +kernel
theorem dX3_factsOfParts_13 : decode cX3_factsOfParts 13 = .ok (.iconst 1, 1) := by decide +kernel
theorem dX3_factsOfParts_14 : decode cX3_factsOfParts 14 = .ok (.iadd, 1) := by decide +kernel
theorem dX3_factsOfParts_15 : decode cX3_factsOfParts 15 = .ok (.invokevirtual 36, 3) := by decide +kernel
theorem dX3_factsOfParts_18 : decode cX3_factsOfParts 18 = .ok (.istore 5, 2) := by decide +kernel
theorem dX3_factsOfParts_20 : decode cX3_factsOfParts 20 = .ok (.iload 4, 2) := by decide +kernel
theorem dX3_factsOfParts_22 : decode cX3_factsOfParts 22 = .ok (.iload 5, 2) := by decide +kernel
theorem dX3_factsOfParts_24 : decode cX3_factsOfParts 24 = .ok (.ixor, 1) := by decide +kernel
theorem dX3_factsOfParts_25 : decode cX3_factsOfParts 25 = .ok (.sipush 255, 3) := by decide +kernel
theorem dX3_factsOfParts_28 : decode cX3_factsOfParts 28 = .ok (.iand, 1) := by decide +kernel
theorem dX3_factsOfParts_29 : decode cX3_factsOfParts 29 = .ok (.iload 4, 2) := by decide +kernel
theorem dX3_factsOfParts_31 : decode cX3_factsOfParts 31 = .ok (.bipush 8, 2) := by decide +kernel
theorem dX3_factsOfParts_33 : decode cX3_factsOfParts 33 = .ok (.ishr, 1) := by decide +kernel
theorem dX3_factsOfParts_34 : decode cX3_factsOfParts 34 = .ok (.sipush 255, 3) := by decide +kernel
theorem dX3_factsOfParts_37 : decode cX3_factsOfParts 37 = .ok (.iand, 1) := by decide +kernel
theorem dX3_factsOfParts_38 : decode cX3_factsOfParts 38 = .ok (.iload 5, 2) := by decide +kernel
theorem dX3_factsOfParts_40 : decode cX3_factsOfParts 40 = .ok (.bipush 8, 2) := by decide +kernel
theorem dX3_factsOfParts_42 : decode cX3_factsOfParts 42 = .ok (.ishr, 1) := by decide +kernel
theorem dX3_factsOfParts_43 : decode cX3_factsOfParts 43 = .ok (.sipush 255, 3) := by decide +kernel
theorem dX3_factsOfParts_46 : decode cX3_factsOfParts 46 = .ok (.iand, 1) := by decide +kernel
theorem dX3_factsOfParts_47 : decode cX3_factsOfParts 47 = .ok (.iadd, 1) := by decide +kernel
theorem dX3_factsOfParts_48 : decode cX3_factsOfParts 48 = .ok (.iload 4, 2) := by decide +kernel
theorem dX3_factsOfParts_50 : decode cX3_factsOfParts 50 = .ok (.bipush 16, 2) := by decide +kernel
theorem dX3_factsOfParts_52 : decode cX3_factsOfParts 52 = .ok (.ishr, 1) := by decide +kernel
theorem dX3_factsOfParts_53 : decode cX3_factsOfParts 53 = .ok (.sipush 255, 3) := by decide +kernel
theorem dX3_factsOfParts_56 : decode cX3_factsOfParts 56 = .ok (.iand, 1) := by decide +kernel
theorem dX3_factsOfParts_57 : decode cX3_factsOfParts 57 = .ok (.iload 5, 2) := by decide +kernel
theorem dX3_factsOfParts_59 : decode cX3_factsOfParts 59 = .ok (.bipush 16, 2) := by decide +kernel
theorem dX3_factsOfParts_61 : decode cX3_factsOfParts 61 = .ok (.ishr, 1) := by decide +kernel
theorem dX3_factsOfParts_62 : decode cX3_factsOfParts 62 = .ok (.sipush 255, 3) := by decide +kernel
theorem dX3_factsOfParts_65 : decode cX3_factsOfParts 65 = .ok (.iand, 1) := by decide +kernel
theorem dX3_factsOfParts_66 : decode cX3_factsOfParts 66 = .ok (.iadd, 1) := by decide +kernel
theorem dX3_factsOfParts_67 : decode cX3_factsOfParts 67 = .ok (.invokestatic 61, 3) := by decide +kernel
theorem dX3_factsOfParts_70 : decode cX3_factsOfParts 70 = .ok (.ireturn, 1) := by decide +kernel
theorem dX3_factsOfTree_0 : decode cX3_factsOfTree 0 = .ok (.iconst 0, 1) := by decide +kernel
theorem dX3_factsOfTree_1 : decode cX3_factsOfTree 1 = .ok (.istore_n 3, 1) := by decide +kernel
theorem dX3_factsOfTree_2 : decode cX3_factsOfTree 2 = .ok (.bipush 14, 2) := by decide +kernel
theorem dX3_factsOfTree_4 : decode cX3_factsOfTree 4 = .ok (.istore 4, 2) := by decide +kernel
theorem dX3_factsOfTree_6 : decode cX3_factsOfTree 6 = .ok (.iconst 0, 1) := by decide +kernel
theorem dX3_factsOfTree_7 : decode cX3_factsOfTree 7 = .ok (.istore 5, 2) := by decide +kernel
theorem dX3_factsOfTree_9 : decode cX3_factsOfTree 9 = .ok (.iconst 0, 1) := by decide +kernel
theorem dX3_factsOfTree_10 : decode cX3_factsOfTree 10 = .ok (.istore 6, 2) := by decide +kernel
theorem dX3_factsOfTree_12 : decode cX3_factsOfTree 12 = .ok (.iload 6, 2) := by decide +kernel
theorem dX3_factsOfTree_14 : decode cX3_factsOfTree 14 = .ok (.bipush 14, 2) := by decide +kernel
theorem dX3_factsOfTree_16 : decode cX3_factsOfTree 16 = .ok (.if_icmp .ge 83, 3) := by decide +kernel
theorem dX3_factsOfTree_19 : decode cX3_factsOfTree 19 = .ok (.iload_n 1, 1) := by decide +kernel
theorem dX3_factsOfTree_20 : decode cX3_factsOfTree 20 = .ok (.iload 6, 2) := by decide +kernel
theorem dX3_factsOfTree_22 : decode cX3_factsOfTree 22 = .ok (.invokestatic 64, 3) := by decide +kernel
theorem dX3_factsOfTree_25 : decode cX3_factsOfTree 25 = .ok (.ifCond .eq 68, 3) := by decide +kernel
theorem dX3_factsOfTree_28 : decode cX3_factsOfTree 28 = .ok (.aload_n 0, 1) := by decide +kernel
theorem dX3_factsOfTree_29 : decode cX3_factsOfTree 29 = .ok (.iload_n 1, 1) := by decide +kernel
theorem dX3_factsOfTree_30 : decode cX3_factsOfTree 30 = .ok (.aload_n 0, 1) := by decide +kernel
theorem dX3_factsOfTree_31 : decode cX3_factsOfTree 31 = .ok (.getfield 12, 3) := by decide +kernel
theorem dX3_factsOfTree_34 : decode cX3_factsOfTree 34 = .ok (.iload 6, 2) := by decide +kernel
theorem dX3_factsOfTree_36 : decode cX3_factsOfTree 36 = .ok (.invokevirtual 67, 3) := by decide +kernel
theorem dX3_factsOfTree_39 : decode cX3_factsOfTree 39 = .ok (.iconst (-1), 1) := by decide +kernel
theorem dX3_factsOfTree_40 : decode cX3_factsOfTree 40 = .ok (.ixor, 1) := by decide +kernel
theorem dX3_factsOfTree_41 : decode cX3_factsOfTree 41 = .ok (.iand, 1) := by decide +kernel
theorem dX3_factsOfTree_42 : decode cX3_factsOfTree 42 = .ok (.iload_n 2, 1) := by decide +kernel
theorem dX3_factsOfTree_43 : decode cX3_factsOfTree 43 = .ok (.iconst 1, 1) := by decide +kernel
theorem dX3_factsOfTree_44 : decode cX3_factsOfTree 44 = .ok (.iadd, 1) := by decide +kernel
theorem dX3_factsOfTree_45 : decode cX3_factsOfTree 45 = .ok (.invokevirtual 36, 3) := by decide +kernel
theorem dX3_factsOfTree_48 : decode cX3_factsOfTree 48 = .ok (.istore 7, 2) := by decide +kernel
theorem dX3_factsOfTree_50 : decode cX3_factsOfTree 50 = .ok (.iload_n 3, 1) := by decide +kernel
theorem dX3_factsOfTree_51 : decode cX3_factsOfTree 51 = .ok (.iconst 1, 1) := by decide +kernel
theorem dX3_factsOfTree_52 : decode cX3_factsOfTree 52 = .ok (.iload 7, 2) := by decide +kernel
theorem dX3_factsOfTree_54 : decode cX3_factsOfTree 54 = .ok (.sipush 255, 3) := by decide +kernel
theorem dX3_factsOfTree_57 : decode cX3_factsOfTree 57 = .ok (.iand, 1) := by decide +kernel
theorem dX3_factsOfTree_58 : decode cX3_factsOfTree 58 = .ok (.ishl, 1) := by decide +kernel
theorem dX3_factsOfTree_59 : decode cX3_factsOfTree 59 = .ok (.ior, 1) := by decide +kernel
theorem dX3_factsOfTree_60 : decode cX3_factsOfTree 60 = .ok (.istore_n 3, 1) := by decide +kernel
theorem dX3_factsOfTree_61 : decode cX3_factsOfTree 61 = .ok (.iload 4, 2) := by decide +kernel
theorem dX3_factsOfTree_63 : decode cX3_factsOfTree 63 = .ok (.iload 7, 2) := by decide +kernel
theorem dX3_factsOfTree_65 : decode cX3_factsOfTree 65 = .ok (.bipush 8, 2) := by decide +kernel
theorem dX3_factsOfTree_67 : decode cX3_factsOfTree 67 = .ok (.ishr, 1) := by decide +kernel
theorem dX3_factsOfTree_68 : decode cX3_factsOfTree 68 = .ok (.sipush 255, 3) := by decide +kernel
theorem dX3_factsOfTree_71 : decode cX3_factsOfTree 71 = .ok (.iand, 1) := by decide +kernel
theorem dX3_factsOfTree_72 : decode cX3_factsOfTree 72 = .ok (.invokestatic 70, 3) := by decide +kernel
theorem dX3_factsOfTree_75 : decode cX3_factsOfTree 75 = .ok (.istore 4, 2) := by decide +kernel
theorem dX3_factsOfTree_77 : decode cX3_factsOfTree 77 = .ok (.iload 5, 2) := by decide +kernel
theorem dX3_factsOfTree_79 : decode cX3_factsOfTree 79 = .ok (.iload 7, 2) := by decide +kernel
theorem dX3_factsOfTree_81 : decode cX3_factsOfTree 81 = .ok (.bipush 16, 2) := by decide +kernel
theorem dX3_factsOfTree_83 : decode cX3_factsOfTree 83 = .ok (.ishr, 1) := by decide +kernel
theorem dX3_factsOfTree_84 : decode cX3_factsOfTree 84 = .ok (.sipush 255, 3) := by decide +kernel
theorem dX3_factsOfTree_87 : decode cX3_factsOfTree 87 = .ok (.iand, 1) := by decide +kernel
theorem dX3_factsOfTree_88 : decode cX3_factsOfTree 88 = .ok (.invokestatic 75, 3) := by decide +kernel
theorem dX3_factsOfTree_91 : decode cX3_factsOfTree 91 = .ok (.istore 5, 2) := by decide +kernel
theorem dX3_factsOfTree_93 : decode cX3_factsOfTree 93 = .ok (.iinc 6 1, 3) := by decide +kernel
theorem dX3_factsOfTree_96 : decode cX3_factsOfTree 96 = .ok (.goto (-84), 3) := by decide +kernel
theorem dX3_factsOfTree_99 : decode cX3_factsOfTree 99 = .ok (.iload_n 3, 1) := by decide +kernel
theorem dX3_factsOfTree_100 : decode cX3_factsOfTree 100 = .ok (.iconst (-1), 1) := by decide +kernel
theorem dX3_factsOfTree_101 : decode cX3_factsOfTree 101 = .ok (.ixor, 1) := by decide +kernel
theorem dX3_factsOfTree_102 : decode cX3_factsOfTree 102 = .ok (.invokestatic 45, 3) := by decide +kernel
theorem dX3_factsOfTree_105 : decode cX3_factsOfTree 105 = .ok (.iload 4, 2) := by decide +kernel
theorem dX3_factsOfTree_107 : decode cX3_factsOfTree 107 = .ok (.iconst 1, 1) := by decide +kernel
theorem dX3_factsOfTree_108 : decode cX3_factsOfTree 108 = .ok (.iadd, 1) := by decide +kernel
theorem dX3_factsOfTree_109 : decode cX3_factsOfTree 109 = .ok (.iload 5, 2) := by decide +kernel
theorem dX3_factsOfTree_111 : decode cX3_factsOfTree 111 = .ok (.iconst 1, 1) := by decide +kernel
theorem dX3_factsOfTree_112 : decode cX3_factsOfTree 112 = .ok (.iadd, 1) := by decide +kernel
theorem dX3_factsOfTree_113 : decode cX3_factsOfTree 113 = .ok (.invokestatic 61, 3) := by decide +kernel
theorem dX3_factsOfTree_116 : decode cX3_factsOfTree 116 = .ok (.ireturn, 1) := by decide +kernel
theorem dX3_isMisereWon_0 : decode cX3_isMisereWon 0 = .ok (.iload_n 1, 1) := by decide +kernel
theorem dX3_isMisereWon_1 : decode cX3_isMisereWon 1 = .ok (.ifCond .le 18, 3) := by decide +kernel
theorem dX3_isMisereWon_4 : decode cX3_isMisereWon 4 = .ok (.iload_n 1, 1) := by decide +kernel
theorem dX3_isMisereWon_5 : decode cX3_isMisereWon 5 = .ok (.aload_n 0, 1) := by decide +kernel
theorem dX3_isMisereWon_6 : decode cX3_isMisereWon 6 = .ok (.getfield 18, 3) := by decide +kernel
theorem dX3_isMisereWon_9 : decode cX3_isMisereWon 9 = .ok (.arraylength, 1) := by decide +kernel
theorem dX3_isMisereWon_10 : decode cX3_isMisereWon 10 = .ok (.if_icmp .ge 9, 3) := by decide +kernel
theorem dX3_isMisereWon_13 : decode cX3_isMisereWon 13 = .ok (.iload_n 2, 1) := by decide +kernel
theorem dX3_isMisereWon_14 : decode cX3_isMisereWon 14 = .ok (.bipush 14, 2) := by decide +kernel
theorem dX3_isMisereWon_16 : decode cX3_isMisereWon 16 = .ok (.if_icmp .le 5, 3) := by decide +kernel
theorem dX3_isMisereWon_19 : decode cX3_isMisereWon 19 = .ok (.iconst 1, 1) := by decide +kernel
theorem dX3_isMisereWon_20 : decode cX3_isMisereWon 20 = .ok (.ireturn, 1) := by decide +kernel
theorem dX3_isMisereWon_21 : decode cX3_isMisereWon 21 = .ok (.aload_n 0, 1) := by decide +kernel
theorem dX3_isMisereWon_22 : decode cX3_isMisereWon 22 = .ok (.getfield 18, 3) := by decide +kernel
theorem dX3_isMisereWon_25 : decode cX3_isMisereWon 25 = .ok (.iload_n 1, 1) := by decide +kernel
theorem dX3_isMisereWon_26 : decode cX3_isMisereWon 26 = .ok (.iaload, 1) := by decide +kernel
theorem dX3_isMisereWon_27 : decode cX3_isMisereWon 27 = .ok (.ldc 78, 2) := by decide +kernel
theorem dX3_isMisereWon_29 : decode cX3_isMisereWon 29 = .ok (.iand, 1) := by decide +kernel
theorem dX3_isMisereWon_30 : decode cX3_isMisereWon 30 = .ok (.ifCond .ne 32, 3) := by decide +kernel
theorem dX3_isMisereWon_33 : decode cX3_isMisereWon 33 = .ok (.aload_n 0, 1) := by decide +kernel
theorem dX3_isMisereWon_34 : decode cX3_isMisereWon 34 = .ok (.iload_n 1, 1) := by decide +kernel
theorem dX3_isMisereWon_35 : decode cX3_isMisereWon 35 = .ok (.iload_n 2, 1) := by decide +kernel
theorem dX3_isMisereWon_36 : decode cX3_isMisereWon 36 = .ok (.invokevirtual 79, 3) := by decide +kernel
theorem dX3_isMisereWon_39 : decode cX3_isMisereWon 39 = .ok (.ifCond .eq 8, 3) := by decide +kernel
theorem dX3_isMisereWon_42 : decode cX3_isMisereWon 42 = .ok (.ldc 82, 2) := by decide +kernel
theorem dX3_isMisereWon_44 : decode cX3_isMisereWon 44 = .ok (.goto 4, 3) := by decide +kernel
theorem dX3_isMisereWon_47 : decode cX3_isMisereWon 47 = .ok (.iconst 0, 1) := by decide +kernel
theorem dX3_isMisereWon_48 : decode cX3_isMisereWon 48 = .ok (.istore_n 3, 1) := by decide +kernel
theorem dX3_isMisereWon_49 : decode cX3_isMisereWon 49 = .ok (.aload_n 0, 1) := by decide +kernel
theorem dX3_isMisereWon_50 : decode cX3_isMisereWon 50 = .ok (.getfield 18, 3) := by decide +kernel
theorem dX3_isMisereWon_53 : decode cX3_isMisereWon 53 = .ok (.iload_n 1, 1) := by decide +kernel
theorem dX3_isMisereWon_54 : decode cX3_isMisereWon 54 = .ok (.dup2, 1) := by decide +kernel
theorem dX3_isMisereWon_55 : decode cX3_isMisereWon 55 = .ok (.iaload, 1) := by decide +kernel
theorem dX3_isMisereWon_56 : decode cX3_isMisereWon 56 = .ok (.iload_n 3, 1) := by decide +kernel
theorem dX3_isMisereWon_57 : decode cX3_isMisereWon 57 = .ok (.ldc 78, 2) := by decide +kernel
theorem dX3_isMisereWon_59 : decode cX3_isMisereWon 59 = .ok (.ior, 1) := by decide +kernel
theorem dX3_isMisereWon_60 : decode cX3_isMisereWon 60 = .ok (.ior, 1) := by decide +kernel
theorem dX3_isMisereWon_61 : decode cX3_isMisereWon 61 = .ok (.iastore, 1) := by decide +kernel
theorem dX3_isMisereWon_62 : decode cX3_isMisereWon 62 = .ok (.aload_n 0, 1) := by decide +kernel
theorem dX3_isMisereWon_63 : decode cX3_isMisereWon 63 = .ok (.getfield 18, 3) := by decide +kernel
theorem dX3_isMisereWon_66 : decode cX3_isMisereWon 66 = .ok (.iload_n 1, 1) := by decide +kernel
theorem dX3_isMisereWon_67 : decode cX3_isMisereWon 67 = .ok (.iaload, 1) := by decide +kernel
theorem dX3_isMisereWon_68 : decode cX3_isMisereWon 68 = .ok (.ldc 82, 2) := by decide +kernel
theorem dX3_isMisereWon_70 : decode cX3_isMisereWon 70 = .ok (.iand, 1) := by decide +kernel
theorem dX3_isMisereWon_71 : decode cX3_isMisereWon 71 = .ok (.ifCond .eq 7, 3) := by decide +kernel
theorem dX3_isMisereWon_74 : decode cX3_isMisereWon 74 = .ok (.iconst 1, 1) := by decide +kernel
theorem dX3_isMisereWon_75 : decode cX3_isMisereWon 75 = .ok (.goto 4, 3) := by decide +kernel
theorem dX3_isMisereWon_78 : decode cX3_isMisereWon 78 = .ok (.iconst 0, 1) := by decide +kernel
theorem dX3_isMisereWon_79 : decode cX3_isMisereWon 79 = .ok (.ireturn, 1) := by decide +kernel
theorem dX3_hasMisereWin_0 : decode cX3_hasMisereWin 0 = .ok (.iconst 0, 1) := by decide +kernel
theorem dX3_hasMisereWin_1 : decode cX3_hasMisereWin 1 = .ok (.istore_n 3, 1) := by decide +kernel
theorem dX3_hasMisereWin_2 : decode cX3_hasMisereWin 2 = .ok (.iconst 0, 1) := by decide +kernel
theorem dX3_hasMisereWin_3 : decode cX3_hasMisereWin 3 = .ok (.istore 4, 2) := by decide +kernel
theorem dX3_hasMisereWin_5 : decode cX3_hasMisereWin 5 = .ok (.iload 4, 2) := by decide +kernel
theorem dX3_hasMisereWin_7 : decode cX3_hasMisereWin 7 = .ok (.bipush 14, 2) := by decide +kernel
theorem dX3_hasMisereWin_9 : decode cX3_hasMisereWin 9 = .ok (.if_icmp .ge 78, 3) := by decide +kernel
theorem dX3_hasMisereWin_12 : decode cX3_hasMisereWin 12 = .ok (.aload_n 0, 1) := by decide +kernel
theorem dX3_hasMisereWin_13 : decode cX3_hasMisereWin 13 = .ok (.getfield 12, 3) := by decide +kernel
theorem dX3_hasMisereWin_16 : decode cX3_hasMisereWin 16 = .ok (.iload 4, 2) := by decide +kernel
theorem dX3_hasMisereWin_18 : decode cX3_hasMisereWin 18 = .ok (.invokevirtual 83, 3) := by decide +kernel
theorem dX3_hasMisereWin_21 : decode cX3_hasMisereWin 21 = .ok (.iload_n 1, 1) := by decide +kernel
theorem dX3_hasMisereWin_22 : decode cX3_hasMisereWin 22 = .ok (.iand, 1) := by decide +kernel
theorem dX3_hasMisereWin_23 : decode cX3_hasMisereWin 23 = .ok (.ifCond .ne 7, 3) := by decide +kernel
theorem dX3_hasMisereWin_26 : decode cX3_hasMisereWin 26 = .ok (.iconst 1, 1) := by decide +kernel
theorem dX3_hasMisereWin_27 : decode cX3_hasMisereWin 27 = .ok (.goto 4, 3) := by decide +kernel
theorem dX3_hasMisereWin_30 : decode cX3_hasMisereWin 30 = .ok (.iconst 0, 1) := by decide +kernel
theorem dX3_hasMisereWin_31 : decode cX3_hasMisereWin 31 = .ok (.istore 5, 2) := by decide +kernel
theorem dX3_hasMisereWin_33 : decode cX3_hasMisereWin 33 = .ok (.iload_n 1, 1) := by decide +kernel
theorem dX3_hasMisereWin_34 : decode cX3_hasMisereWin 34 = .ok (.iload 4, 2) := by decide +kernel
theorem dX3_hasMisereWin_36 : decode cX3_hasMisereWin 36 = .ok (.invokestatic 64, 3) := by decide +kernel
theorem dX3_hasMisereWin_39 : decode cX3_hasMisereWin 39 = .ok (.ifCond .eq 42, 3) := by decide +kernel
theorem dX3_hasMisereWin_42 : decode cX3_hasMisereWin 42 = .ok (.iload 5, 2) := by decide +kernel
theorem dX3_hasMisereWin_44 : decode cX3_hasMisereWin 44 = .ok (.ifCond .eq 7, 3) := by decide +kernel
theorem dX3_hasMisereWin_47 : decode cX3_hasMisereWin 47 = .ok (.iload_n 3, 1) := by decide +kernel
theorem dX3_hasMisereWin_48 : decode cX3_hasMisereWin 48 = .ok (.ifCond .ne 33, 3) := by decide +kernel
theorem dX3_hasMisereWin_51 : decode cX3_hasMisereWin 51 = .ok (.aload_n 0, 1) := by decide +kernel
theorem dX3_hasMisereWin_52 : decode cX3_hasMisereWin 52 = .ok (.iload_n 1, 1) := by decide +kernel
theorem dX3_hasMisereWin_53 : decode cX3_hasMisereWin 53 = .ok (.aload_n 0, 1) := by decide +kernel
theorem dX3_hasMisereWin_54 : decode cX3_hasMisereWin 54 = .ok (.getfield 12, 3) := by decide +kernel
theorem dX3_hasMisereWin_57 : decode cX3_hasMisereWin 57 = .ok (.iload 4, 2) := by decide +kernel
theorem dX3_hasMisereWin_59 : decode cX3_hasMisereWin 59 = .ok (.invokevirtual 67, 3) := by decide +kernel
theorem dX3_hasMisereWin_62 : decode cX3_hasMisereWin 62 = .ok (.iconst (-1), 1) := by decide +kernel
theorem dX3_hasMisereWin_63 : decode cX3_hasMisereWin 63 = .ok (.ixor, 1) := by decide +kernel
theorem dX3_hasMisereWin_64 : decode cX3_hasMisereWin 64 = .ok (.iand, 1) := by decide +kernel
theorem dX3_hasMisereWin_65 : decode cX3_hasMisereWin 65 = .ok (.iload_n 2, 1) := by decide +kernel
theorem dX3_hasMisereWin_66 : decode cX3_hasMisereWin 66 = .ok (.iconst 1, 1) := by decide +kernel
theorem dX3_hasMisereWin_67 : decode cX3_hasMisereWin 67 = .ok (.iadd, 1) := by decide +kernel
theorem dX3_hasMisereWin_68 : decode cX3_hasMisereWin 68 = .ok (.invokevirtual 40, 3) := by decide +kernel
theorem dX3_hasMisereWin_71 : decode cX3_hasMisereWin 71 = .ok (.ifCond .ne 5, 3) := by decide +kernel
theorem dX3_hasMisereWin_74 : decode cX3_hasMisereWin 74 = .ok (.iconst 1, 1) := by decide +kernel
theorem dX3_hasMisereWin_75 : decode cX3_hasMisereWin 75 = .ok (.ireturn, 1) := by decide +kernel
theorem dX3_hasMisereWin_76 : decode cX3_hasMisereWin 76 = .ok (.iload_n 3, 1) := by decide +kernel
theorem dX3_hasMisereWin_77 : decode cX3_hasMisereWin 77 = .ok (.iload 5, 2) := by decide +kernel
theorem dX3_hasMisereWin_79 : decode cX3_hasMisereWin 79 = .ok (.ior, 1) := by decide +kernel
theorem dX3_hasMisereWin_80 : decode cX3_hasMisereWin 80 = .ok (.istore_n 3, 1) := by decide +kernel
theorem dX3_hasMisereWin_81 : decode cX3_hasMisereWin 81 = .ok (.iinc 4 1, 3) := by decide +kernel
theorem dX3_hasMisereWin_84 : decode cX3_hasMisereWin 84 = .ok (.goto (-79), 3) := by decide +kernel
theorem dX3_hasMisereWin_87 : decode cX3_hasMisereWin 87 = .ok (.iconst 0, 1) := by decide +kernel
theorem dX3_hasMisereWin_88 : decode cX3_hasMisereWin 88 = .ok (.ireturn, 1) := by decide +kernel
theorem dX4_init_0 : decode cX4_init 0 = .ok (.aload_n 0, 1) := by decide +kernel
theorem dX4_init_1 : decode cX4_init 1 = .ok (.invokespecial 3, 3) := by decide +kernel
theorem dX4_init_4 : decode cX4_init 4 = .ok (.aload_n 0, 1) := by decide +kernel
theorem dX4_init_5 : decode cX4_init 5 = .ok (.bipush 14, 2) := by decide +kernel
theorem dX4_init_7 : decode cX4_init 7 = .ok (.newarray .int, 2) := by decide +kernel
theorem dX4_init_9 : decode cX4_init 9 = .ok (.putfield 9, 3) := by decide +kernel
theorem dX4_init_12 : decode cX4_init 12 = .ok (.return_, 1) := by decide +kernel
theorem dX4_classFor_0 : decode cX4_classFor 0 = .ok (.iconst 0, 1) := by decide +kernel
theorem dX4_classFor_1 : decode cX4_classFor 1 = .ok (.istore_n 3, 1) := by decide +kernel
theorem dX4_classFor_2 : decode cX4_classFor 2 = .ok (.iconst 0, 1) := by decide +kernel
theorem dX4_classFor_3 : decode cX4_classFor 3 = .ok (.istore 4, 2) := by decide +kernel
theorem dX4_classFor_5 : decode cX4_classFor 5 = .ok (.iload 4, 2) := by decide +kernel
theorem dX4_classFor_7 : decode cX4_classFor 7 = .ok (.bipush 14, 2) := by decide +kernel
theorem dX4_classFor_9 : decode cX4_classFor 9 = .ok (.if_icmp .ge 32, 3) := by decide +kernel
theorem dX4_classFor_12 : decode cX4_classFor 12 = .ok (.iload_n 2, 1) := by decide +kernel
theorem dX4_classFor_13 : decode cX4_classFor 13 = .ok (.iload 4, 2) := by decide +kernel
theorem dX4_classFor_15 : decode cX4_classFor 15 = .ok (.invokestatic 15, 3) := by decide +kernel
theorem dX4_classFor_18 : decode cX4_classFor 18 = .ok (.ifCond .eq 17, 3) := by decide +kernel
theorem dX4_classFor_21 : decode cX4_classFor 21 = .ok (.iload_n 3, 1) := by decide +kernel
theorem dX4_classFor_22 : decode cX4_classFor 22 = .ok (.aload_n 0, 1) := by decide +kernel
theorem dX4_classFor_23 : decode cX4_classFor 23 = .ok (.aload_n 1, 1) := by decide +kernel
theorem dX4_classFor_24 : decode cX4_classFor 24 = .ok (.iload_n 2, 1) := by decide +kernel
theorem dX4_classFor_25 : decode cX4_classFor 25 = .ok (.iload 4, 2) := by decide +kernel
theorem dX4_classFor_27 : decode cX4_classFor 27 = .ok (.iconst 0, 1) := by decide +kernel
theorem dX4_classFor_28 : decode cX4_classFor 28 = .ok (.invokevirtual 19, 3) := by decide +kernel
theorem dX4_classFor_31 : decode cX4_classFor 31 = .ok (.invokestatic 23, 3) := by decide +kernel
theorem dX4_classFor_34 : decode cX4_classFor 34 = .ok (.istore_n 3, 1) := by decide +kernel
theorem dX4_classFor_35 : decode cX4_classFor 35 = .ok (.iinc 4 1, 3) := by decide +kernel
theorem dX4_classFor_38 : decode cX4_classFor 38 = .ok (.goto (-33), 3) := by decide +kernel
theorem dX4_classFor_41 : decode cX4_classFor 41 = .ok (.iload_n 3, 1) := by decide +kernel
theorem dX4_classFor_42 : decode cX4_classFor 42 = .ok (.ireturn, 1) := by decide +kernel
theorem dX4_codeFrom_0 : decode cX4_codeFrom 0 = .ok (.iload 4, 2) := by decide +kernel
theorem dX4_codeFrom_2 : decode cX4_codeFrom 2 = .ok (.bipush 14, 2) := by decide +kernel
theorem dX4_codeFrom_4 : decode cX4_codeFrom 4 = .ok (.if_icmp .le 5, 3) := by decide +kernel
theorem dX4_codeFrom_7 : decode cX4_codeFrom 7 = .ok (.iconst 0, 1) := by decide +kernel
theorem dX4_codeFrom_8 : decode cX4_codeFrom 8 = .ok (.ireturn, 1) := by decide +kernel
theorem dX4_codeFrom_9 : decode cX4_codeFrom 9 = .ok (.iload_n 2, 1) := by decide +kernel
theorem dX4_codeFrom_10 : decode cX4_codeFrom 10 = .ok (.iload_n 3, 1) := by decide +kernel
theorem dX4_codeFrom_11 : decode cX4_codeFrom 11 = .ok (.invokestatic 29, 3) := by decide +kernel
theorem dX4_codeFrom_14 : decode cX4_codeFrom 14 = .ok (.iconst (-1), 1) := by decide +kernel
theorem dX4_codeFrom_15 : decode cX4_codeFrom 15 = .ok (.ixor, 1) := by decide +kernel
theorem dX4_codeFrom_16 : decode cX4_codeFrom 16 = .ok (.iand, 1) := by decide +kernel
theorem dX4_codeFrom_17 : decode cX4_codeFrom 17 = .ok (.istore 5, 2) := by decide +kernel
theorem dX4_codeFrom_19 : decode cX4_codeFrom 19 = .ok (.aload_n 1, 1) := by decide +kernel
theorem dX4_codeFrom_20 : decode cX4_codeFrom 20 = .ok (.iload_n 3, 1) := by decide +kernel
theorem dX4_codeFrom_21 : decode cX4_codeFrom 21 = .ok (.invokevirtual 33, 3) := by decide +kernel
theorem dX4_codeFrom_24 : decode cX4_codeFrom 24 = .ok (.iload 5, 2) := by decide +kernel
theorem dX4_codeFrom_26 : decode cX4_codeFrom 26 = .ok (.iand, 1) := by decide +kernel
theorem dX4_codeFrom_27 : decode cX4_codeFrom 27 = .ok (.istore 6, 2) := by decide +kernel
theorem dX4_codeFrom_29 : decode cX4_codeFrom 29 = .ok (.iconst 0, 1) := by decide +kernel
theorem dX4_codeFrom_30 : decode cX4_codeFrom 30 = .ok (.istore 7, 2) := by decide +kernel
theorem dX4_codeFrom_32 : decode cX4_codeFrom 32 = .ok (.iload 7, 2) := by decide +kernel
theorem dX4_codeFrom_34 : decode cX4_codeFrom 34 = .ok (.bipush 14, 2) := by decide +kernel
theorem dX4_codeFrom_36 : decode cX4_codeFrom 36 = .ok (.if_icmp .ge 39, 3) := by decide +kernel
theorem dX4_codeFrom_39 : decode cX4_codeFrom 39 = .ok (.iload 6, 2) := by decide +kernel
theorem dX4_codeFrom_41 : decode cX4_codeFrom 41 = .ok (.iload 7, 2) := by decide +kernel
theorem dX4_codeFrom_43 : decode cX4_codeFrom 43 = .ok (.invokestatic 15, 3) := by decide +kernel
theorem dX4_codeFrom_46 : decode cX4_codeFrom 46 = .ok (.ifCond .eq 23, 3) := by decide +kernel
theorem dX4_codeFrom_49 : decode cX4_codeFrom 49 = .ok (.aload_n 0, 1) := by decide +kernel
theorem dX4_codeFrom_50 : decode cX4_codeFrom 50 = .ok (.getfield 9, 3) := by decide +kernel
theorem dX4_codeFrom_53 : decode cX4_codeFrom 53 = .ok (.iload 7, 2) := by decide +kernel
theorem dX4_codeFrom_55 : decode cX4_codeFrom 55 = .ok (.aload_n 0, 1) := by decide +kernel
theorem dX4_codeFrom_56 : decode cX4_codeFrom 56 = .ok (.aload_n 1, 1) := by decide +kernel
theorem dX4_codeFrom_57 : decode cX4_codeFrom 57 = .ok (.iload 5, 2) := by decide +kernel
theorem dX4_codeFrom_59 : decode cX4_codeFrom 59 = .ok (.iload 7, 2) := by decide +kernel
theorem dX4_codeFrom_61 : decode cX4_codeFrom 61 = .ok (.iload 4, 2) := by decide +kernel
theorem dX4_codeFrom_63 : decode cX4_codeFrom 63 = .ok (.iconst 1, 1) := by decide +kernel
theorem dX4_codeFrom_64 : decode cX4_codeFrom 64 = .ok (.iadd, 1) := by decide +kernel
theorem dX4_codeFrom_65 : decode cX4_codeFrom 65 = .ok (.invokevirtual 19, 3) := by decide +kernel
theorem dX4_codeFrom_68 : decode cX4_codeFrom 68 = .ok (.iastore, 1) := by decide +kernel
theorem dX4_codeFrom_69 : decode cX4_codeFrom 69 = .ok (.iinc 7 1, 3) := by decide +kernel
theorem dX4_codeFrom_72 : decode cX4_codeFrom 72 = .ok (.goto (-40), 3) := by decide +kernel
theorem dX4_codeFrom_75 : decode cX4_codeFrom 75 = .ok (.aload_n 0, 1) := by decide +kernel
theorem dX4_codeFrom_76 : decode cX4_codeFrom 76 = .ok (.iload 6, 2) := by decide +kernel
theorem dX4_codeFrom_78 : decode cX4_codeFrom 78 = .ok (.invokevirtual 38, 3) := by decide +kernel
theorem dX4_codeFrom_81 : decode cX4_codeFrom 81 = .ok (.ireturn, 1) := by decide +kernel
theorem dX4_codeOver_0 : decode cX4_codeOver 0 = .ok (.iconst 1, 1) := by decide +kernel
theorem dX4_codeOver_1 : decode cX4_codeOver 1 = .ok (.istore_n 2, 1) := by decide +kernel
theorem dX4_codeOver_2 : decode cX4_codeOver 2 = .ok (.iload_n 1, 1) := by decide +kernel
theorem dX4_codeOver_3 : decode cX4_codeOver 3 = .ok (.istore_n 3, 1) := by decide +kernel
theorem dX4_codeOver_4 : decode cX4_codeOver 4 = .ok (.iconst 0, 1) := by decide +kernel
theorem dX4_codeOver_5 : decode cX4_codeOver 5 = .ok (.istore 4, 2) := by decide +kernel
theorem dX4_codeOver_7 : decode cX4_codeOver 7 = .ok (.iload 4, 2) := by decide +kernel
theorem dX4_codeOver_9 : decode cX4_codeOver 9 = .ok (.bipush 14, 2) := by decide +kernel
theorem dX4_codeOver_11 : decode cX4_codeOver 11 = .ok (.if_icmp .ge 97, 3) := by decide +kernel
theorem dX4_codeOver_14 : decode cX4_codeOver 14 = .ok (.iload_n 3, 1) := by decide +kernel
theorem dX4_codeOver_15 : decode cX4_codeOver 15 = .ok (.ifCond .eq 93, 3) := by decide +kernel
theorem dX4_codeOver_18 : decode cX4_codeOver 18 = .ok (.iconst 0, 1) := by decide +kernel
theorem dX4_codeOver_19 : decode cX4_codeOver 19 = .ok (.istore 5, 2) := by decide +kernel
theorem dX4_codeOver_21 : decode cX4_codeOver 21 = .ok (.iconst 0, 1) := by decide +kernel
theorem dX4_codeOver_22 : decode cX4_codeOver 22 = .ok (.istore 6, 2) := by decide +kernel
theorem dX4_codeOver_24 : decode cX4_codeOver 24 = .ok (.iconst 0, 1) := by decide +kernel
theorem dX4_codeOver_25 : decode cX4_codeOver 25 = .ok (.istore 7, 2) := by decide +kernel
theorem dX4_codeOver_27 : decode cX4_codeOver 27 = .ok (.iload 7, 2) := by decide +kernel
theorem dX4_codeOver_29 : decode cX4_codeOver 29 = .ok (.bipush 14, 2) := by decide +kernel
theorem dX4_codeOver_31 : decode cX4_codeOver 31 = .ok (.if_icmp .ge 43, 3) := by decide +kernel
theorem dX4_codeOver_34 : decode cX4_codeOver 34 = .ok (.iload_n 3, 1) := by decide +kernel
theorem dX4_codeOver_35 : decode cX4_codeOver 35 = .ok (.iload 7, 2) := by decide +kernel
theorem dX4_codeOver_37 : decode cX4_codeOver 37 = .ok (.invokestatic 15, 3) := by decide +kernel
theorem dX4_codeOver_40 : decode cX4_codeOver 40 = .ok (.ifCond .eq 28, 3) := by decide +kernel
theorem dX4_codeOver_43 : decode cX4_codeOver 43 = .ok (.aload_n 0, 1) := by decide +kernel
theorem dX4_codeOver_44 : decode cX4_codeOver 44 = .ok (.getfield 9, 3) := by decide +kernel
theorem dX4_codeOver_47 : decode cX4_codeOver 47 = .ok (.iload 7, 2) := by decide +kernel
theorem dX4_codeOver_49 : decode cX4_codeOver 49 = .ok (.iaload, 1) := by decide +kernel
theorem dX4_codeOver_50 : decode cX4_codeOver 50 = .ok (.iload 6, 2) := by decide +kernel
theorem dX4_codeOver_52 : decode cX4_codeOver 52 = .ok (.if_icmp .le 16, 3) := by decide +kernel
theorem dX4_codeOver_55 : decode cX4_codeOver 55 = .ok (.iload 7, 2) := by decide +kernel
theorem dX4_codeOver_57 : decode cX4_codeOver 57 = .ok (.istore 5, 2) := by decide +kernel
theorem dX4_codeOver_59 : decode cX4_codeOver 59 = .ok (.aload_n 0, 1) := by decide +kernel
theorem dX4_codeOver_60 : decode cX4_codeOver 60 = .ok (.getfield 9, 3) := by decide +kernel
theorem dX4_codeOver_63 : decode cX4_codeOver 63 = .ok (.iload 7, 2) := by decide +kernel
theorem dX4_codeOver_65 : decode cX4_codeOver 65 = .ok (.iaload, 1) := by decide +kernel
theorem dX4_codeOver_66 : decode cX4_codeOver 66 = .ok (.istore 6, 2) := by decide +kernel
theorem dX4_codeOver_68 : decode cX4_codeOver 68 = .ok (.iinc 7 1, 3) := by decide +kernel
theorem dX4_codeOver_71 : decode cX4_codeOver 71 = .ok (.goto (-44), 3) := by decide +kernel
theorem dX4_codeOver_74 : decode cX4_codeOver 74 = .ok (.bipush 32, 2) := by decide +kernel
theorem dX4_codeOver_76 : decode cX4_codeOver 76 = .ok (.iload 6, 2) := by decide +kernel
theorem dX4_codeOver_78 : decode cX4_codeOver 78 = .ok (.invokestatic 41, 3) := by decide +kernel
theorem dX4_codeOver_81 : decode cX4_codeOver 81 = .ok (.isub, 1) := by decide +kernel
theorem dX4_codeOver_82 : decode cX4_codeOver 82 = .ok (.istore 7, 2) := by decide +kernel
theorem dX4_codeOver_84 : decode cX4_codeOver 84 = .ok (.iload_n 2, 1) := by decide +kernel
theorem dX4_codeOver_85 : decode cX4_codeOver 85 = .ok (.iload 7, 2) := by decide +kernel
theorem dX4_codeOver_87 : decode cX4_codeOver 87 = .ok (.ishl, 1) := by decide +kernel
theorem dX4_codeOver_88 : decode cX4_codeOver 88 = .ok (.iload 6, 2) := by decide +kernel
theorem dX4_codeOver_90 : decode cX4_codeOver 90 = .ok (.ior, 1) := by decide +kernel
theorem dX4_codeOver_91 : decode cX4_codeOver 91 = .ok (.istore_n 2, 1) := by decide +kernel
theorem dX4_codeOver_92 : decode cX4_codeOver 92 = .ok (.iload_n 3, 1) := by decide +kernel
theorem dX4_codeOver_93 : decode cX4_codeOver 93 = .ok (.iload 5, 2) := by decide +kernel
theorem dX4_codeOver_95 : decode cX4_codeOver 95 = .ok (.invokestatic 29, 3) := by decide +kernel
theorem dX4_codeOver_98 : decode cX4_codeOver 98 = .ok (.iconst (-1), 1) := by decide +kernel
theorem dX4_codeOver_99 : decode cX4_codeOver 99 = .ok (.ixor, 1) := by decide +kernel
theorem dX4_codeOver_100 : decode cX4_codeOver 100 = .ok (.iand, 1) := by decide +kernel
theorem dX4_codeOver_101 : decode cX4_codeOver 101 = .ok (.istore_n 3, 1) := by decide +kernel
theorem dX4_codeOver_102 : decode cX4_codeOver 102 = .ok (.iinc 4 1, 3) := by decide +kernel
theorem dX4_codeOver_105 : decode cX4_codeOver 105 = .ok (.goto (-98), 3) := by decide +kernel
theorem dX4_codeOver_108 : decode cX4_codeOver 108 = .ok (.iload_n 2, 1) := by decide +kernel
theorem dX4_codeOver_109 : decode cX4_codeOver 109 = .ok (.iconst 1, 1) := by decide +kernel
theorem dX4_codeOver_110 : decode cX4_codeOver 110 = .ok (.ishl, 1) := by decide +kernel
theorem dX4_codeOver_111 : decode cX4_codeOver 111 = .ok (.ireturn, 1) := by decide +kernel
theorem dX5_init_0 : decode cX5_init 0 = .ok (.aload_n 0, 1) := by decide +kernel
theorem dX5_init_1 : decode cX5_init 1 = .ok (.invokespecial 3, 3) := by decide +kernel
theorem dX5_init_4 : decode cX5_init 4 = .ok (.aload_n 0, 1) := by decide +kernel
theorem dX5_init_5 : decode cX5_init 5 = .ok (.bipush 14, 2) := by decide +kernel
theorem dX5_init_7 : decode cX5_init 7 = .ok (.newarray .int, 2) := by decide +kernel
theorem dX5_init_9 : decode cX5_init 9 = .ok (.putfield 9, 3) := by decide +kernel
theorem dX5_init_12 : decode cX5_init 12 = .ok (.aload_n 0, 1) := by decide +kernel
theorem dX5_init_13 : decode cX5_init 13 = .ok (.iconst 0, 1) := by decide +kernel
theorem dX5_init_14 : decode cX5_init 14 = .ok (.putfield 15, 3) := by decide +kernel
theorem dX5_init_17 : decode cX5_init 17 = .ok (.return_, 1) := by decide +kernel
theorem dX5_wipe_0 : decode cX5_wipe 0 = .ok (.aload_n 0, 1) := by decide +kernel
theorem dX5_wipe_1 : decode cX5_wipe 1 = .ok (.iconst 0, 1) := by decide +kernel
theorem dX5_wipe_2 : decode cX5_wipe 2 = .ok (.putfield 15, 3) := by decide +kernel
theorem dX5_wipe_5 : decode cX5_wipe 5 = .ok (.return_, 1) := by decide +kernel
theorem dX5_put_0 : decode cX5_put 0 = .ok (.aload_n 0, 1) := by decide +kernel
theorem dX5_put_1 : decode cX5_put 1 = .ok (.getfield 15, 3) := by decide +kernel
theorem dX5_put_4 : decode cX5_put 4 = .ok (.ifCond .lt 32, 3) := by decide +kernel
theorem dX5_put_7 : decode cX5_put 7 = .ok (.aload_n 0, 1) := by decide +kernel
theorem dX5_put_8 : decode cX5_put 8 = .ok (.getfield 15, 3) := by decide +kernel
theorem dX5_put_11 : decode cX5_put 11 = .ok (.bipush 14, 2) := by decide +kernel
theorem dX5_put_13 : decode cX5_put 13 = .ok (.if_icmp .ge 23, 3) := by decide +kernel
theorem dX5_put_16 : decode cX5_put 16 = .ok (.aload_n 0, 1) := by decide +kernel
theorem dX5_put_17 : decode cX5_put 17 = .ok (.getfield 9, 3) := by decide +kernel
theorem dX5_put_20 : decode cX5_put 20 = .ok (.aload_n 0, 1) := by decide +kernel
theorem dX5_put_21 : decode cX5_put 21 = .ok (.getfield 15, 3) := by decide +kernel
theorem dX5_put_24 : decode cX5_put 24 = .ok (.iload_n 1, 1) := by decide +kernel
theorem dX5_put_25 : decode cX5_put 25 = .ok (.iastore, 1) := by decide +kernel
theorem dX5_put_26 : decode cX5_put 26 = .ok (.aload_n 0, 1) := by decide +kernel
theorem dX5_put_27 : decode cX5_put 27 = .ok (.dup, 1) := by decide +kernel
theorem dX5_put_28 : decode cX5_put 28 = .ok (.getfield 15, 3) := by decide +kernel
theorem dX5_put_31 : decode cX5_put 31 = .ok (.iconst 1, 1) := by decide +kernel
theorem dX5_put_32 : decode cX5_put 32 = .ok (.iadd, 1) := by decide +kernel
theorem dX5_put_33 : decode cX5_put 33 = .ok (.putfield 15, 3) := by decide +kernel
theorem dX5_put_36 : decode cX5_put 36 = .ok (.return_, 1) := by decide +kernel
theorem dX5_putLesser_0 : decode cX5_putLesser 0 = .ok (.aload_n 0, 1) := by decide +kernel
theorem dX5_putLesser_1 : decode cX5_putLesser 1 = .ok (.iload_n 1, 1) := by decide +kernel
theorem dX5_putLesser_2 : decode cX5_putLesser 2 = .ok (.iconst (-1), 1) := by decide +kernel
theorem dX5_putLesser_3 : decode cX5_putLesser 3 = .ok (.if_icmp .ne 8, 3) := by decide +kernel
theorem dX5_putLesser_6 : decode cX5_putLesser 6 = .ok (.bipush 46, 2) := by decide +kernel
theorem dX5_putLesser_8 : decode cX5_putLesser 8 = .ok (.goto 7, 3) := by decide +kernel
theorem dX5_putLesser_11 : decode cX5_putLesser 11 = .ok (.bipush 97, 2) := by decide +kernel
theorem dX5_putLesser_13 : decode cX5_putLesser 13 = .ok (.iload_n 1, 1) := by decide +kernel
theorem dX5_putLesser_14 : decode cX5_putLesser 14 = .ok (.iadd, 1) := by decide +kernel
theorem dX5_putLesser_15 : decode cX5_putLesser 15 = .ok (.invokevirtual 19, 3) := by decide +kernel
theorem dX5_putLesser_18 : decode cX5_putLesser 18 = .ok (.return_, 1) := by decide +kernel
theorem dX5_codeAt_0 : decode cX5_codeAt 0 = .ok (.iload_n 1, 1) := by decide +kernel
theorem dX5_codeAt_1 : decode cX5_codeAt 1 = .ok (.ifCond .lt 26, 3) := by decide +kernel
theorem dX5_codeAt_4 : decode cX5_codeAt 4 = .ok (.iload_n 1, 1) := by decide +kernel
theorem dX5_codeAt_5 : decode cX5_codeAt 5 = .ok (.aload_n 0, 1) := by decide +kernel
theorem dX5_codeAt_6 : decode cX5_codeAt 6 = .ok (.getfield 15, 3) := by decide +kernel
theorem dX5_codeAt_9 : decode cX5_codeAt 9 = .ok (.if_icmp .ge 18, 3) := by decide +kernel
theorem dX5_codeAt_12 : decode cX5_codeAt 12 = .ok (.iload_n 1, 1) := by decide +kernel
theorem dX5_codeAt_13 : decode cX5_codeAt 13 = .ok (.bipush 14, 2) := by decide +kernel
theorem dX5_codeAt_15 : decode cX5_codeAt 15 = .ok (.if_icmp .ge 12, 3) := by decide +kernel
theorem dX5_codeAt_18 : decode cX5_codeAt 18 = .ok (.aload_n 0, 1) := by decide +kernel
theorem dX5_codeAt_19 : decode cX5_codeAt 19 = .ok (.getfield 9, 3) := by decide +kernel
theorem dX5_codeAt_22 : decode cX5_codeAt 22 = .ok (.iload_n 1, 1) := by decide +kernel
theorem dX5_codeAt_23 : decode cX5_codeAt 23 = .ok (.iaload, 1) := by decide +kernel
theorem dX5_codeAt_24 : decode cX5_codeAt 24 = .ok (.goto 4, 3) := by decide +kernel
theorem dX5_codeAt_27 : decode cX5_codeAt 27 = .ok (.iconst 0, 1) := by decide +kernel
theorem dX5_codeAt_28 : decode cX5_codeAt 28 = .ok (.ireturn, 1) := by decide +kernel
theorem dX5_lesserAt_0 : decode cX5_lesserAt 0 = .ok (.aload_n 0, 1) := by decide +kernel
theorem dX5_lesserAt_1 : decode cX5_lesserAt 1 = .ok (.iload_n 1, 1) := by decide +kernel
theorem dX5_lesserAt_2 : decode cX5_lesserAt 2 = .ok (.invokevirtual 23, 3) := by decide +kernel
theorem dX5_lesserAt_5 : decode cX5_lesserAt 5 = .ok (.istore_n 2, 1) := by decide +kernel
theorem dX5_lesserAt_6 : decode cX5_lesserAt 6 = .ok (.iload_n 2, 1) := by decide +kernel
theorem dX5_lesserAt_7 : decode cX5_lesserAt 7 = .ok (.bipush 46, 2) := by decide +kernel
theorem dX5_lesserAt_9 : decode cX5_lesserAt 9 = .ok (.if_icmp .ne 5, 3) := by decide +kernel
theorem dX5_lesserAt_12 : decode cX5_lesserAt 12 = .ok (.iconst (-1), 1) := by decide +kernel
theorem dX5_lesserAt_13 : decode cX5_lesserAt 13 = .ok (.ireturn, 1) := by decide +kernel
theorem dX5_lesserAt_14 : decode cX5_lesserAt 14 = .ok (.iload_n 2, 1) := by decide +kernel
theorem dX5_lesserAt_15 : decode cX5_lesserAt 15 = .ok (.bipush 97, 2) := by decide +kernel
theorem dX5_lesserAt_17 : decode cX5_lesserAt 17 = .ok (.isub, 1) := by decide +kernel
theorem dX5_lesserAt_18 : decode cX5_lesserAt 18 = .ok (.istore_n 3, 1) := by decide +kernel
theorem dX5_lesserAt_19 : decode cX5_lesserAt 19 = .ok (.iload_n 3, 1) := by decide +kernel
theorem dX5_lesserAt_20 : decode cX5_lesserAt 20 = .ok (.ifCond .lt 12, 3) := by decide +kernel
theorem dX5_lesserAt_23 : decode cX5_lesserAt 23 = .ok (.iload_n 3, 1) := by decide +kernel
theorem dX5_lesserAt_24 : decode cX5_lesserAt 24 = .ok (.iload_n 1, 1) := by decide +kernel
theorem dX5_lesserAt_25 : decode cX5_lesserAt 25 = .ok (.if_icmp .ge 7, 3) := by decide +kernel
theorem dX5_lesserAt_28 : decode cX5_lesserAt 28 = .ok (.iload_n 3, 1) := by decide +kernel
theorem dX5_lesserAt_29 : decode cX5_lesserAt 29 = .ok (.goto 5, 3) := by decide +kernel
theorem dX5_lesserAt_32 : decode cX5_lesserAt 32 = .ok (.bipush (-2), 2) := by decide +kernel
theorem dX5_lesserAt_34 : decode cX5_lesserAt 34 = .ok (.ireturn, 1) := by decide +kernel
theorem dX5_firstWrong_0 : decode cX5_firstWrong 0 = .ok (.iconst 0, 1) := by decide +kernel
theorem dX5_firstWrong_1 : decode cX5_firstWrong 1 = .ok (.istore_n 1, 1) := by decide +kernel
theorem dX5_firstWrong_2 : decode cX5_firstWrong 2 = .ok (.iload_n 1, 1) := by decide +kernel
theorem dX5_firstWrong_3 : decode cX5_firstWrong 3 = .ok (.aload_n 0, 1) := by decide +kernel
theorem dX5_firstWrong_4 : decode cX5_firstWrong 4 = .ok (.getfield 15, 3) := by decide +kernel
theorem dX5_firstWrong_7 : decode cX5_firstWrong 7 = .ok (.if_icmp .ge 21, 3) := by decide +kernel
theorem dX5_firstWrong_10 : decode cX5_firstWrong 10 = .ok (.aload_n 0, 1) := by decide +kernel
theorem dX5_firstWrong_11 : decode cX5_firstWrong 11 = .ok (.iload_n 1, 1) := by decide +kernel
theorem dX5_firstWrong_12 : decode cX5_firstWrong 12 = .ok (.invokevirtual 27, 3) := by decide +kernel
theorem dX5_firstWrong_15 : decode cX5_firstWrong 15 = .ok (.bipush (-2), 2) := by decide +kernel
theorem dX5_firstWrong_17 : decode cX5_firstWrong 17 = .ok (.if_icmp .ne 5, 3) := by decide +kernel
theorem dX5_firstWrong_20 : decode cX5_firstWrong 20 = .ok (.iload_n 1, 1) := by decide +kernel
theorem dX5_firstWrong_21 : decode cX5_firstWrong 21 = .ok (.ireturn, 1) := by decide +kernel
theorem dX5_firstWrong_22 : decode cX5_firstWrong 22 = .ok (.iinc 1 1, 3) := by decide +kernel
theorem dX5_firstWrong_25 : decode cX5_firstWrong 25 = .ok (.goto (-23), 3) := by decide +kernel
theorem dX5_firstWrong_28 : decode cX5_firstWrong 28 = .ok (.aload_n 0, 1) := by decide +kernel
theorem dX5_firstWrong_29 : decode cX5_firstWrong 29 = .ok (.getfield 15, 3) := by decide +kernel
theorem dX5_firstWrong_32 : decode cX5_firstWrong 32 = .ok (.ireturn, 1) := by decide +kernel
theorem dX6_init_0 : decode cX6_init 0 = .ok (.aload_n 0, 1) := by decide +kernel
theorem dX6_init_1 : decode cX6_init 1 = .ok (.invokespecial 1, 3) := by decide +kernel
theorem dX6_init_4 : decode cX6_init 4 = .ok (.aload_n 0, 1) := by decide +kernel
theorem dX6_init_5 : decode cX6_init 5 = .ok (.new 7, 3) := by decide +kernel
theorem dX6_init_8 : decode cX6_init 8 = .ok (.dup, 1) := by decide +kernel
theorem dX6_init_9 : decode cX6_init 9 = .ok (.invokespecial 9, 3) := by decide +kernel
theorem dX6_init_12 : decode cX6_init 12 = .ok (.putfield 10, 3) := by decide +kernel
theorem dX6_init_15 : decode cX6_init 15 = .ok (.aload_n 0, 1) := by decide +kernel
theorem dX6_init_16 : decode cX6_init 16 = .ok (.iconst 2, 1) := by decide +kernel
theorem dX6_init_17 : decode cX6_init 17 = .ok (.anewarray 7, 3) := by decide +kernel
theorem dX6_init_20 : decode cX6_init 20 = .ok (.putfield 16, 3) := by decide +kernel
theorem dX6_init_23 : decode cX6_init 23 = .ok (.aload_n 0, 1) := by decide +kernel
theorem dX6_init_24 : decode cX6_init 24 = .ok (.iconst 2, 1) := by decide +kernel
theorem dX6_init_25 : decode cX6_init 25 = .ok (.newarray .boolean, 2) := by decide +kernel
theorem dX6_init_27 : decode cX6_init 27 = .ok (.putfield 20, 3) := by decide +kernel
theorem dX6_init_30 : decode cX6_init 30 = .ok (.aload_n 0, 1) := by decide +kernel
theorem dX6_init_31 : decode cX6_init 31 = .ok (.new 24, 3) := by decide +kernel
theorem dX6_init_34 : decode cX6_init 34 = .ok (.dup, 1) := by decide +kernel
theorem dX6_init_35 : decode cX6_init 35 = .ok (.invokespecial 26, 3) := by decide +kernel
theorem dX6_init_38 : decode cX6_init 38 = .ok (.putfield 27, 3) := by decide +kernel
theorem dX6_init_41 : decode cX6_init 41 = .ok (.aload_n 0, 1) := by decide +kernel
theorem dX6_init_42 : decode cX6_init 42 = .ok (.new 31, 3) := by decide +kernel
theorem dX6_init_45 : decode cX6_init 45 = .ok (.dup, 1) := by decide +kernel
theorem dX6_init_46 : decode cX6_init 46 = .ok (.invokespecial 33, 3) := by decide +kernel
theorem dX6_init_49 : decode cX6_init 49 = .ok (.putfield 34, 3) := by decide +kernel
theorem dX6_init_52 : decode cX6_init 52 = .ok (.aload_n 0, 1) := by decide +kernel
theorem dX6_init_53 : decode cX6_init 53 = .ok (.new 38, 3) := by decide +kernel
theorem dX6_init_56 : decode cX6_init 56 = .ok (.dup, 1) := by decide +kernel
theorem dX6_init_57 : decode cX6_init 57 = .ok (.invokespecial 40, 3) := by decide +kernel
theorem dX6_init_60 : decode cX6_init 60 = .ok (.putfield 41, 3) := by decide +kernel
theorem dX6_init_63 : decode cX6_init 63 = .ok (.aload_n 0, 1) := by decide +kernel
theorem dX6_init_64 : decode cX6_init 64 = .ok (.new 45, 3) := by decide +kernel
theorem dX6_init_67 : decode cX6_init 67 = .ok (.dup, 1) := by decide +kernel
theorem dX6_init_68 : decode cX6_init 68 = .ok (.invokespecial 47, 3) := by decide +kernel
theorem dX6_init_71 : decode cX6_init 71 = .ok (.putfield 48, 3) := by decide +kernel
theorem dX6_init_74 : decode cX6_init 74 = .ok (.aload_n 0, 1) := by decide +kernel
theorem dX6_init_75 : decode cX6_init 75 = .ok (.new 45, 3) := by decide +kernel
theorem dX6_init_78 : decode cX6_init 78 = .ok (.dup, 1) := by decide +kernel
theorem dX6_init_79 : decode cX6_init 79 = .ok (.invokespecial 47, 3) := by decide +kernel
theorem dX6_init_82 : decode cX6_init 82 = .ok (.putfield 52, 3) := by decide +kernel
theorem dX6_init_85 : decode cX6_init 85 = .ok (.aload_n 0, 1) := by decide +kernel
theorem dX6_init_86 : decode cX6_init 86 = .ok (.new 55, 3) := by decide +kernel
theorem dX6_init_89 : decode cX6_init 89 = .ok (.dup, 1) := by decide +kernel
theorem dX6_init_90 : decode cX6_init 90 = .ok (.invokespecial 57, 3) := by decide +kernel
theorem dX6_init_93 : decode cX6_init 93 = .ok (.putfield 58, 3) := by decide +kernel
theorem dX6_init_96 : decode cX6_init 96 = .ok (.iconst 0, 1) := by decide +kernel
theorem dX6_init_97 : decode cX6_init 97 = .ok (.istore_n 1, 1) := by decide +kernel
theorem dX6_init_98 : decode cX6_init 98 = .ok (.iload_n 1, 1) := by decide +kernel
theorem dX6_init_99 : decode cX6_init 99 = .ok (.iconst 2, 1) := by decide +kernel
theorem dX6_init_100 : decode cX6_init 100 = .ok (.if_icmp .ge 22, 3) := by decide +kernel
theorem dX6_init_103 : decode cX6_init 103 = .ok (.aload_n 0, 1) := by decide +kernel
theorem dX6_init_104 : decode cX6_init 104 = .ok (.getfield 16, 3) := by decide +kernel
theorem dX6_init_107 : decode cX6_init 107 = .ok (.iload_n 1, 1) := by decide +kernel
theorem dX6_init_108 : decode cX6_init 108 = .ok (.new 7, 3) := by decide +kernel
theorem dX6_init_111 : decode cX6_init 111 = .ok (.dup, 1) := by decide +kernel
theorem dX6_init_112 : decode cX6_init 112 = .ok (.invokespecial 9, 3) := by decide +kernel
theorem dX6_init_115 : decode cX6_init 115 = .ok (.aastore, 1) := by decide +kernel
theorem dX6_init_116 : decode cX6_init 116 = .ok (.iinc 1 1, 3) := by decide +kernel
theorem dX6_init_119 : decode cX6_init 119 = .ok (.goto (-21), 3) := by decide +kernel
theorem dX6_init_122 : decode cX6_init 122 = .ok (.return_, 1) := by decide +kernel
theorem dX6_node_0 : decode cX6_node 0 = .ok (.iload_n 1, 1) := by decide +kernel
theorem dX6_node_1 : decode cX6_node 1 = .ok (.iconst (-1), 1) := by decide +kernel
theorem dX6_node_2 : decode cX6_node 2 = .ok (.if_icmp .eq 8, 3) := by decide +kernel
theorem dX6_node_5 : decode cX6_node 5 = .ok (.aload_n 0, 1) := by decide +kernel
theorem dX6_node_6 : decode cX6_node 6 = .ok (.iload_n 1, 1) := by decide +kernel
theorem dX6_node_7 : decode cX6_node 7 = .ok (.invokevirtual 62, 3) := by decide +kernel
theorem dX6_node_10 : decode cX6_node 10 = .ok (.aload_n 0, 1) := by decide +kernel
theorem dX6_node_11 : decode cX6_node 11 = .ok (.getfield 10, 3) := by decide +kernel
theorem dX6_node_14 : decode cX6_node 14 = .ok (.getfield 66, 3) := by decide +kernel
theorem dX6_node_17 : decode cX6_node 17 = .ok (.bipush 14, 2) := by decide +kernel
theorem dX6_node_19 : decode cX6_node 19 = .ok (.if_icmp .lt 13, 3) := by decide +kernel
theorem dX6_node_22 : decode cX6_node 22 = .ok (.new 70, 3) := by decide +kernel
theorem dX6_node_25 : decode cX6_node 25 = .ok (.dup, 1) := by decide +kernel
theorem dX6_node_26 : decode cX6_node 26 = .ok (.ldc 72, 2) := by decide +kernel
theorem dX6_node_28 : decode cX6_node 28 = .ok (.invokespecial 74, 3) := by decide +kernel
theorem dX6_node_31 : decode cX6_node 31 = .ok (.athrow, 1) := by decide +kernel
theorem dX6_node_32 : decode cX6_node 32 = .ok (.iload_n 1, 1) := by decide +kernel
theorem dX6_node_33 : decode cX6_node 33 = .ok (.iconst (-1), 1) := by decide +kernel
theorem dX6_node_34 : decode cX6_node 34 = .ok (.if_icmp .eq 8, 3) := by decide +kernel
theorem dX6_node_37 : decode cX6_node 37 = .ok (.aload_n 0, 1) := by decide +kernel
theorem dX6_node_38 : decode cX6_node 38 = .ok (.iload_n 1, 1) := by decide +kernel
theorem dX6_node_39 : decode cX6_node 39 = .ok (.invokevirtual 77, 3) := by decide +kernel
theorem dX6_node_42 : decode cX6_node 42 = .ok (.aload_n 0, 1) := by decide +kernel
theorem dX6_node_43 : decode cX6_node 43 = .ok (.getfield 27, 3) := by decide +kernel
theorem dX6_node_46 : decode cX6_node 46 = .ok (.aload_n 0, 1) := by decide +kernel
theorem dX6_node_47 : decode cX6_node 47 = .ok (.getfield 10, 3) := by decide +kernel
theorem dX6_node_50 : decode cX6_node 50 = .ok (.invokevirtual 80, 3) := by decide +kernel
theorem dX6_node_53 : decode cX6_node 53 = .ok (.aload_n 0, 1) := by decide +kernel
theorem dX6_node_54 : decode cX6_node 54 = .ok (.getfield 10, 3) := by decide +kernel
theorem dX6_node_57 : decode cX6_node 57 = .ok (.iload_n 1, 1) := by decide +kernel
theorem dX6_node_58 : decode cX6_node 58 = .ok (.invokevirtual 84, 3) := by decide +kernel
theorem dX6_node_61 : decode cX6_node 61 = .ok (.aload_n 0, 1) := by decide +kernel
theorem dX6_node_62 : decode cX6_node 62 = .ok (.getfield 10, 3) := by decide +kernel
theorem dX6_node_65 : decode cX6_node 65 = .ok (.getfield 66, 3) := by decide +kernel
theorem dX6_node_68 : decode cX6_node 68 = .ok (.iconst 1, 1) := by decide +kernel
theorem dX6_node_69 : decode cX6_node 69 = .ok (.isub, 1) := by decide +kernel
theorem dX6_node_70 : decode cX6_node 70 = .ok (.ireturn, 1) := by decide +kernel
theorem dX6_join_0 : decode cX6_join 0 = .ok (.aload_n 0, 1) := by decide +kernel
theorem dX6_join_1 : decode cX6_join 1 = .ok (.iload_n 1, 1) := by decide +kernel
theorem dX6_join_2 : decode cX6_join 2 = .ok (.invokevirtual 62, 3) := by decide +kernel
theorem dX6_join_5 : decode cX6_join 5 = .ok (.aload_n 0, 1) := by decide +kernel
theorem dX6_join_6 : decode cX6_join 6 = .ok (.iload_n 2, 1) := by decide +kernel
theorem dX6_join_7 : decode cX6_join 7 = .ok (.invokevirtual 62, 3) := by decide +kernel
theorem dX6_join_10 : decode cX6_join 10 = .ok (.aload_n 0, 1) := by decide +kernel
theorem dX6_join_11 : decode cX6_join 11 = .ok (.getfield 10, 3) := by decide +kernel
theorem dX6_join_14 : decode cX6_join 14 = .ok (.iload_n 1, 1) := by decide +kernel
theorem dX6_join_15 : decode cX6_join 15 = .ok (.iload_n 2, 1) := by decide +kernel
theorem dX6_join_16 : decode cX6_join 16 = .ok (.invokevirtual 87, 3) := by decide +kernel
theorem dX6_join_19 : decode cX6_join 19 = .ok (.ifCond .ne 13, 3) := by decide +kernel
theorem dX6_join_22 : decode cX6_join 22 = .ok (.new 70, 3) := by decide +kernel
theorem dX6_join_25 : decode cX6_join 25 = .ok (.dup, 1) := by decide +kernel
theorem dX6_join_26 : decode cX6_join 26 = .ok (.ldc 91, 2) := by decide +kernel
theorem dX6_join_28 : decode cX6_join 28 = .ok (.invokespecial 74, 3) := by decide +kernel
theorem dX6_join_31 : decode cX6_join 31 = .ok (.athrow, 1) := by decide +kernel
theorem dX6_join_32 : decode cX6_join 32 = .ok (.aload_n 0, 1) := by decide +kernel
theorem dX6_join_33 : decode cX6_join 33 = .ok (.getfield 27, 3) := by decide +kernel
theorem dX6_join_36 : decode cX6_join 36 = .ok (.aload_n 0, 1) := by decide +kernel
theorem dX6_join_37 : decode cX6_join 37 = .ok (.getfield 10, 3) := by decide +kernel
theorem dX6_join_40 : decode cX6_join 40 = .ok (.invokevirtual 80, 3) := by decide +kernel
theorem dX6_join_43 : decode cX6_join 43 = .ok (.aload_n 0, 1) := by decide +kernel
theorem dX6_join_44 : decode cX6_join 44 = .ok (.getfield 10, 3) := by decide +kernel
theorem dX6_join_47 : decode cX6_join 47 = .ok (.getfield 93, 3) := by decide +kernel
theorem dX6_join_50 : decode cX6_join 50 = .ok (.iload_n 1, 1) := by decide +kernel
theorem dX6_join_51 : decode cX6_join 51 = .ok (.iload_n 2, 1) := by decide +kernel
theorem dX6_join_52 : decode cX6_join 52 = .ok (.invokevirtual 96, 3) := by decide +kernel
theorem dX6_join_55 : decode cX6_join 55 = .ok (.aload_n 0, 1) := by decide +kernel
theorem dX6_join_56 : decode cX6_join 56 = .ok (.getfield 10, 3) := by decide +kernel
theorem dX6_join_59 : decode cX6_join 59 = .ok (.invokevirtual 100, 3) := by decide +kernel
theorem dX6_join_62 : decode cX6_join 62 = .ok (.ireturn, 1) := by decide +kernel
theorem dX6_cut_0 : decode cX6_cut 0 = .ok (.aload_n 0, 1) := by decide +kernel
theorem dX6_cut_1 : decode cX6_cut 1 = .ok (.iload_n 1, 1) := by decide +kernel
theorem dX6_cut_2 : decode cX6_cut 2 = .ok (.invokevirtual 62, 3) := by decide +kernel
theorem dX6_cut_5 : decode cX6_cut 5 = .ok (.aload_n 0, 1) := by decide +kernel
theorem dX6_cut_6 : decode cX6_cut 6 = .ok (.iload_n 2, 1) := by decide +kernel
theorem dX6_cut_7 : decode cX6_cut 7 = .ok (.invokevirtual 62, 3) := by decide +kernel
theorem dX6_cut_10 : decode cX6_cut 10 = .ok (.aload_n 0, 1) := by decide +kernel
theorem dX6_cut_11 : decode cX6_cut 11 = .ok (.getfield 10, 3) := by decide +kernel
theorem dX6_cut_14 : decode cX6_cut 14 = .ok (.iload_n 1, 1) := by decide +kernel
theorem dX6_cut_15 : decode cX6_cut 15 = .ok (.iload_n 2, 1) := by decide +kernel
theorem dX6_cut_16 : decode cX6_cut 16 = .ok (.invokevirtual 104, 3) := by decide +kernel
theorem dX6_cut_19 : decode cX6_cut 19 = .ok (.ifCond .ne 13, 3) := by decide +kernel
theorem dX6_cut_22 : decode cX6_cut 22 = .ok (.new 70, 3) := by decide +kernel
theorem dX6_cut_25 : decode cX6_cut 25 = .ok (.dup, 1) := by decide +kernel
theorem dX6_cut_26 : decode cX6_cut 26 = .ok (.ldc 107, 2) := by decide +kernel
theorem dX6_cut_28 : decode cX6_cut 28 = .ok (.invokespecial 74, 3) := by decide +kernel
theorem dX6_cut_31 : decode cX6_cut 31 = .ok (.athrow, 1) := by decide +kernel
theorem dX6_cut_32 : decode cX6_cut 32 = .ok (.aload_n 0, 1) := by decide +kernel
theorem dX6_cut_33 : decode cX6_cut 33 = .ok (.iload_n 1, 1) := by decide +kernel
theorem dX6_cut_34 : decode cX6_cut 34 = .ok (.iload_n 2, 1) := by decide +kernel
theorem dX6_cut_35 : decode cX6_cut 35 = .ok (.invokevirtual 109, 3) := by decide +kernel
theorem dX6_cut_38 : decode cX6_cut 38 = .ok (.ifCond .eq 7, 3) := by decide +kernel
theorem dX6_cut_41 : decode cX6_cut 41 = .ok (.iconst 1, 1) := by decide +kernel
theorem dX6_cut_42 : decode cX6_cut 42 = .ok (.goto 4, 3) := by decide +kernel
theorem dX6_cut_45 : decode cX6_cut 45 = .ok (.iconst 0, 1) := by decide +kernel
theorem dX6_cut_46 : decode cX6_cut 46 = .ok (.istore_n 3, 1) := by decide +kernel
theorem dX6_cut_47 : decode cX6_cut 47 = .ok (.aload_n 0, 1) := by decide +kernel
theorem dX6_cut_48 : decode cX6_cut 48 = .ok (.getfield 27, 3) := by decide +kernel
theorem dX6_cut_51 : decode cX6_cut 51 = .ok (.aload_n 0, 1) := by decide +kernel
theorem dX6_cut_52 : decode cX6_cut 52 = .ok (.getfield 10, 3) := by decide +kernel
theorem dX6_cut_55 : decode cX6_cut 55 = .ok (.invokevirtual 80, 3) := by decide +kernel
theorem dX6_cut_58 : decode cX6_cut 58 = .ok (.aload_n 0, 1) := by decide +kernel
theorem dX6_cut_59 : decode cX6_cut 59 = .ok (.getfield 10, 3) := by decide +kernel
theorem dX6_cut_62 : decode cX6_cut 62 = .ok (.getfield 93, 3) := by decide +kernel
theorem dX6_cut_65 : decode cX6_cut 65 = .ok (.iload_n 1, 1) := by decide +kernel
theorem dX6_cut_66 : decode cX6_cut 66 = .ok (.iload_n 2, 1) := by decide +kernel
theorem dX6_cut_67 : decode cX6_cut 67 = .ok (.invokevirtual 112, 3) := by decide +kernel
theorem dX6_cut_70 : decode cX6_cut 70 = .ok (.iload_n 3, 1) := by decide +kernel
theorem dX6_cut_71 : decode cX6_cut 71 = .ok (.ireturn, 1) := by decide +kernel
theorem dX6_take_0 : decode cX6_take 0 = .ok (.aload_n 0, 1) := by decide +kernel
theorem dX6_take_1 : decode cX6_take 1 = .ok (.iload_n 1, 1) := by decide +kernel
theorem dX6_take_2 : decode cX6_take 2 = .ok (.invokevirtual 62, 3) := by decide +kernel
theorem dX6_take_5 : decode cX6_take 5 = .ok (.aload_n 0, 1) := by decide +kernel
theorem dX6_take_6 : decode cX6_take 6 = .ok (.iload_n 1, 1) := by decide +kernel
theorem dX6_take_7 : decode cX6_take 7 = .ok (.invokevirtual 77, 3) := by decide +kernel
theorem dX6_take_10 : decode cX6_take 10 = .ok (.aload_n 0, 1) := by decide +kernel
theorem dX6_take_11 : decode cX6_take 11 = .ok (.getfield 27, 3) := by decide +kernel
theorem dX6_take_14 : decode cX6_take 14 = .ok (.aload_n 0, 1) := by decide +kernel
theorem dX6_take_15 : decode cX6_take 15 = .ok (.getfield 10, 3) := by decide +kernel
theorem dX6_take_18 : decode cX6_take 18 = .ok (.invokevirtual 80, 3) := by decide +kernel
theorem dX6_take_21 : decode cX6_take 21 = .ok (.aload_n 0, 1) := by decide +kernel
theorem dX6_take_22 : decode cX6_take 22 = .ok (.getfield 10, 3) := by decide +kernel
theorem dX6_take_25 : decode cX6_take 25 = .ok (.iload_n 1, 1) := by decide +kernel
theorem dX6_take_26 : decode cX6_take 26 = .ok (.invokevirtual 115, 3) := by decide +kernel
theorem dX6_take_29 : decode cX6_take 29 = .ok (.ireturn, 1) := by decide +kernel
theorem dX6_reply_0 : decode cX6_reply 0 = .ok (.aload_n 0, 1) := by decide +kernel
theorem dX6_reply_1 : decode cX6_reply 1 = .ok (.getfield 10, 3) := by decide +kernel
theorem dX6_reply_4 : decode cX6_reply 4 = .ok (.getfield 119, 3) := by decide +kernel
theorem dX6_reply_7 : decode cX6_reply 7 = .ok (.ifCond .ne 13, 3) := by decide +kernel
theorem dX6_reply_10 : decode cX6_reply 10 = .ok (.new 70, 3) := by decide +kernel
theorem dX6_reply_13 : decode cX6_reply 13 = .ok (.dup, 1) := by decide +kernel
theorem dX6_reply_14 : decode cX6_reply 14 = .ok (.ldc 122, 2) := by decide +kernel
theorem dX6_reply_16 : decode cX6_reply 16 = .ok (.invokespecial 74, 3) := by decide +kernel
theorem dX6_reply_19 : decode cX6_reply 19 = .ok (.athrow, 1) := by decide +kernel
theorem dX6_reply_20 : decode cX6_reply 20 = .ok (.aload_n 0, 1) := by decide +kernel
theorem dX6_reply_21 : decode cX6_reply 21 = .ok (.invokevirtual 124, 3) := by decide +kernel
theorem dX6_reply_24 : decode cX6_reply 24 = .ok (.istore_n 1, 1) := by decide +kernel
theorem dX6_reply_25 : decode cX6_reply 25 = .ok (.iload_n 1, 1) := by decide +kernel
theorem dX6_reply_26 : decode cX6_reply 26 = .ok (.iconst (-1), 1) := by decide +kernel
theorem dX6_reply_27 : decode cX6_reply 27 = .ok (.if_icmp .ne 16, 3) := by decide +kernel
theorem dX6_reply_30 : decode cX6_reply 30 = .ok (.aload_n 0, 1) := by decide +kernel
theorem dX6_reply_31 : decode cX6_reply 31 = .ok (.getfield 10, 3) := by decide +kernel
theorem dX6_reply_34 : decode cX6_reply 34 = .ok (.getfield 119, 3) := by decide +kernel
theorem dX6_reply_37 : decode cX6_reply 37 = .ok (.invokestatic 127, 3) := by decide +kernel
theorem dX6_reply_40 : decode cX6_reply 40 = .ok (.goto 4, 3) := by decide +kernel
theorem dX6_reply_43 : decode cX6_reply 43 = .ok (.iload_n 1, 1) := by decide +kernel
theorem dX6_reply_44 : decode cX6_reply 44 = .ok (.istore_n 2, 1) := by decide +kernel
theorem dX6_reply_45 : decode cX6_reply 45 = .ok (.aload_n 0, 1) := by decide +kernel
theorem dX6_reply_46 : decode cX6_reply 46 = .ok (.getfield 27, 3) := by decide +kernel
theorem dX6_reply_49 : decode cX6_reply 49 = .ok (.aload_n 0, 1) := by decide +kernel
theorem dX6_reply_50 : decode cX6_reply 50 = .ok (.getfield 10, 3) := by decide +kernel
theorem dX6_reply_53 : decode cX6_reply 53 = .ok (.invokevirtual 80, 3) := by decide +kernel
theorem dX6_reply_56 : decode cX6_reply 56 = .ok (.aload_n 0, 1) := by decide +kernel
theorem dX6_reply_57 : decode cX6_reply 57 = .ok (.getfield 10, 3) := by decide +kernel
theorem dX6_reply_60 : decode cX6_reply 60 = .ok (.iload_n 2, 1) := by decide +kernel
theorem dX6_reply_61 : decode cX6_reply 61 = .ok (.invokevirtual 115, 3) := by decide +kernel
theorem dX6_reply_64 : decode cX6_reply 64 = .ok (.pop, 1) := by decide +kernel
theorem dX6_reply_65 : decode cX6_reply 65 = .ok (.iload_n 2, 1) := by decide +kernel
theorem dX6_reply_66 : decode cX6_reply 66 = .ok (.ireturn, 1) := by decide +kernel
theorem dX6_again_0 : decode cX6_again 0 = .ok (.aload_n 0, 1) := by decide +kernel
theorem dX6_again_1 : decode cX6_again 1 = .ok (.getfield 10, 3) := by decide +kernel
theorem dX6_again_4 : decode cX6_again 4 = .ok (.getfield 66, 3) := by decide +kernel
theorem dX6_again_7 : decode cX6_again 7 = .ok (.aload_n 0, 1) := by decide +kernel
theorem dX6_again_8 : decode cX6_again 8 = .ok (.getfield 10, 3) := by decide +kernel
theorem dX6_again_11 : decode cX6_again 11 = .ok (.getfield 119, 3) := by decide +kernel
theorem dX6_again_14 : decode cX6_again 14 = .ok (.invokestatic 132, 3) := by decide +kernel
theorem dX6_again_17 : decode cX6_again 17 = .ok (.isub, 1) := by decide +kernel
theorem dX6_again_18 : decode cX6_again 18 = .ok (.istore_n 1, 1) := by decide +kernel
theorem dX6_again_19 : decode cX6_again 19 = .ok (.aload_n 0, 1) := by decide +kernel
theorem dX6_again_20 : decode cX6_again 20 = .ok (.getfield 27, 3) := by decide +kernel
theorem dX6_again_23 : decode cX6_again 23 = .ok (.aload_n 0, 1) := by decide +kernel
theorem dX6_again_24 : decode cX6_again 24 = .ok (.getfield 10, 3) := by decide +kernel
theorem dX6_again_27 : decode cX6_again 27 = .ok (.invokevirtual 80, 3) := by decide +kernel
theorem dX6_again_30 : decode cX6_again 30 = .ok (.aload_n 0, 1) := by decide +kernel
theorem dX6_again_31 : decode cX6_again 31 = .ok (.getfield 10, 3) := by decide +kernel
theorem dX6_again_34 : decode cX6_again 34 = .ok (.invokevirtual 135, 3) := by decide +kernel
theorem dX6_again_37 : decode cX6_again 37 = .ok (.iload_n 1, 1) := by decide +kernel
theorem dX6_again_38 : decode cX6_again 38 = .ok (.ireturn, 1) := by decide +kernel
theorem dX6_append_0 : decode cX6_append 0 = .ok (.iload_n 1, 1) := by decide +kernel
theorem dX6_append_1 : decode cX6_append 1 = .ok (.bipush 33, 2) := by decide +kernel
theorem dX6_append_3 : decode cX6_append 3 = .ok (.if_icmp .lt 9, 3) := by decide +kernel
theorem dX6_append_6 : decode cX6_append 6 = .ok (.iload_n 1, 1) := by decide +kernel
theorem dX6_append_7 : decode cX6_append 7 = .ok (.bipush 126, 2) := by decide +kernel
theorem dX6_append_9 : decode cX6_append 9 = .ok (.if_icmp .le 13, 3) := by decide +kernel
theorem dX6_append_12 : decode cX6_append 12 = .ok (.new 138, 3) := by decide +kernel
theorem dX6_append_15 : decode cX6_append 15 = .ok (.dup, 1) := by decide +kernel
theorem dX6_append_16 : decode cX6_append 16 = .ok (.ldc 140, 2) := by decide +kernel
theorem dX6_append_18 : decode cX6_append 18 = .ok (.invokespecial 142, 3) := by decide +kernel
theorem dX6_append_21 : decode cX6_append 21 = .ok (.athrow, 1) := by decide +kernel
theorem dX6_append_22 : decode cX6_append 22 = .ok (.aload_n 0, 1) := by decide +kernel
theorem dX6_append_23 : decode cX6_append 23 = .ok (.getfield 34, 3) := by decide +kernel
theorem dX6_append_26 : decode cX6_append 26 = .ok (.getfield 143, 3) := by decide +kernel
theorem dX6_append_29 : decode cX6_append 29 = .ok (.bipush 14, 2) := by decide +kernel
theorem dX6_append_31 : decode cX6_append 31 = .ok (.if_icmp .lt 13, 3) := by decide +kernel
theorem dX6_append_34 : decode cX6_append 34 = .ok (.new 70, 3) := by decide +kernel
theorem dX6_append_37 : decode cX6_append 37 = .ok (.dup, 1) := by decide +kernel
theorem dX6_append_38 : decode cX6_append 38 = .ok (.ldc 146, 2) := by decide +kernel
theorem dX6_append_40 : decode cX6_append 40 = .ok (.invokespecial 74, 3) := by decide +kernel
theorem dX6_append_43 : decode cX6_append 43 = .ok (.athrow, 1) := by decide +kernel
theorem dX6_append_44 : decode cX6_append 44 = .ok (.aload_n 0, 1) := by decide +kernel
theorem dX6_append_45 : decode cX6_append 45 = .ok (.getfield 34, 3) := by decide +kernel
theorem dX6_append_48 : decode cX6_append 48 = .ok (.iload_n 1, 1) := by decide +kernel
theorem dX6_append_49 : decode cX6_append 49 = .ok (.invokevirtual 148, 3) := by decide +kernel
theorem dX6_append_52 : decode cX6_append 52 = .ok (.aload_n 0, 1) := by decide +kernel
theorem dX6_append_53 : decode cX6_append 53 = .ok (.getfield 34, 3) := by decide +kernel
theorem dX6_append_56 : decode cX6_append 56 = .ok (.getfield 143, 3) := by decide +kernel
theorem dX6_append_59 : decode cX6_append 59 = .ok (.ireturn, 1) := by decide +kernel
theorem dX6_load_0 : decode cX6_load 0 = .ok (.aload_n 0, 1) := by decide +kernel
theorem dX6_load_1 : decode cX6_load 1 = .ok (.getfield 34, 3) := by decide +kernel
theorem dX6_load_4 : decode cX6_load 4 = .ok (.invokevirtual 154, 3) := by decide +kernel
theorem dX6_load_7 : decode cX6_load 7 = .ok (.aload_n 0, 1) := by decide +kernel
theorem dX6_load_8 : decode cX6_load 8 = .ok (.getfield 34, 3) := by decide +kernel
theorem dX6_load_11 : decode cX6_load 11 = .ok (.getfield 143, 3) := by decide +kernel
theorem dX6_load_14 : decode cX6_load 14 = .ok (.if_icmp .ge 13, 3) := by decide +kernel
theorem dX6_load_17 : decode cX6_load 17 = .ok (.new 138, 3) := by decide +kernel
theorem dX6_load_20 : decode cX6_load 20 = .ok (.dup, 1) := by decide +kernel
theorem dX6_load_21 : decode cX6_load 21 = .ok (.ldc 157, 2) := by decide +kernel
theorem dX6_load_23 : decode cX6_load 23 = .ok (.invokespecial 142, 3) := by decide +kernel
theorem dX6_load_26 : decode cX6_load 26 = .ok (.athrow, 1) := by decide +kernel
theorem dX6_load_27 : decode cX6_load 27 = .ok (.aload_n 0, 1) := by decide +kernel
theorem dX6_load_28 : decode cX6_load 28 = .ok (.getfield 27, 3) := by decide +kernel
theorem dX6_load_31 : decode cX6_load 31 = .ok (.aload_n 0, 1) := by decide +kernel
theorem dX6_load_32 : decode cX6_load 32 = .ok (.getfield 10, 3) := by decide +kernel
theorem dX6_load_35 : decode cX6_load 35 = .ok (.invokevirtual 80, 3) := by decide +kernel
theorem dX6_load_38 : decode cX6_load 38 = .ok (.aload_n 0, 1) := by decide +kernel
theorem dX6_load_39 : decode cX6_load 39 = .ok (.getfield 10, 3) := by decide +kernel
theorem dX6_load_42 : decode cX6_load 42 = .ok (.invokevirtual 159, 3) := by decide +kernel
theorem dX6_load_45 : decode cX6_load 45 = .ok (.iconst 0, 1) := by decide +kernel
theorem dX6_load_46 : decode cX6_load 46 = .ok (.istore_n 1, 1) := by decide +kernel
theorem dX6_load_47 : decode cX6_load 47 = .ok (.iload_n 1, 1) := by decide +kernel
theorem dX6_load_48 : decode cX6_load 48 = .ok (.aload_n 0, 1) := by decide +kernel
theorem dX6_load_49 : decode cX6_load 49 = .ok (.getfield 34, 3) := by decide +kernel
theorem dX6_load_52 : decode cX6_load 52 = .ok (.getfield 143, 3) := by decide +kernel
theorem dX6_load_55 : decode cX6_load 55 = .ok (.if_icmp .ge 24, 3) := by decide +kernel
theorem dX6_load_58 : decode cX6_load 58 = .ok (.aload_n 0, 1) := by decide +kernel
theorem dX6_load_59 : decode cX6_load 59 = .ok (.getfield 10, 3) := by decide +kernel
theorem dX6_load_62 : decode cX6_load 62 = .ok (.aload_n 0, 1) := by decide +kernel
theorem dX6_load_63 : decode cX6_load 63 = .ok (.getfield 34, 3) := by decide +kernel
theorem dX6_load_66 : decode cX6_load 66 = .ok (.iload_n 1, 1) := by decide +kernel
theorem dX6_load_67 : decode cX6_load 67 = .ok (.invokevirtual 160, 3) := by decide +kernel
theorem dX6_load_70 : decode cX6_load 70 = .ok (.invokevirtual 84, 3) := by decide +kernel
theorem dX6_load_73 : decode cX6_load 73 = .ok (.iinc 1 1, 3) := by decide +kernel
theorem dX6_load_76 : decode cX6_load 76 = .ok (.goto (-29), 3) := by decide +kernel
theorem dX6_load_79 : decode cX6_load 79 = .ok (.aload_n 0, 1) := by decide +kernel
theorem dX6_load_80 : decode cX6_load 80 = .ok (.getfield 34, 3) := by decide +kernel
theorem dX6_load_83 : decode cX6_load 83 = .ok (.invokevirtual 151, 3) := by decide +kernel
theorem dX6_load_86 : decode cX6_load 86 = .ok (.aload_n 0, 1) := by decide +kernel
theorem dX6_load_87 : decode cX6_load 87 = .ok (.getfield 10, 3) := by decide +kernel
theorem dX6_load_90 : decode cX6_load 90 = .ok (.getfield 66, 3) := by decide +kernel
theorem dX6_load_93 : decode cX6_load 93 = .ok (.ireturn, 1) := by decide +kernel
theorem dX6_write_0 : decode cX6_write 0 = .ok (.aload_n 0, 1) := by decide +kernel
theorem dX6_write_1 : decode cX6_write 1 = .ok (.getfield 10, 3) := by decide +kernel
theorem dX6_write_4 : decode cX6_write 4 = .ok (.invokevirtual 163, 3) := by decide +kernel
theorem dX6_write_7 : decode cX6_write 7 = .ok (.ifCond .ne 5, 3) := by decide +kernel
theorem dX6_write_10 : decode cX6_write 10 = .ok (.iconst (-1), 1) := by decide +kernel
theorem dX6_write_11 : decode cX6_write 11 = .ok (.ireturn, 1) := by decide +kernel
theorem dX6_write_12 : decode cX6_write 12 = .ok (.aload_n 0, 1) := by decide +kernel
theorem dX6_write_13 : decode cX6_write 13 = .ok (.getfield 34, 3) := by decide +kernel
theorem dX6_write_16 : decode cX6_write 16 = .ok (.invokevirtual 151, 3) := by decide +kernel
theorem dX6_write_19 : decode cX6_write 19 = .ok (.iconst 0, 1) := by decide +kernel
theorem dX6_write_20 : decode cX6_write 20 = .ok (.istore_n 1, 1) := by decide +kernel
theorem dX6_write_21 : decode cX6_write 21 = .ok (.iload_n 1, 1) := by decide +kernel
theorem dX6_write_22 : decode cX6_write 22 = .ok (.aload_n 0, 1) := by decide +kernel
theorem dX6_write_23 : decode cX6_write 23 = .ok (.getfield 10, 3) := by decide +kernel
theorem dX6_write_26 : decode cX6_write 26 = .ok (.getfield 66, 3) := by decide +kernel
theorem dX6_write_29 : decode cX6_write 29 = .ok (.if_icmp .ge 24, 3) := by decide +kernel
theorem dX6_write_32 : decode cX6_write 32 = .ok (.aload_n 0, 1) := by decide +kernel
theorem dX6_write_33 : decode cX6_write 33 = .ok (.getfield 34, 3) := by decide +kernel
theorem dX6_write_36 : decode cX6_write 36 = .ok (.aload_n 0, 1) := by decide +kernel
theorem dX6_write_37 : decode cX6_write 37 = .ok (.getfield 10, 3) := by decide +kernel
theorem dX6_write_40 : decode cX6_write 40 = .ok (.iload_n 1, 1) := by decide +kernel
theorem dX6_write_41 : decode cX6_write 41 = .ok (.invokevirtual 167, 3) := by decide +kernel
theorem dX6_write_44 : decode cX6_write 44 = .ok (.invokevirtual 170, 3) := by decide +kernel
theorem dX6_write_47 : decode cX6_write 47 = .ok (.iinc 1 1, 3) := by decide +kernel
theorem dX6_write_50 : decode cX6_write 50 = .ok (.goto (-29), 3) := by decide +kernel
theorem dX6_write_53 : decode cX6_write 53 = .ok (.aload_n 0, 1) := by decide +kernel
theorem dX6_write_54 : decode cX6_write 54 = .ok (.getfield 34, 3) := by decide +kernel
theorem dX6_write_57 : decode cX6_write 57 = .ok (.getfield 143, 3) := by decide +kernel
theorem dX6_write_60 : decode cX6_write 60 = .ok (.ireturn, 1) := by decide +kernel
theorem dX6_keep_0 : decode cX6_keep 0 = .ok (.iload_n 1, 1) := by decide +kernel
theorem dX6_keep_1 : decode cX6_keep 1 = .ok (.invokestatic 173, 3) := by decide +kernel
theorem dX6_keep_4 : decode cX6_keep 4 = .ok (.aload_n 0, 1) := by decide +kernel
theorem dX6_keep_5 : decode cX6_keep 5 = .ok (.getfield 16, 3) := by decide +kernel
theorem dX6_keep_8 : decode cX6_keep 8 = .ok (.iload_n 1, 1) := by decide +kernel
theorem dX6_keep_9 : decode cX6_keep 9 = .ok (.aaload, 1) := by decide +kernel
theorem dX6_keep_10 : decode cX6_keep 10 = .ok (.astore_n 2, 1) := by decide +kernel
theorem dX6_keep_11 : decode cX6_keep 11 = .ok (.aload_n 2, 1) := by decide +kernel
theorem dX6_keep_12 : decode cX6_keep 12 = .ok (.ifnull 18, 3) := by decide +kernel
theorem dX6_keep_15 : decode cX6_keep 15 = .ok (.aload_n 2, 1) := by decide +kernel
theorem dX6_keep_16 : decode cX6_keep 16 = .ok (.aload_n 0, 1) := by decide +kernel
theorem dX6_keep_17 : decode cX6_keep 17 = .ok (.getfield 10, 3) := by decide +kernel
theorem dX6_keep_20 : decode cX6_keep 20 = .ok (.invokevirtual 176, 3) := by decide +kernel
theorem dX6_keep_23 : decode cX6_keep 23 = .ok (.aload_n 0, 1) := by decide +kernel
theorem dX6_keep_24 : decode cX6_keep 24 = .ok (.getfield 20, 3) := by decide +kernel
theorem dX6_keep_27 : decode cX6_keep 27 = .ok (.iload_n 1, 1) := by decide +kernel
theorem dX6_keep_28 : decode cX6_keep 28 = .ok (.iconst 1, 1) := by decide +kernel
theorem dX6_keep_29 : decode cX6_keep 29 = .ok (.bastore, 1) := by decide +kernel
theorem dX6_keep_30 : decode cX6_keep 30 = .ok (.aload_n 0, 1) := by decide +kernel
theorem dX6_keep_31 : decode cX6_keep 31 = .ok (.getfield 10, 3) := by decide +kernel
theorem dX6_keep_34 : decode cX6_keep 34 = .ok (.getfield 119, 3) := by decide +kernel
theorem dX6_keep_37 : decode cX6_keep 37 = .ok (.invokestatic 132, 3) := by decide +kernel
theorem dX6_keep_40 : decode cX6_keep 40 = .ok (.ireturn, 1) := by decide +kernel
theorem dX6_goBack_0 : decode cX6_goBack 0 = .ok (.iload_n 1, 1) := by decide +kernel
theorem dX6_goBack_1 : decode cX6_goBack 1 = .ok (.invokestatic 173, 3) := by decide +kernel
theorem dX6_goBack_4 : decode cX6_goBack 4 = .ok (.aload_n 0, 1) := by decide +kernel
theorem dX6_goBack_5 : decode cX6_goBack 5 = .ok (.getfield 16, 3) := by decide +kernel
theorem dX6_goBack_8 : decode cX6_goBack 8 = .ok (.iload_n 1, 1) := by decide +kernel
theorem dX6_goBack_9 : decode cX6_goBack 9 = .ok (.aaload, 1) := by decide +kernel
theorem dX6_goBack_10 : decode cX6_goBack 10 = .ok (.astore_n 2, 1) := by decide +kernel
theorem dX6_goBack_11 : decode cX6_goBack 11 = .ok (.aload_n 2, 1) := by decide +kernel
theorem dX6_goBack_12 : decode cX6_goBack 12 = .ok (.ifnull 12, 3) := by decide +kernel
theorem dX6_goBack_15 : decode cX6_goBack 15 = .ok (.aload_n 0, 1) := by decide +kernel
theorem dX6_goBack_16 : decode cX6_goBack 16 = .ok (.getfield 20, 3) := by decide +kernel
theorem dX6_goBack_19 : decode cX6_goBack 19 = .ok (.iload_n 1, 1) := by decide +kernel
theorem dX6_goBack_20 : decode cX6_goBack 20 = .ok (.baload, 1) := by decide +kernel
theorem dX6_goBack_21 : decode cX6_goBack 21 = .ok (.ifCond .ne 13, 3) := by decide +kernel
theorem dX6_goBack_24 : decode cX6_goBack 24 = .ok (.new 70, 3) := by decide +kernel
theorem dX6_goBack_27 : decode cX6_goBack 27 = .ok (.dup, 1) := by decide +kernel
theorem dX6_goBack_28 : decode cX6_goBack 28 = .ok (.ldc 179, 2) := by decide +kernel
theorem dX6_goBack_30 : decode cX6_goBack 30 = .ok (.invokespecial 74, 3) := by decide +kernel
theorem dX6_goBack_33 : decode cX6_goBack 33 = .ok (.athrow, 1) := by decide +kernel
theorem dX6_goBack_34 : decode cX6_goBack 34 = .ok (.aload_n 0, 1) := by decide +kernel
theorem dX6_goBack_35 : decode cX6_goBack 35 = .ok (.getfield 27, 3) := by decide +kernel
theorem dX6_goBack_38 : decode cX6_goBack 38 = .ok (.aload_n 0, 1) := by decide +kernel
theorem dX6_goBack_39 : decode cX6_goBack 39 = .ok (.getfield 10, 3) := by decide +kernel
theorem dX6_goBack_42 : decode cX6_goBack 42 = .ok (.invokevirtual 80, 3) := by decide +kernel
theorem dX6_goBack_45 : decode cX6_goBack 45 = .ok (.aload_n 0, 1) := by decide +kernel
theorem dX6_goBack_46 : decode cX6_goBack 46 = .ok (.getfield 10, 3) := by decide +kernel
theorem dX6_goBack_49 : decode cX6_goBack 49 = .ok (.aload_n 2, 1) := by decide +kernel
theorem dX6_goBack_50 : decode cX6_goBack 50 = .ok (.invokevirtual 176, 3) := by decide +kernel
theorem dX6_goBack_53 : decode cX6_goBack 53 = .ok (.aload_n 0, 1) := by decide +kernel
theorem dX6_goBack_54 : decode cX6_goBack 54 = .ok (.getfield 10, 3) := by decide +kernel
theorem dX6_goBack_57 : decode cX6_goBack 57 = .ok (.getfield 119, 3) := by decide +kernel
theorem dX6_goBack_60 : decode cX6_goBack 60 = .ok (.invokestatic 132, 3) := by decide +kernel
theorem dX6_goBack_63 : decode cX6_goBack 63 = .ok (.ireturn, 1) := by decide +kernel
theorem dX6_undo_0 : decode cX6_undo 0 = .ok (.aload_n 0, 1) := by decide +kernel
theorem dX6_undo_1 : decode cX6_undo 1 = .ok (.getfield 27, 3) := by decide +kernel
theorem dX6_undo_4 : decode cX6_undo 4 = .ok (.getfield 181, 3) := by decide +kernel
theorem dX6_undo_7 : decode cX6_undo 7 = .ok (.ifCond .ne 13, 3) := by decide +kernel
theorem dX6_undo_10 : decode cX6_undo 10 = .ok (.new 70, 3) := by decide +kernel
theorem dX6_undo_13 : decode cX6_undo 13 = .ok (.dup, 1) := by decide +kernel
theorem dX6_undo_14 : decode cX6_undo 14 = .ok (.ldc 182, 2) := by decide +kernel
theorem dX6_undo_16 : decode cX6_undo 16 = .ok (.invokespecial 74, 3) := by decide +kernel
theorem dX6_undo_19 : decode cX6_undo 19 = .ok (.athrow, 1) := by decide +kernel
theorem dX6_undo_20 : decode cX6_undo 20 = .ok (.aload_n 0, 1) := by decide +kernel
theorem dX6_undo_21 : decode cX6_undo 21 = .ok (.getfield 27, 3) := by decide +kernel
theorem dX6_undo_24 : decode cX6_undo 24 = .ok (.aload_n 0, 1) := by decide +kernel
theorem dX6_undo_25 : decode cX6_undo 25 = .ok (.getfield 10, 3) := by decide +kernel
theorem dX6_undo_28 : decode cX6_undo 28 = .ok (.invokevirtual 184, 3) := by decide +kernel
theorem dX6_undo_31 : decode cX6_undo 31 = .ok (.aload_n 0, 1) := by decide +kernel
theorem dX6_undo_32 : decode cX6_undo 32 = .ok (.getfield 27, 3) := by decide +kernel
theorem dX6_undo_35 : decode cX6_undo 35 = .ok (.getfield 181, 3) := by decide +kernel
theorem dX6_undo_38 : decode cX6_undo 38 = .ok (.ireturn, 1) := by decide +kernel
theorem dX6_nodeOf_0 : decode cX6_nodeOf 0 = .ok (.aload_n 0, 1) := by decide +kernel
theorem dX6_nodeOf_1 : decode cX6_nodeOf 1 = .ok (.iload_n 1, 1) := by decide +kernel
theorem dX6_nodeOf_2 : decode cX6_nodeOf 2 = .ok (.invokevirtual 62, 3) := by decide +kernel
theorem dX6_nodeOf_5 : decode cX6_nodeOf 5 = .ok (.iload_n 2, 1) := by decide +kernel
theorem dX6_nodeOf_6 : decode cX6_nodeOf 6 = .ok (.bipush 6, 2) := by decide +kernel
theorem dX6_nodeOf_8 : decode cX6_nodeOf 8 = .ok (.invokestatic 187, 3) := by decide +kernel
theorem dX6_nodeOf_11 : decode cX6_nodeOf 11 = .ok (.aload_n 0, 1) := by decide +kernel
theorem dX6_nodeOf_12 : decode cX6_nodeOf 12 = .ok (.getfield 10, 3) := by decide +kernel
theorem dX6_nodeOf_15 : decode cX6_nodeOf 15 = .ok (.iload_n 1, 1) := by decide +kernel
theorem dX6_nodeOf_16 : decode cX6_nodeOf 16 = .ok (.invokevirtual 190, 3) := by decide +kernel
theorem dX6_nodeOf_19 : decode cX6_nodeOf 19 = .ok (.ifCond .ne 14, 3) := by decide +kernel
theorem dX6_nodeOf_22 : decode cX6_nodeOf 22 = .ok (.iload_n 2, 1) := by decide +kernel
theorem dX6_nodeOf_23 : decode cX6_nodeOf 23 = .ok (.iconst 2, 1) := by decide +kernel
theorem dX6_nodeOf_24 : decode cX6_nodeOf 24 = .ok (.if_icmp .ge 7, 3) := by decide +kernel
theorem dX6_nodeOf_27 : decode cX6_nodeOf 27 = .ok (.iconst 0, 1) := by decide +kernel
theorem dX6_nodeOf_28 : decode cX6_nodeOf 28 = .ok (.goto 4, 3) := by decide +kernel
theorem dX6_nodeOf_31 : decode cX6_nodeOf 31 = .ok (.iconst (-1), 1) := by decide +kernel
theorem dX6_nodeOf_32 : decode cX6_nodeOf 32 = .ok (.ireturn, 1) := by decide +kernel
theorem dX6_nodeOf_33 : decode cX6_nodeOf 33 = .ok (.iload_n 2, 1) := by decide +kernel
theorem dX6_nodeOf_34 : decode cX6_nodeOf 34 = .ok (.tableswitch 95 0 4 #[34, 36, 56, 65, 81], 34) := by decide +kernel
theorem dX6_nodeOf_68 : decode cX6_nodeOf 68 = .ok (.iconst 1, 1) := by decide +kernel
theorem dX6_nodeOf_69 : decode cX6_nodeOf 69 = .ok (.ireturn, 1) := by decide +kernel
theorem dX6_nodeOf_70 : decode cX6_nodeOf 70 = .ok (.aload_n 0, 1) := by decide +kernel
theorem dX6_nodeOf_71 : decode cX6_nodeOf 71 = .ok (.getfield 10, 3) := by decide +kernel
theorem dX6_nodeOf_74 : decode cX6_nodeOf 74 = .ok (.getfield 93, 3) := by decide +kernel
theorem dX6_nodeOf_77 : decode cX6_nodeOf 77 = .ok (.iload_n 1, 1) := by decide +kernel
theorem dX6_nodeOf_78 : decode cX6_nodeOf 78 = .ok (.invokevirtual 194, 3) := by decide +kernel
theorem dX6_nodeOf_81 : decode cX6_nodeOf 81 = .ok (.aload_n 0, 1) := by decide +kernel
theorem dX6_nodeOf_82 : decode cX6_nodeOf 82 = .ok (.getfield 10, 3) := by decide +kernel
theorem dX6_nodeOf_85 : decode cX6_nodeOf 85 = .ok (.getfield 119, 3) := by decide +kernel
theorem dX6_nodeOf_88 : decode cX6_nodeOf 88 = .ok (.iand, 1) := by decide +kernel
theorem dX6_nodeOf_89 : decode cX6_nodeOf 89 = .ok (.ireturn, 1) := by decide +kernel
theorem dX6_nodeOf_90 : decode cX6_nodeOf 90 = .ok (.aload_n 0, 1) := by decide +kernel
theorem dX6_nodeOf_91 : decode cX6_nodeOf 91 = .ok (.getfield 10, 3) := by decide +kernel
theorem dX6_nodeOf_94 : decode cX6_nodeOf 94 = .ok (.iload_n 1, 1) := by decide +kernel
theorem dX6_nodeOf_95 : decode cX6_nodeOf 95 = .ok (.invokevirtual 197, 3) := by decide +kernel
theorem dX6_nodeOf_98 : decode cX6_nodeOf 98 = .ok (.ireturn, 1) := by decide +kernel
theorem dX6_nodeOf_99 : decode cX6_nodeOf 99 = .ok (.aload_n 0, 1) := by decide +kernel
theorem dX6_nodeOf_100 : decode cX6_nodeOf 100 = .ok (.invokevirtual 200, 3) := by decide +kernel
theorem dX6_nodeOf_103 : decode cX6_nodeOf 103 = .ok (.aload_n 0, 1) := by decide +kernel
theorem dX6_nodeOf_104 : decode cX6_nodeOf 104 = .ok (.getfield 10, 3) := by decide +kernel
theorem dX6_nodeOf_107 : decode cX6_nodeOf 107 = .ok (.iload_n 1, 1) := by decide +kernel
theorem dX6_nodeOf_108 : decode cX6_nodeOf 108 = .ok (.invokevirtual 204, 3) := by decide +kernel
theorem dX6_nodeOf_111 : decode cX6_nodeOf 111 = .ok (.invokevirtual 207, 3) := by decide +kernel
theorem dX6_nodeOf_114 : decode cX6_nodeOf 114 = .ok (.ireturn, 1) := by decide +kernel
theorem dX6_nodeOf_115 : decode cX6_nodeOf 115 = .ok (.aload_n 0, 1) := by decide +kernel
theorem dX6_nodeOf_116 : decode cX6_nodeOf 116 = .ok (.iload_n 1, 1) := by decide +kernel
theorem dX6_nodeOf_117 : decode cX6_nodeOf 117 = .ok (.invokevirtual 210, 3) := by decide +kernel
theorem dX6_nodeOf_120 : decode cX6_nodeOf 120 = .ok (.ifCond .eq 7, 3) := by decide +kernel
theorem dX6_nodeOf_123 : decode cX6_nodeOf 123 = .ok (.iconst 1, 1) := by decide +kernel
theorem dX6_nodeOf_124 : decode cX6_nodeOf 124 = .ok (.goto 4, 3) := by decide +kernel
theorem dX6_nodeOf_127 : decode cX6_nodeOf 127 = .ok (.iconst 0, 1) := by decide +kernel
theorem dX6_nodeOf_128 : decode cX6_nodeOf 128 = .ok (.ireturn, 1) := by decide +kernel
theorem dX6_nodeOf_129 : decode cX6_nodeOf 129 = .ok (.aload_n 0, 1) := by decide +kernel
theorem dX6_nodeOf_130 : decode cX6_nodeOf 130 = .ok (.invokevirtual 200, 3) := by decide +kernel
theorem dX6_nodeOf_133 : decode cX6_nodeOf 133 = .ok (.aload_n 0, 1) := by decide +kernel
theorem dX6_nodeOf_134 : decode cX6_nodeOf 134 = .ok (.getfield 10, 3) := by decide +kernel
theorem dX6_nodeOf_137 : decode cX6_nodeOf 137 = .ok (.iload_n 1, 1) := by decide +kernel
theorem dX6_nodeOf_138 : decode cX6_nodeOf 138 = .ok (.invokevirtual 204, 3) := by decide +kernel
theorem dX6_nodeOf_141 : decode cX6_nodeOf 141 = .ok (.invokevirtual 213, 3) := by decide +kernel
theorem dX6_nodeOf_144 : decode cX6_nodeOf 144 = .ok (.ifCond .eq 7, 3) := by decide +kernel
theorem dX6_nodeOf_147 : decode cX6_nodeOf 147 = .ok (.iconst 0, 1) := by decide +kernel
theorem dX6_nodeOf_148 : decode cX6_nodeOf 148 = .ok (.goto 4, 3) := by decide +kernel
theorem dX6_nodeOf_151 : decode cX6_nodeOf 151 = .ok (.iconst 1, 1) := by decide +kernel
theorem dX6_nodeOf_152 : decode cX6_nodeOf 152 = .ok (.ireturn, 1) := by decide +kernel
theorem dX6_tree_0 : decode cX6_tree 0 = .ok (.aload_n 0, 1) := by decide +kernel
theorem dX6_tree_1 : decode cX6_tree 1 = .ok (.getfield 10, 3) := by decide +kernel
theorem dX6_tree_4 : decode cX6_tree 4 = .ok (.iload_n 1, 1) := by decide +kernel
theorem dX6_tree_5 : decode cX6_tree 5 = .ok (.invokevirtual 216, 3) := by decide +kernel
theorem dX6_tree_8 : decode cX6_tree 8 = .ok (.istore_n 3, 1) := by decide +kernel
theorem dX6_tree_9 : decode cX6_tree 9 = .ok (.iload_n 3, 1) := by decide +kernel
theorem dX6_tree_10 : decode cX6_tree 10 = .ok (.ifCond .ne 13, 3) := by decide +kernel
theorem dX6_tree_13 : decode cX6_tree 13 = .ok (.new 219, 3) := by decide +kernel
theorem dX6_tree_16 : decode cX6_tree 16 = .ok (.dup, 1) := by decide +kernel
theorem dX6_tree_17 : decode cX6_tree 17 = .ok (.ldc 221, 2) := by decide +kernel
theorem dX6_tree_19 : decode cX6_tree 19 = .ok (.invokespecial 223, 3) := by decide +kernel
theorem dX6_tree_22 : decode cX6_tree 22 = .ok (.athrow, 1) := by decide +kernel
theorem dX6_tree_23 : decode cX6_tree 23 = .ok (.iload_n 2, 1) := by decide +kernel
theorem dX6_tree_24 : decode cX6_tree 24 = .ok (.bipush 6, 2) := by decide +kernel
theorem dX6_tree_26 : decode cX6_tree 26 = .ok (.invokestatic 187, 3) := by decide +kernel
theorem dX6_tree_29 : decode cX6_tree 29 = .ok (.iload_n 2, 1) := by decide +kernel
theorem dX6_tree_30 : decode cX6_tree 30 = .ok (.tableswitch 62 0 4 #[34, 36, 41, 50, 56], 34) := by decide +kernel
theorem dX6_tree_64 : decode cX6_tree 64 = .ok (.iload_n 3, 1) := by decide +kernel
theorem dX6_tree_65 : decode cX6_tree 65 = .ok (.ireturn, 1) := by decide +kernel
theorem dX6_tree_66 : decode cX6_tree 66 = .ok (.iload_n 3, 1) := by decide +kernel
theorem dX6_tree_67 : decode cX6_tree 67 = .ok (.invokestatic 132, 3) := by decide +kernel
theorem dX6_tree_70 : decode cX6_tree 70 = .ok (.ireturn, 1) := by decide +kernel
theorem dX6_tree_71 : decode cX6_tree 71 = .ok (.aload_n 0, 1) := by decide +kernel
theorem dX6_tree_72 : decode cX6_tree 72 = .ok (.invokevirtual 200, 3) := by decide +kernel
theorem dX6_tree_75 : decode cX6_tree 75 = .ok (.iload_n 3, 1) := by decide +kernel
theorem dX6_tree_76 : decode cX6_tree 76 = .ok (.invokevirtual 207, 3) := by decide +kernel
theorem dX6_tree_79 : decode cX6_tree 79 = .ok (.ireturn, 1) := by decide +kernel
theorem dX6_tree_80 : decode cX6_tree 80 = .ok (.aload_n 0, 1) := by decide +kernel
theorem dX6_tree_81 : decode cX6_tree 81 = .ok (.iload_n 1, 1) := by decide +kernel
theorem dX6_tree_82 : decode cX6_tree 82 = .ok (.invokevirtual 224, 3) := by decide +kernel
theorem dX6_tree_85 : decode cX6_tree 85 = .ok (.ireturn, 1) := by decide +kernel
theorem dX6_tree_86 : decode cX6_tree 86 = .ok (.aload_n 0, 1) := by decide +kernel
theorem dX6_tree_87 : decode cX6_tree 87 = .ok (.iload_n 3, 1) := by decide +kernel
theorem dX6_tree_88 : decode cX6_tree 88 = .ok (.invokevirtual 227, 3) := by decide +kernel
theorem dX6_tree_91 : decode cX6_tree 91 = .ok (.ireturn, 1) := by decide +kernel
theorem dX6_tree_92 : decode cX6_tree 92 = .ok (.aload_n 0, 1) := by decide +kernel
theorem dX6_tree_93 : decode cX6_tree 93 = .ok (.getfield 10, 3) := by decide +kernel
theorem dX6_tree_96 : decode cX6_tree 96 = .ok (.getfield 93, 3) := by decide +kernel
theorem dX6_tree_99 : decode cX6_tree 99 = .ok (.iload_n 3, 1) := by decide +kernel
theorem dX6_tree_100 : decode cX6_tree 100 = .ok (.invokevirtual 230, 3) := by decide +kernel
theorem dX6_tree_103 : decode cX6_tree 103 = .ok (.ireturn, 1) := by decide +kernel
theorem dX6_count_0 : decode cX6_count 0 = .ok (.iload_n 1, 1) := by decide +kernel
theorem dX6_count_1 : decode cX6_count 1 = .ok (.bipush 12, 2) := by decide +kernel
theorem dX6_count_3 : decode cX6_count 3 = .ok (.invokestatic 187, 3) := by decide +kernel
theorem dX6_count_6 : decode cX6_count 6 = .ok (.iload_n 1, 1) := by decide +kernel
theorem dX6_count_7 : decode cX6_count 7 = .ok (.tableswitch 173 0 10 #[57, 65, 76, 94, 102, 107, 122, 127, 150, 160, 168], 57) := by decide +kernel
theorem dX6_count_64 : decode cX6_count 64 = .ok (.aload_n 0, 1) := by decide +kernel
theorem dX6_count_65 : decode cX6_count 65 = .ok (.getfield 10, 3) := by decide +kernel
theorem dX6_count_68 : decode cX6_count 68 = .ok (.getfield 66, 3) := by decide +kernel
theorem dX6_count_71 : decode cX6_count 71 = .ok (.ireturn, 1) := by decide +kernel
theorem dX6_count_72 : decode cX6_count 72 = .ok (.aload_n 0, 1) := by decide +kernel
theorem dX6_count_73 : decode cX6_count 73 = .ok (.getfield 10, 3) := by decide +kernel
theorem dX6_count_76 : decode cX6_count 76 = .ok (.getfield 119, 3) := by decide +kernel
theorem dX6_count_79 : decode cX6_count 79 = .ok (.invokestatic 132, 3) := by decide +kernel
theorem dX6_count_82 : decode cX6_count 82 = .ok (.ireturn, 1) := by decide +kernel
theorem dX6_count_83 : decode cX6_count 83 = .ok (.aload_n 0, 1) := by decide +kernel
theorem dX6_count_84 : decode cX6_count 84 = .ok (.getfield 10, 3) := by decide +kernel
theorem dX6_count_87 : decode cX6_count 87 = .ok (.getfield 93, 3) := by decide +kernel
theorem dX6_count_90 : decode cX6_count 90 = .ok (.aload_n 0, 1) := by decide +kernel
theorem dX6_count_91 : decode cX6_count 91 = .ok (.getfield 10, 3) := by decide +kernel
theorem dX6_count_94 : decode cX6_count 94 = .ok (.getfield 119, 3) := by decide +kernel
theorem dX6_count_97 : decode cX6_count 97 = .ok (.invokevirtual 233, 3) := by decide +kernel
theorem dX6_count_100 : decode cX6_count 100 = .ok (.ireturn, 1) := by decide +kernel
theorem dX6_count_101 : decode cX6_count 101 = .ok (.aload_n 0, 1) := by decide +kernel
theorem dX6_count_102 : decode cX6_count 102 = .ok (.getfield 10, 3) := by decide +kernel
theorem dX6_count_105 : decode cX6_count 105 = .ok (.invokevirtual 100, 3) := by decide +kernel
theorem dX6_count_108 : decode cX6_count 108 = .ok (.ireturn, 1) := by decide +kernel
theorem dX6_count_109 : decode cX6_count 109 = .ok (.aload_n 0, 1) := by decide +kernel
theorem dX6_count_110 : decode cX6_count 110 = .ok (.invokevirtual 236, 3) := by decide +kernel
theorem dX6_count_113 : decode cX6_count 113 = .ok (.ireturn, 1) := by decide +kernel
theorem dX6_count_114 : decode cX6_count 114 = .ok (.aload_n 0, 1) := by decide +kernel
theorem dX6_count_115 : decode cX6_count 115 = .ok (.invokevirtual 200, 3) := by decide +kernel
theorem dX6_count_118 : decode cX6_count 118 = .ok (.aload_n 0, 1) := by decide +kernel
theorem dX6_count_119 : decode cX6_count 119 = .ok (.getfield 10, 3) := by decide +kernel
theorem dX6_count_122 : decode cX6_count 122 = .ok (.getfield 119, 3) := by decide +kernel
theorem dX6_count_125 : decode cX6_count 125 = .ok (.invokevirtual 207, 3) := by decide +kernel
theorem dX6_count_128 : decode cX6_count 128 = .ok (.ireturn, 1) := by decide +kernel
theorem dX6_count_129 : decode cX6_count 129 = .ok (.aload_n 0, 1) := by decide +kernel
theorem dX6_count_130 : decode cX6_count 130 = .ok (.invokevirtual 239, 3) := by decide +kernel
theorem dX6_count_133 : decode cX6_count 133 = .ok (.ireturn, 1) := by decide +kernel
theorem dX6_count_134 : decode cX6_count 134 = .ok (.aload_n 0, 1) := by decide +kernel
theorem dX6_count_135 : decode cX6_count 135 = .ok (.invokevirtual 200, 3) := by decide +kernel
theorem dX6_count_138 : decode cX6_count 138 = .ok (.aload_n 0, 1) := by decide +kernel
theorem dX6_count_139 : decode cX6_count 139 = .ok (.getfield 10, 3) := by decide +kernel
theorem dX6_count_142 : decode cX6_count 142 = .ok (.getfield 119, 3) := by decide +kernel
theorem dX6_count_145 : decode cX6_count 145 = .ok (.invokevirtual 213, 3) := by decide +kernel
theorem dX6_count_148 : decode cX6_count 148 = .ok (.ifCond .eq 7, 3) := by decide +kernel
theorem dX6_count_151 : decode cX6_count 151 = .ok (.iconst 1, 1) := by decide +kernel
theorem dX6_count_152 : decode cX6_count 152 = .ok (.goto 4, 3) := by decide +kernel
theorem dX6_count_155 : decode cX6_count 155 = .ok (.iconst 0, 1) := by decide +kernel
theorem dX6_count_156 : decode cX6_count 156 = .ok (.ireturn, 1) := by decide +kernel
theorem dX6_count_157 : decode cX6_count 157 = .ok (.aload_n 0, 1) := by decide +kernel
theorem dX6_count_158 : decode cX6_count 158 = .ok (.getfield 10, 3) := by decide +kernel
theorem dX6_count_161 : decode cX6_count 161 = .ok (.getfield 242, 3) := by decide +kernel
theorem dX6_count_164 : decode cX6_count 164 = .ok (.iconst 1, 1) := by decide +kernel
theorem dX6_count_165 : decode cX6_count 165 = .ok (.iand, 1) := by decide +kernel
theorem dX6_count_166 : decode cX6_count 166 = .ok (.ireturn, 1) := by decide +kernel
theorem dX6_count_167 : decode cX6_count 167 = .ok (.aload_n 0, 1) := by decide +kernel
theorem dX6_count_168 : decode cX6_count 168 = .ok (.getfield 10, 3) := by decide +kernel
theorem dX6_count_171 : decode cX6_count 171 = .ok (.getfield 242, 3) := by decide +kernel
theorem dX6_count_174 : decode cX6_count 174 = .ok (.ireturn, 1) := by decide +kernel
theorem dX6_count_175 : decode cX6_count 175 = .ok (.aload_n 0, 1) := by decide +kernel
theorem dX6_count_176 : decode cX6_count 176 = .ok (.invokevirtual 245, 3) := by decide +kernel
theorem dX6_count_179 : decode cX6_count 179 = .ok (.ireturn, 1) := by decide +kernel
theorem dX6_count_180 : decode cX6_count 180 = .ok (.aload_n 0, 1) := by decide +kernel
theorem dX6_count_181 : decode cX6_count 181 = .ok (.getfield 27, 3) := by decide +kernel
theorem dX6_count_184 : decode cX6_count 184 = .ok (.getfield 181, 3) := by decide +kernel
theorem dX6_count_187 : decode cX6_count 187 = .ok (.ireturn, 1) := by decide +kernel
theorem dX6_best_0 : decode cX6_best 0 = .ok (.aload_n 0, 1) := by decide +kernel
theorem dX6_best_1 : decode cX6_best 1 = .ok (.invokevirtual 124, 3) := by decide +kernel
theorem dX6_best_4 : decode cX6_best 4 = .ok (.ireturn, 1) := by decide +kernel
theorem dX6_length_0 : decode cX6_length 0 = .ok (.iload_n 1, 1) := by decide +kernel
theorem dX6_length_1 : decode cX6_length 1 = .ok (.ifCond .eq 20, 3) := by decide +kernel
theorem dX6_length_4 : decode cX6_length 4 = .ok (.aload_n 0, 1) := by decide +kernel
theorem dX6_length_5 : decode cX6_length 5 = .ok (.invokevirtual 200, 3) := by decide +kernel
theorem dX6_length_8 : decode cX6_length 8 = .ok (.aload_n 0, 1) := by decide +kernel
theorem dX6_length_9 : decode cX6_length 9 = .ok (.getfield 10, 3) := by decide +kernel
theorem dX6_length_12 : decode cX6_length 12 = .ok (.getfield 119, 3) := by decide +kernel
theorem dX6_length_15 : decode cX6_length 15 = .ok (.invokevirtual 248, 3) := by decide +kernel
theorem dX6_length_18 : decode cX6_length 18 = .ok (.goto 17, 3) := by decide +kernel
theorem dX6_length_21 : decode cX6_length 21 = .ok (.aload_n 0, 1) := by decide +kernel
theorem dX6_length_22 : decode cX6_length 22 = .ok (.invokevirtual 200, 3) := by decide +kernel
theorem dX6_length_25 : decode cX6_length 25 = .ok (.aload_n 0, 1) := by decide +kernel
theorem dX6_length_26 : decode cX6_length 26 = .ok (.getfield 10, 3) := by decide +kernel
theorem dX6_length_29 : decode cX6_length 29 = .ok (.getfield 119, 3) := by decide +kernel
theorem dX6_length_32 : decode cX6_length 32 = .ok (.invokevirtual 251, 3) := by decide +kernel
theorem dX6_length_35 : decode cX6_length 35 = .ok (.ireturn, 1) := by decide +kernel
theorem dX6_mirror_0 : decode cX6_mirror 0 = .ok (.iload_n 1, 1) := by decide +kernel
theorem dX6_mirror_1 : decode cX6_mirror 1 = .ok (.ifCond .ge 13, 3) := by decide +kernel
theorem dX6_mirror_4 : decode cX6_mirror 4 = .ok (.new 138, 3) := by decide +kernel
theorem dX6_mirror_7 : decode cX6_mirror 7 = .ok (.dup, 1) := by decide +kernel
theorem dX6_mirror_8 : decode cX6_mirror 8 = .ok (.ldc 254, 2) := by decide +kernel
theorem dX6_mirror_10 : decode cX6_mirror 10 = .ok (.invokespecial 142, 3) := by decide +kernel
theorem dX6_mirror_13 : decode cX6_mirror 13 = .ok (.athrow, 1) := by decide +kernel
theorem dX6_mirror_14 : decode cX6_mirror 14 = .ok (.iconst 0, 1) := by decide +kernel
theorem dX6_mirror_15 : decode cX6_mirror 15 = .ok (.istore_n 2, 1) := by decide +kernel
theorem dX6_mirror_16 : decode cX6_mirror 16 = .ok (.iconst 0, 1) := by decide +kernel
theorem dX6_mirror_17 : decode cX6_mirror 17 = .ok (.istore_n 3, 1) := by decide +kernel
theorem dX6_mirror_18 : decode cX6_mirror 18 = .ok (.iload_n 3, 1) := by decide +kernel
theorem dX6_mirror_19 : decode cX6_mirror 19 = .ok (.aload_n 0, 1) := by decide +kernel
theorem dX6_mirror_20 : decode cX6_mirror 20 = .ok (.getfield 10, 3) := by decide +kernel
theorem dX6_mirror_23 : decode cX6_mirror 23 = .ok (.getfield 66, 3) := by decide +kernel
theorem dX6_mirror_26 : decode cX6_mirror 26 = .ok (.if_icmp .ge 58, 3) := by decide +kernel
theorem dX6_mirror_29 : decode cX6_mirror 29 = .ok (.iload_n 3, 1) := by decide +kernel
theorem dX6_mirror_30 : decode cX6_mirror 30 = .ok (.iconst 1, 1) := by decide +kernel
theorem dX6_mirror_31 : decode cX6_mirror 31 = .ok (.iadd, 1) := by decide +kernel
theorem dX6_mirror_32 : decode cX6_mirror 32 = .ok (.istore 4, 2) := by decide +kernel
theorem dX6_mirror_34 : decode cX6_mirror 34 = .ok (.iload 4, 2) := by decide +kernel
theorem dX6_mirror_36 : decode cX6_mirror 36 = .ok (.aload_n 0, 1) := by decide +kernel
theorem dX6_mirror_37 : decode cX6_mirror 37 = .ok (.getfield 10, 3) := by decide +kernel
theorem dX6_mirror_40 : decode cX6_mirror 40 = .ok (.getfield 66, 3) := by decide +kernel
theorem dX6_mirror_43 : decode cX6_mirror 43 = .ok (.if_icmp .ge 35, 3) := by decide +kernel
theorem dX6_mirror_46 : decode cX6_mirror 46 = .ok (.aload_n 0, 1) := by decide +kernel
theorem dX6_mirror_47 : decode cX6_mirror 47 = .ok (.iload_n 3, 1) := by decide +kernel
theorem dX6_mirror_48 : decode cX6_mirror 48 = .ok (.iload 4, 2) := by decide +kernel
theorem dX6_mirror_50 : decode cX6_mirror 50 = .ok (.invokevirtual 109, 3) := by decide +kernel
theorem dX6_mirror_53 : decode cX6_mirror 53 = .ok (.ifCond .eq 19, 3) := by decide +kernel
theorem dX6_mirror_56 : decode cX6_mirror 56 = .ok (.iload_n 2, 1) := by decide +kernel
theorem dX6_mirror_57 : decode cX6_mirror 57 = .ok (.iload_n 1, 1) := by decide +kernel
theorem dX6_mirror_58 : decode cX6_mirror 58 = .ok (.if_icmp .ne 11, 3) := by decide +kernel
theorem dX6_mirror_61 : decode cX6_mirror 61 = .ok (.bipush 100, 2) := by decide +kernel
theorem dX6_mirror_63 : decode cX6_mirror 63 = .ok (.iload_n 3, 1) := by decide +kernel
theorem dX6_mirror_64 : decode cX6_mirror 64 = .ok (.imul, 1) := by decide +kernel
theorem dX6_mirror_65 : decode cX6_mirror 65 = .ok (.iload 4, 2) := by decide +kernel
theorem dX6_mirror_67 : decode cX6_mirror 67 = .ok (.iadd, 1) := by decide +kernel
theorem dX6_mirror_68 : decode cX6_mirror 68 = .ok (.ireturn, 1) := by decide +kernel
theorem dX6_mirror_69 : decode cX6_mirror 69 = .ok (.iinc 2 1, 3) := by decide +kernel
theorem dX6_mirror_72 : decode cX6_mirror 72 = .ok (.iinc 4 1, 3) := by decide +kernel
theorem dX6_mirror_75 : decode cX6_mirror 75 = .ok (.goto (-41), 3) := by decide +kernel
theorem dX6_mirror_78 : decode cX6_mirror 78 = .ok (.iinc 3 1, 3) := by decide +kernel
theorem dX6_mirror_81 : decode cX6_mirror 81 = .ok (.goto (-63), 3) := by decide +kernel
theorem dX6_mirror_84 : decode cX6_mirror 84 = .ok (.iconst (-1), 1) := by decide +kernel
theorem dX6_mirror_85 : decode cX6_mirror 85 = .ok (.ireturn, 1) := by decide +kernel
theorem dX6_ifJoined_0 : decode cX6_ifJoined 0 = .ok (.aload_n 0, 1) := by decide +kernel
theorem dX6_ifJoined_1 : decode cX6_ifJoined 1 = .ok (.iload_n 1, 1) := by decide +kernel
theorem dX6_ifJoined_2 : decode cX6_ifJoined 2 = .ok (.invokevirtual 62, 3) := by decide +kernel
theorem dX6_ifJoined_5 : decode cX6_ifJoined 5 = .ok (.aload_n 0, 1) := by decide +kernel
theorem dX6_ifJoined_6 : decode cX6_ifJoined 6 = .ok (.iload_n 2, 1) := by decide +kernel
theorem dX6_ifJoined_7 : decode cX6_ifJoined 7 = .ok (.invokevirtual 62, 3) := by decide +kernel
theorem dX6_ifJoined_10 : decode cX6_ifJoined 10 = .ok (.aload_n 0, 1) := by decide +kernel
theorem dX6_ifJoined_11 : decode cX6_ifJoined 11 = .ok (.getfield 10, 3) := by decide +kernel
theorem dX6_ifJoined_14 : decode cX6_ifJoined 14 = .ok (.iload_n 1, 1) := by decide +kernel
theorem dX6_ifJoined_15 : decode cX6_ifJoined 15 = .ok (.iload_n 2, 1) := by decide +kernel
theorem dX6_ifJoined_16 : decode cX6_ifJoined 16 = .ok (.invokevirtual 87, 3) := by decide +kernel
theorem dX6_ifJoined_19 : decode cX6_ifJoined 19 = .ok (.ifCond .ne 5, 3) := by decide +kernel
theorem dX6_ifJoined_22 : decode cX6_ifJoined 22 = .ok (.iconst (-1), 1) := by decide +kernel
theorem dX6_ifJoined_23 : decode cX6_ifJoined 23 = .ok (.ireturn, 1) := by decide +kernel
theorem dX6_ifJoined_24 : decode cX6_ifJoined 24 = .ok (.aload_n 0, 1) := by decide +kernel
theorem dX6_ifJoined_25 : decode cX6_ifJoined 25 = .ok (.getfield 58, 3) := by decide +kernel
theorem dX6_ifJoined_28 : decode cX6_ifJoined 28 = .ok (.aload_n 0, 1) := by decide +kernel
theorem dX6_ifJoined_29 : decode cX6_ifJoined 29 = .ok (.getfield 10, 3) := by decide +kernel
theorem dX6_ifJoined_32 : decode cX6_ifJoined 32 = .ok (.getfield 93, 3) := by decide +kernel
theorem dX6_ifJoined_35 : decode cX6_ifJoined 35 = .ok (.invokevirtual 256, 3) := by decide +kernel
theorem dX6_ifJoined_38 : decode cX6_ifJoined 38 = .ok (.aload_n 0, 1) := by decide +kernel
theorem dX6_ifJoined_39 : decode cX6_ifJoined 39 = .ok (.getfield 58, 3) := by decide +kernel
theorem dX6_ifJoined_42 : decode cX6_ifJoined 42 = .ok (.iload_n 1, 1) := by decide +kernel
theorem dX6_ifJoined_43 : decode cX6_ifJoined 43 = .ok (.iload_n 2, 1) := by decide +kernel
theorem dX6_ifJoined_44 : decode cX6_ifJoined 44 = .ok (.invokevirtual 96, 3) := by decide +kernel
theorem dX6_ifJoined_47 : decode cX6_ifJoined 47 = .ok (.aload_n 0, 1) := by decide +kernel
theorem dX6_ifJoined_48 : decode cX6_ifJoined 48 = .ok (.getfield 52, 3) := by decide +kernel
theorem dX6_ifJoined_51 : decode cX6_ifJoined 51 = .ok (.aload_n 0, 1) := by decide +kernel
theorem dX6_ifJoined_52 : decode cX6_ifJoined 52 = .ok (.getfield 58, 3) := by decide +kernel
theorem dX6_ifJoined_55 : decode cX6_ifJoined 55 = .ok (.invokevirtual 259, 3) := by decide +kernel
theorem dX6_ifJoined_58 : decode cX6_ifJoined 58 = .ok (.aload_n 0, 1) := by decide +kernel
theorem dX6_ifJoined_59 : decode cX6_ifJoined 59 = .ok (.getfield 52, 3) := by decide +kernel
theorem dX6_ifJoined_62 : decode cX6_ifJoined 62 = .ok (.aload_n 0, 1) := by decide +kernel
theorem dX6_ifJoined_63 : decode cX6_ifJoined 63 = .ok (.getfield 10, 3) := by decide +kernel
theorem dX6_ifJoined_66 : decode cX6_ifJoined 66 = .ok (.getfield 119, 3) := by decide +kernel
theorem dX6_ifJoined_69 : decode cX6_ifJoined 69 = .ok (.invokevirtual 207, 3) := by decide +kernel
theorem dX6_ifJoined_72 : decode cX6_ifJoined 72 = .ok (.ireturn, 1) := by decide +kernel
theorem dX6_value_0 : decode cX6_value 0 = .ok (.iload_n 1, 1) := by decide +kernel
theorem dX6_value_1 : decode cX6_value 1 = .ok (.aload_n 0, 1) := by decide +kernel
theorem dX6_value_2 : decode cX6_value 2 = .ok (.getfield 10, 3) := by decide +kernel
theorem dX6_value_5 : decode cX6_value 5 = .ok (.getfield 119, 3) := by decide +kernel
theorem dX6_value_8 : decode cX6_value 8 = .ok (.iconst (-1), 1) := by decide +kernel
theorem dX6_value_9 : decode cX6_value 9 = .ok (.ixor, 1) := by decide +kernel
theorem dX6_value_10 : decode cX6_value 10 = .ok (.iand, 1) := by decide +kernel
theorem dX6_value_11 : decode cX6_value 11 = .ok (.ifCond .eq 14, 3) := by decide +kernel
theorem dX6_value_14 : decode cX6_value 14 = .ok (.new 138, 3) := by decide +kernel
theorem dX6_value_17 : decode cX6_value 17 = .ok (.dup, 1) := by decide +kernel
theorem dX6_value_18 : decode cX6_value 18 = .ok (.ldc_w 262, 3) := by decide +kernel
theorem dX6_value_21 : decode cX6_value 21 = .ok (.invokespecial 142, 3) := by decide +kernel
theorem dX6_value_24 : decode cX6_value 24 = .ok (.athrow, 1) := by decide +kernel
theorem dX6_value_25 : decode cX6_value 25 = .ok (.aload_n 0, 1) := by decide +kernel
theorem dX6_value_26 : decode cX6_value 26 = .ok (.invokevirtual 200, 3) := by decide +kernel
theorem dX6_value_29 : decode cX6_value 29 = .ok (.iload_n 1, 1) := by decide +kernel
theorem dX6_value_30 : decode cX6_value 30 = .ok (.invokevirtual 207, 3) := by decide +kernel
theorem dX6_value_33 : decode cX6_value 33 = .ok (.ireturn, 1) := by decide +kernel
theorem dX6_requireNode_0 : decode cX6_requireNode 0 = .ok (.iload_n 1, 1) := by decide +kernel
theorem dX6_requireNode_1 : decode cX6_requireNode 1 = .ok (.ifCond .lt 14, 3) := by decide +kernel
theorem dX6_requireNode_4 : decode cX6_requireNode 4 = .ok (.iload_n 1, 1) := by decide +kernel
theorem dX6_requireNode_5 : decode cX6_requireNode 5 = .ok (.aload_n 0, 1) := by decide +kernel
theorem dX6_requireNode_6 : decode cX6_requireNode 6 = .ok (.getfield 10, 3) := by decide +kernel
theorem dX6_requireNode_9 : decode cX6_requireNode 9 = .ok (.getfield 66, 3) := by decide +kernel
theorem dX6_requireNode_12 : decode cX6_requireNode 12 = .ok (.if_icmp .lt 14, 3) := by decide +kernel
theorem dX6_requireNode_15 : decode cX6_requireNode 15 = .ok (.new 219, 3) := by decide +kernel
theorem dX6_requireNode_18 : decode cX6_requireNode 18 = .ok (.dup, 1) := by decide +kernel
theorem dX6_requireNode_19 : decode cX6_requireNode 19 = .ok (.ldc_w 302, 3) := by decide +kernel
theorem dX6_requireNode_22 : decode cX6_requireNode 22 = .ok (.invokespecial 223, 3) := by decide +kernel
theorem dX6_requireNode_25 : decode cX6_requireNode 25 = .ok (.athrow, 1) := by decide +kernel
theorem dX6_requireNode_26 : decode cX6_requireNode 26 = .ok (.return_, 1) := by decide +kernel
theorem dX6_requireThere_0 : decode cX6_requireThere 0 = .ok (.aload_n 0, 1) := by decide +kernel
theorem dX6_requireThere_1 : decode cX6_requireThere 1 = .ok (.getfield 10, 3) := by decide +kernel
theorem dX6_requireThere_4 : decode cX6_requireThere 4 = .ok (.iload_n 1, 1) := by decide +kernel
theorem dX6_requireThere_5 : decode cX6_requireThere 5 = .ok (.invokevirtual 190, 3) := by decide +kernel
theorem dX6_requireThere_8 : decode cX6_requireThere 8 = .ok (.ifCond .ne 14, 3) := by decide +kernel
theorem dX6_requireThere_11 : decode cX6_requireThere 11 = .ok (.new 70, 3) := by decide +kernel
theorem dX6_requireThere_14 : decode cX6_requireThere 14 = .ok (.dup, 1) := by decide +kernel
theorem dX6_requireThere_15 : decode cX6_requireThere 15 = .ok (.ldc_w 304, 3) := by decide +kernel
theorem dX6_requireThere_18 : decode cX6_requireThere 18 = .ok (.invokespecial 74, 3) := by decide +kernel
theorem dX6_requireThere_21 : decode cX6_requireThere 21 = .ok (.athrow, 1) := by decide +kernel
theorem dX6_requireThere_22 : decode cX6_requireThere 22 = .ok (.return_, 1) := by decide +kernel
theorem dX6_requireSlot_0 : decode cX6_requireSlot 0 = .ok (.iload_n 0, 1) := by decide +kernel
theorem dX6_requireSlot_1 : decode cX6_requireSlot 1 = .ok (.ifCond .lt 8, 3) := by decide +kernel
theorem dX6_requireSlot_4 : decode cX6_requireSlot 4 = .ok (.iload_n 0, 1) := by decide +kernel
theorem dX6_requireSlot_5 : decode cX6_requireSlot 5 = .ok (.iconst 2, 1) := by decide +kernel
theorem dX6_requireSlot_6 : decode cX6_requireSlot 6 = .ok (.if_icmp .lt 14, 3) := by decide +kernel
theorem dX6_requireSlot_9 : decode cX6_requireSlot 9 = .ok (.new 138, 3) := by decide +kernel
theorem dX6_requireSlot_12 : decode cX6_requireSlot 12 = .ok (.dup, 1) := by decide +kernel
theorem dX6_requireSlot_13 : decode cX6_requireSlot 13 = .ok (.ldc_w 306, 3) := by decide +kernel
theorem dX6_requireSlot_16 : decode cX6_requireSlot 16 = .ok (.invokespecial 142, 3) := by decide +kernel
theorem dX6_requireSlot_19 : decode cX6_requireSlot 19 = .ok (.athrow, 1) := by decide +kernel
theorem dX6_requireSlot_20 : decode cX6_requireSlot 20 = .ok (.return_, 1) := by decide +kernel
theorem dX6_requireBelow_0 : decode cX6_requireBelow 0 = .ok (.iload_n 0, 1) := by decide +kernel
theorem dX6_requireBelow_1 : decode cX6_requireBelow 1 = .ok (.ifCond .lt 8, 3) := by decide +kernel
theorem dX6_requireBelow_4 : decode cX6_requireBelow 4 = .ok (.iload_n 0, 1) := by decide +kernel
theorem dX6_requireBelow_5 : decode cX6_requireBelow 5 = .ok (.iload_n 1, 1) := by decide +kernel
theorem dX6_requireBelow_6 : decode cX6_requireBelow 6 = .ok (.if_icmp .lt 14, 3) := by decide +kernel
theorem dX6_requireBelow_9 : decode cX6_requireBelow 9 = .ok (.new 138, 3) := by decide +kernel
theorem dX6_requireBelow_12 : decode cX6_requireBelow 12 = .ok (.dup, 1) := by decide +kernel
theorem dX6_requireBelow_13 : decode cX6_requireBelow 13 = .ok (.ldc_w 308, 3) := by decide +kernel
theorem dX6_requireBelow_16 : decode cX6_requireBelow 16 = .ok (.invokespecial 142, 3) := by decide +kernel
theorem dX6_requireBelow_19 : decode cX6_requireBelow 19 = .ok (.athrow, 1) := by decide +kernel
theorem dX6_requireBelow_20 : decode cX6_requireBelow 20 = .ok (.return_, 1) := by decide +kernel
theorem dX6_outcomesNow_0 : decode cX6_outcomesNow 0 = .ok (.aload_n 0, 1) := by decide +kernel
theorem dX6_outcomesNow_1 : decode cX6_outcomesNow 1 = .ok (.getfield 48, 3) := by decide +kernel
theorem dX6_outcomesNow_4 : decode cX6_outcomesNow 4 = .ok (.aload_n 0, 1) := by decide +kernel
theorem dX6_outcomesNow_5 : decode cX6_outcomesNow 5 = .ok (.getfield 10, 3) := by decide +kernel
theorem dX6_outcomesNow_8 : decode cX6_outcomesNow 8 = .ok (.getfield 93, 3) := by decide +kernel
theorem dX6_outcomesNow_11 : decode cX6_outcomesNow 11 = .ok (.invokevirtual 259, 3) := by decide +kernel
theorem dX6_outcomesNow_14 : decode cX6_outcomesNow 14 = .ok (.aload_n 0, 1) := by decide +kernel
theorem dX6_outcomesNow_15 : decode cX6_outcomesNow 15 = .ok (.getfield 48, 3) := by decide +kernel
theorem dX6_outcomesNow_18 : decode cX6_outcomesNow 18 = .ok (.areturn, 1) := by decide +kernel
theorem dX6_isWinning_0 : decode cX6_isWinning 0 = .ok (.aload_n 0, 1) := by decide +kernel
theorem dX6_isWinning_1 : decode cX6_isWinning 1 = .ok (.getfield 10, 3) := by decide +kernel
theorem dX6_isWinning_4 : decode cX6_isWinning 4 = .ok (.iload_n 1, 1) := by decide +kernel
theorem dX6_isWinning_5 : decode cX6_isWinning 5 = .ok (.invokevirtual 190, 3) := by decide +kernel
theorem dX6_isWinning_8 : decode cX6_isWinning 8 = .ok (.ifCond .eq 25, 3) := by decide +kernel
theorem dX6_isWinning_11 : decode cX6_isWinning 11 = .ok (.aload_n 0, 1) := by decide +kernel
theorem dX6_isWinning_12 : decode cX6_isWinning 12 = .ok (.invokevirtual 200, 3) := by decide +kernel
theorem dX6_isWinning_15 : decode cX6_isWinning 15 = .ok (.aload_n 0, 1) := by decide +kernel
theorem dX6_isWinning_16 : decode cX6_isWinning 16 = .ok (.getfield 10, 3) := by decide +kernel
theorem dX6_isWinning_19 : decode cX6_isWinning 19 = .ok (.iload_n 1, 1) := by decide +kernel
theorem dX6_isWinning_20 : decode cX6_isWinning 20 = .ok (.invokevirtual 204, 3) := by decide +kernel
theorem dX6_isWinning_23 : decode cX6_isWinning 23 = .ok (.invokevirtual 207, 3) := by decide +kernel
theorem dX6_isWinning_26 : decode cX6_isWinning 26 = .ok (.ifCond .ne 7, 3) := by decide +kernel
theorem dX6_isWinning_29 : decode cX6_isWinning 29 = .ok (.iconst 1, 1) := by decide +kernel
theorem dX6_isWinning_30 : decode cX6_isWinning 30 = .ok (.goto 4, 3) := by decide +kernel
theorem dX6_isWinning_33 : decode cX6_isWinning 33 = .ok (.iconst 0, 1) := by decide +kernel
theorem dX6_isWinning_34 : decode cX6_isWinning 34 = .ok (.ireturn, 1) := by decide +kernel
theorem dX6_lowestWinning_0 : decode cX6_lowestWinning 0 = .ok (.iconst 0, 1) := by decide +kernel
theorem dX6_lowestWinning_1 : decode cX6_lowestWinning 1 = .ok (.istore_n 1, 1) := by decide +kernel
theorem dX6_lowestWinning_2 : decode cX6_lowestWinning 2 = .ok (.iload_n 1, 1) := by decide +kernel
theorem dX6_lowestWinning_3 : decode cX6_lowestWinning 3 = .ok (.aload_n 0, 1) := by decide +kernel
theorem dX6_lowestWinning_4 : decode cX6_lowestWinning 4 = .ok (.getfield 10, 3) := by decide +kernel
theorem dX6_lowestWinning_7 : decode cX6_lowestWinning 7 = .ok (.getfield 66, 3) := by decide +kernel
theorem dX6_lowestWinning_10 : decode cX6_lowestWinning 10 = .ok (.if_icmp .ge 19, 3) := by decide +kernel
theorem dX6_lowestWinning_13 : decode cX6_lowestWinning 13 = .ok (.aload_n 0, 1) := by decide +kernel
theorem dX6_lowestWinning_14 : decode cX6_lowestWinning 14 = .ok (.iload_n 1, 1) := by decide +kernel
theorem dX6_lowestWinning_15 : decode cX6_lowestWinning 15 = .ok (.invokevirtual 210, 3) := by decide +kernel
theorem dX6_lowestWinning_18 : decode cX6_lowestWinning 18 = .ok (.ifCond .eq 5, 3) := by decide +kernel
theorem dX6_lowestWinning_21 : decode cX6_lowestWinning 21 = .ok (.iload_n 1, 1) := by decide +kernel
theorem dX6_lowestWinning_22 : decode cX6_lowestWinning 22 = .ok (.ireturn, 1) := by decide +kernel
theorem dX6_lowestWinning_23 : decode cX6_lowestWinning 23 = .ok (.iinc 1 1, 3) := by decide +kernel
theorem dX6_lowestWinning_26 : decode cX6_lowestWinning 26 = .ok (.goto (-24), 3) := by decide +kernel
theorem dX6_lowestWinning_29 : decode cX6_lowestWinning 29 = .ok (.iconst (-1), 1) := by decide +kernel
theorem dX6_lowestWinning_30 : decode cX6_lowestWinning 30 = .ok (.ireturn, 1) := by decide +kernel
theorem dX6_winningCount_0 : decode cX6_winningCount 0 = .ok (.iconst 0, 1) := by decide +kernel
theorem dX6_winningCount_1 : decode cX6_winningCount 1 = .ok (.istore_n 1, 1) := by decide +kernel
theorem dX6_winningCount_2 : decode cX6_winningCount 2 = .ok (.iconst 0, 1) := by decide +kernel
theorem dX6_winningCount_3 : decode cX6_winningCount 3 = .ok (.istore_n 2, 1) := by decide +kernel
theorem dX6_winningCount_4 : decode cX6_winningCount 4 = .ok (.iload_n 2, 1) := by decide +kernel
theorem dX6_winningCount_5 : decode cX6_winningCount 5 = .ok (.aload_n 0, 1) := by decide +kernel
theorem dX6_winningCount_6 : decode cX6_winningCount 6 = .ok (.getfield 10, 3) := by decide +kernel
theorem dX6_winningCount_9 : decode cX6_winningCount 9 = .ok (.getfield 66, 3) := by decide +kernel
theorem dX6_winningCount_12 : decode cX6_winningCount 12 = .ok (.if_icmp .ge 20, 3) := by decide +kernel
theorem dX6_winningCount_15 : decode cX6_winningCount 15 = .ok (.aload_n 0, 1) := by decide +kernel
theorem dX6_winningCount_16 : decode cX6_winningCount 16 = .ok (.iload_n 2, 1) := by decide +kernel
theorem dX6_winningCount_17 : decode cX6_winningCount 17 = .ok (.invokevirtual 210, 3) := by decide +kernel
theorem dX6_winningCount_20 : decode cX6_winningCount 20 = .ok (.ifCond .eq 6, 3) := by decide +kernel
theorem dX6_winningCount_23 : decode cX6_winningCount 23 = .ok (.iinc 1 1, 3) := by decide +kernel
theorem dX6_winningCount_26 : decode cX6_winningCount 26 = .ok (.iinc 2 1, 3) := by decide +kernel
theorem dX6_winningCount_29 : decode cX6_winningCount 29 = .ok (.goto (-25), 3) := by decide +kernel
theorem dX6_winningCount_32 : decode cX6_winningCount 32 = .ok (.iload_n 1, 1) := by decide +kernel
theorem dX6_winningCount_33 : decode cX6_winningCount 33 = .ok (.ireturn, 1) := by decide +kernel
theorem dX6_sumOfTrees_0 : decode cX6_sumOfTrees 0 = .ok (.iconst 0, 1) := by decide +kernel
theorem dX6_sumOfTrees_1 : decode cX6_sumOfTrees 1 = .ok (.istore_n 1, 1) := by decide +kernel
theorem dX6_sumOfTrees_2 : decode cX6_sumOfTrees 2 = .ok (.aload_n 0, 1) := by decide +kernel
theorem dX6_sumOfTrees_3 : decode cX6_sumOfTrees 3 = .ok (.getfield 10, 3) := by decide +kernel
theorem dX6_sumOfTrees_6 : decode cX6_sumOfTrees 6 = .ok (.invokevirtual 100, 3) := by decide +kernel
theorem dX6_sumOfTrees_9 : decode cX6_sumOfTrees 9 = .ok (.istore_n 2, 1) := by decide +kernel
theorem dX6_sumOfTrees_10 : decode cX6_sumOfTrees 10 = .ok (.iconst 0, 1) := by decide +kernel
theorem dX6_sumOfTrees_11 : decode cX6_sumOfTrees 11 = .ok (.istore_n 3, 1) := by decide +kernel
theorem dX6_sumOfTrees_12 : decode cX6_sumOfTrees 12 = .ok (.iload_n 3, 1) := by decide +kernel
theorem dX6_sumOfTrees_13 : decode cX6_sumOfTrees 13 = .ok (.iload_n 2, 1) := by decide +kernel
theorem dX6_sumOfTrees_14 : decode cX6_sumOfTrees 14 = .ok (.if_icmp .ge 27, 3) := by decide +kernel
theorem dX6_sumOfTrees_17 : decode cX6_sumOfTrees 17 = .ok (.iload_n 1, 1) := by decide +kernel
theorem dX6_sumOfTrees_18 : decode cX6_sumOfTrees 18 = .ok (.aload_n 0, 1) := by decide +kernel
theorem dX6_sumOfTrees_19 : decode cX6_sumOfTrees 19 = .ok (.invokevirtual 200, 3) := by decide +kernel
theorem dX6_sumOfTrees_22 : decode cX6_sumOfTrees 22 = .ok (.aload_n 0, 1) := by decide +kernel
theorem dX6_sumOfTrees_23 : decode cX6_sumOfTrees 23 = .ok (.getfield 10, 3) := by decide +kernel
theorem dX6_sumOfTrees_26 : decode cX6_sumOfTrees 26 = .ok (.iload_n 3, 1) := by decide +kernel
theorem dX6_sumOfTrees_27 : decode cX6_sumOfTrees 27 = .ok (.invokevirtual 216, 3) := by decide +kernel
theorem dX6_sumOfTrees_30 : decode cX6_sumOfTrees 30 = .ok (.invokevirtual 207, 3) := by decide +kernel
theorem dX6_sumOfTrees_33 : decode cX6_sumOfTrees 33 = .ok (.ixor, 1) := by decide +kernel
theorem dX6_sumOfTrees_34 : decode cX6_sumOfTrees 34 = .ok (.istore_n 1, 1) := by decide +kernel
theorem dX6_sumOfTrees_35 : decode cX6_sumOfTrees 35 = .ok (.iinc 3 1, 3) := by decide +kernel
theorem dX6_sumOfTrees_38 : decode cX6_sumOfTrees 38 = .ok (.goto (-26), 3) := by decide +kernel
theorem dX6_sumOfTrees_41 : decode cX6_sumOfTrees 41 = .ok (.iload_n 1, 1) := by decide +kernel
theorem dX6_sumOfTrees_42 : decode cX6_sumOfTrees 42 = .ok (.ireturn, 1) := by decide +kernel
theorem dX6_lowestAlike_0 : decode cX6_lowestAlike 0 = .ok (.aload_n 0, 1) := by decide +kernel
theorem dX6_lowestAlike_1 : decode cX6_lowestAlike 1 = .ok (.getfield 41, 3) := by decide +kernel
theorem dX6_lowestAlike_4 : decode cX6_lowestAlike 4 = .ok (.aload_n 0, 1) := by decide +kernel
theorem dX6_lowestAlike_5 : decode cX6_lowestAlike 5 = .ok (.getfield 10, 3) := by decide +kernel
theorem dX6_lowestAlike_8 : decode cX6_lowestAlike 8 = .ok (.getfield 93, 3) := by decide +kernel
theorem dX6_lowestAlike_11 : decode cX6_lowestAlike 11 = .ok (.aload_n 0, 1) := by decide +kernel
theorem dX6_lowestAlike_12 : decode cX6_lowestAlike 12 = .ok (.getfield 10, 3) := by decide +kernel
theorem dX6_lowestAlike_15 : decode cX6_lowestAlike 15 = .ok (.iload_n 1, 1) := by decide +kernel
theorem dX6_lowestAlike_16 : decode cX6_lowestAlike 16 = .ok (.invokevirtual 216, 3) := by decide +kernel
theorem dX6_lowestAlike_19 : decode cX6_lowestAlike 19 = .ok (.invokevirtual 310, 3) := by decide +kernel
theorem dX6_lowestAlike_22 : decode cX6_lowestAlike 22 = .ok (.istore_n 2, 1) := by decide +kernel
theorem dX6_lowestAlike_23 : decode cX6_lowestAlike 23 = .ok (.iconst 0, 1) := by decide +kernel
theorem dX6_lowestAlike_24 : decode cX6_lowestAlike 24 = .ok (.istore_n 3, 1) := by decide +kernel
theorem dX6_lowestAlike_25 : decode cX6_lowestAlike 25 = .ok (.iload_n 3, 1) := by decide +kernel
theorem dX6_lowestAlike_26 : decode cX6_lowestAlike 26 = .ok (.iload_n 1, 1) := by decide +kernel
theorem dX6_lowestAlike_27 : decode cX6_lowestAlike 27 = .ok (.if_icmp .ge 37, 3) := by decide +kernel
theorem dX6_lowestAlike_30 : decode cX6_lowestAlike 30 = .ok (.aload_n 0, 1) := by decide +kernel
theorem dX6_lowestAlike_31 : decode cX6_lowestAlike 31 = .ok (.getfield 41, 3) := by decide +kernel
theorem dX6_lowestAlike_34 : decode cX6_lowestAlike 34 = .ok (.aload_n 0, 1) := by decide +kernel
theorem dX6_lowestAlike_35 : decode cX6_lowestAlike 35 = .ok (.getfield 10, 3) := by decide +kernel
theorem dX6_lowestAlike_38 : decode cX6_lowestAlike 38 = .ok (.getfield 93, 3) := by decide +kernel
theorem dX6_lowestAlike_41 : decode cX6_lowestAlike 41 = .ok (.aload_n 0, 1) := by decide +kernel
theorem dX6_lowestAlike_42 : decode cX6_lowestAlike 42 = .ok (.getfield 10, 3) := by decide +kernel
theorem dX6_lowestAlike_45 : decode cX6_lowestAlike 45 = .ok (.iload_n 3, 1) := by decide +kernel
theorem dX6_lowestAlike_46 : decode cX6_lowestAlike 46 = .ok (.invokevirtual 216, 3) := by decide +kernel
theorem dX6_lowestAlike_49 : decode cX6_lowestAlike 49 = .ok (.invokevirtual 310, 3) := by decide +kernel
theorem dX6_lowestAlike_52 : decode cX6_lowestAlike 52 = .ok (.iload_n 2, 1) := by decide +kernel
theorem dX6_lowestAlike_53 : decode cX6_lowestAlike 53 = .ok (.if_icmp .ne 5, 3) := by decide +kernel
theorem dX6_lowestAlike_56 : decode cX6_lowestAlike 56 = .ok (.iload_n 3, 1) := by decide +kernel
theorem dX6_lowestAlike_57 : decode cX6_lowestAlike 57 = .ok (.ireturn, 1) := by decide +kernel
theorem dX6_lowestAlike_58 : decode cX6_lowestAlike 58 = .ok (.iinc 3 1, 3) := by decide +kernel
theorem dX6_lowestAlike_61 : decode cX6_lowestAlike 61 = .ok (.goto (-36), 3) := by decide +kernel
theorem dX6_lowestAlike_64 : decode cX6_lowestAlike 64 = .ok (.iload_n 1, 1) := by decide +kernel
theorem dX6_lowestAlike_65 : decode cX6_lowestAlike 65 = .ok (.ireturn, 1) := by decide +kernel
theorem dX6_classCount_0 : decode cX6_classCount 0 = .ok (.iconst 0, 1) := by decide +kernel
theorem dX6_classCount_1 : decode cX6_classCount 1 = .ok (.istore_n 1, 1) := by decide +kernel
theorem dX6_classCount_2 : decode cX6_classCount 2 = .ok (.aload_n 0, 1) := by decide +kernel
theorem dX6_classCount_3 : decode cX6_classCount 3 = .ok (.getfield 10, 3) := by decide +kernel
theorem dX6_classCount_6 : decode cX6_classCount 6 = .ok (.invokevirtual 100, 3) := by decide +kernel
theorem dX6_classCount_9 : decode cX6_classCount 9 = .ok (.istore_n 2, 1) := by decide +kernel
theorem dX6_classCount_10 : decode cX6_classCount 10 = .ok (.iconst 0, 1) := by decide +kernel
theorem dX6_classCount_11 : decode cX6_classCount 11 = .ok (.istore_n 3, 1) := by decide +kernel
theorem dX6_classCount_12 : decode cX6_classCount 12 = .ok (.iload_n 3, 1) := by decide +kernel
theorem dX6_classCount_13 : decode cX6_classCount 13 = .ok (.iload_n 2, 1) := by decide +kernel
theorem dX6_classCount_14 : decode cX6_classCount 14 = .ok (.if_icmp .ge 21, 3) := by decide +kernel
theorem dX6_classCount_17 : decode cX6_classCount 17 = .ok (.aload_n 0, 1) := by decide +kernel
theorem dX6_classCount_18 : decode cX6_classCount 18 = .ok (.iload_n 3, 1) := by decide +kernel
theorem dX6_classCount_19 : decode cX6_classCount 19 = .ok (.invokevirtual 224, 3) := by decide +kernel
theorem dX6_classCount_22 : decode cX6_classCount 22 = .ok (.iload_n 3, 1) := by decide +kernel
theorem dX6_classCount_23 : decode cX6_classCount 23 = .ok (.if_icmp .ne 6, 3) := by decide +kernel
theorem dX6_classCount_26 : decode cX6_classCount 26 = .ok (.iinc 1 1, 3) := by decide +kernel
theorem dX6_classCount_29 : decode cX6_classCount 29 = .ok (.iinc 3 1, 3) := by decide +kernel
theorem dX6_classCount_32 : decode cX6_classCount 32 = .ok (.goto (-20), 3) := by decide +kernel
theorem dX6_classCount_35 : decode cX6_classCount 35 = .ok (.iload_n 1, 1) := by decide +kernel
theorem dX6_classCount_36 : decode cX6_classCount 36 = .ok (.ireturn, 1) := by decide +kernel
theorem dX6_isMirror_0 : decode cX6_isMirror 0 = .ok (.aload_n 0, 1) := by decide +kernel
theorem dX6_isMirror_1 : decode cX6_isMirror 1 = .ok (.getfield 10, 3) := by decide +kernel
theorem dX6_isMirror_4 : decode cX6_isMirror 4 = .ok (.iload_n 1, 1) := by decide +kernel
theorem dX6_isMirror_5 : decode cX6_isMirror 5 = .ok (.iload_n 2, 1) := by decide +kernel
theorem dX6_isMirror_6 : decode cX6_isMirror 6 = .ok (.invokevirtual 104, 3) := by decide +kernel
theorem dX6_isMirror_9 : decode cX6_isMirror 9 = .ok (.ifCond .ne 5, 3) := by decide +kernel
theorem dX6_isMirror_12 : decode cX6_isMirror 12 = .ok (.iconst 0, 1) := by decide +kernel
theorem dX6_isMirror_13 : decode cX6_isMirror 13 = .ok (.ireturn, 1) := by decide +kernel
theorem dX6_isMirror_14 : decode cX6_isMirror 14 = .ok (.aload_n 0, 1) := by decide +kernel
theorem dX6_isMirror_15 : decode cX6_isMirror 15 = .ok (.getfield 10, 3) := by decide +kernel
theorem dX6_isMirror_18 : decode cX6_isMirror 18 = .ok (.getfield 93, 3) := by decide +kernel
theorem dX6_isMirror_21 : decode cX6_isMirror 21 = .ok (.iload_n 1, 1) := by decide +kernel
theorem dX6_isMirror_22 : decode cX6_isMirror 22 = .ok (.aload_n 0, 1) := by decide +kernel
theorem dX6_isMirror_23 : decode cX6_isMirror 23 = .ok (.getfield 10, 3) := by decide +kernel
theorem dX6_isMirror_26 : decode cX6_isMirror 26 = .ok (.getfield 119, 3) := by decide +kernel
theorem dX6_isMirror_29 : decode cX6_isMirror 29 = .ok (.iload_n 2, 1) := by decide +kernel
theorem dX6_isMirror_30 : decode cX6_isMirror 30 = .ok (.invokestatic 314, 3) := by decide +kernel
theorem dX6_isMirror_33 : decode cX6_isMirror 33 = .ok (.iconst (-1), 1) := by decide +kernel
theorem dX6_isMirror_34 : decode cX6_isMirror 34 = .ok (.ixor, 1) := by decide +kernel
theorem dX6_isMirror_35 : decode cX6_isMirror 35 = .ok (.iand, 1) := by decide +kernel
theorem dX6_isMirror_36 : decode cX6_isMirror 36 = .ok (.invokevirtual 317, 3) := by decide +kernel
theorem dX6_isMirror_39 : decode cX6_isMirror 39 = .ok (.istore_n 3, 1) := by decide +kernel
theorem dX6_isMirror_40 : decode cX6_isMirror 40 = .ok (.aload_n 0, 1) := by decide +kernel
theorem dX6_isMirror_41 : decode cX6_isMirror 41 = .ok (.getfield 10, 3) := by decide +kernel
theorem dX6_isMirror_44 : decode cX6_isMirror 44 = .ok (.getfield 93, 3) := by decide +kernel
theorem dX6_isMirror_47 : decode cX6_isMirror 47 = .ok (.iload_n 2, 1) := by decide +kernel
theorem dX6_isMirror_48 : decode cX6_isMirror 48 = .ok (.aload_n 0, 1) := by decide +kernel
theorem dX6_isMirror_49 : decode cX6_isMirror 49 = .ok (.getfield 10, 3) := by decide +kernel
theorem dX6_isMirror_52 : decode cX6_isMirror 52 = .ok (.getfield 119, 3) := by decide +kernel
theorem dX6_isMirror_55 : decode cX6_isMirror 55 = .ok (.iload_n 1, 1) := by decide +kernel
theorem dX6_isMirror_56 : decode cX6_isMirror 56 = .ok (.invokestatic 314, 3) := by decide +kernel
theorem dX6_isMirror_59 : decode cX6_isMirror 59 = .ok (.iconst (-1), 1) := by decide +kernel
theorem dX6_isMirror_60 : decode cX6_isMirror 60 = .ok (.ixor, 1) := by decide +kernel
theorem dX6_isMirror_61 : decode cX6_isMirror 61 = .ok (.iand, 1) := by decide +kernel
theorem dX6_isMirror_62 : decode cX6_isMirror 62 = .ok (.invokevirtual 317, 3) := by decide +kernel
theorem dX6_isMirror_65 : decode cX6_isMirror 65 = .ok (.istore 4, 2) := by decide +kernel
theorem dX6_isMirror_67 : decode cX6_isMirror 67 = .ok (.iload_n 3, 1) := by decide +kernel
theorem dX6_isMirror_68 : decode cX6_isMirror 68 = .ok (.invokestatic 132, 3) := by decide +kernel
theorem dX6_isMirror_71 : decode cX6_isMirror 71 = .ok (.iload 4, 2) := by decide +kernel
theorem dX6_isMirror_73 : decode cX6_isMirror 73 = .ok (.invokestatic 132, 3) := by decide +kernel
theorem dX6_isMirror_76 : decode cX6_isMirror 76 = .ok (.if_icmp .ne 41, 3) := by decide +kernel
theorem dX6_isMirror_79 : decode cX6_isMirror 79 = .ok (.aload_n 0, 1) := by decide +kernel
theorem dX6_isMirror_80 : decode cX6_isMirror 80 = .ok (.getfield 41, 3) := by decide +kernel
theorem dX6_isMirror_83 : decode cX6_isMirror 83 = .ok (.aload_n 0, 1) := by decide +kernel
theorem dX6_isMirror_84 : decode cX6_isMirror 84 = .ok (.getfield 10, 3) := by decide +kernel
theorem dX6_isMirror_87 : decode cX6_isMirror 87 = .ok (.getfield 93, 3) := by decide +kernel
theorem dX6_isMirror_90 : decode cX6_isMirror 90 = .ok (.iload_n 3, 1) := by decide +kernel
theorem dX6_isMirror_91 : decode cX6_isMirror 91 = .ok (.invokevirtual 310, 3) := by decide +kernel
theorem dX6_isMirror_94 : decode cX6_isMirror 94 = .ok (.aload_n 0, 1) := by decide +kernel
theorem dX6_isMirror_95 : decode cX6_isMirror 95 = .ok (.getfield 41, 3) := by decide +kernel
theorem dX6_isMirror_98 : decode cX6_isMirror 98 = .ok (.aload_n 0, 1) := by decide +kernel
theorem dX6_isMirror_99 : decode cX6_isMirror 99 = .ok (.getfield 10, 3) := by decide +kernel
theorem dX6_isMirror_102 : decode cX6_isMirror 102 = .ok (.getfield 93, 3) := by decide +kernel
theorem dX6_isMirror_105 : decode cX6_isMirror 105 = .ok (.iload 4, 2) := by decide +kernel
theorem dX6_isMirror_107 : decode cX6_isMirror 107 = .ok (.invokevirtual 310, 3) := by decide +kernel
theorem dX6_isMirror_110 : decode cX6_isMirror 110 = .ok (.if_icmp .ne 7, 3) := by decide +kernel
theorem dX6_isMirror_113 : decode cX6_isMirror 113 = .ok (.iconst 1, 1) := by decide +kernel
theorem dX6_isMirror_114 : decode cX6_isMirror 114 = .ok (.goto 4, 3) := by decide +kernel
theorem dX6_isMirror_117 : decode cX6_isMirror 117 = .ok (.iconst 0, 1) := by decide +kernel
theorem dX6_isMirror_118 : decode cX6_isMirror 118 = .ok (.ireturn, 1) := by decide +kernel
theorem dX6_mirrorsIn_0 : decode cX6_mirrorsIn 0 = .ok (.iconst 0, 1) := by decide +kernel
theorem dX6_mirrorsIn_1 : decode cX6_mirrorsIn 1 = .ok (.istore_n 2, 1) := by decide +kernel
theorem dX6_mirrorsIn_2 : decode cX6_mirrorsIn 2 = .ok (.iconst 0, 1) := by decide +kernel
theorem dX6_mirrorsIn_3 : decode cX6_mirrorsIn 3 = .ok (.istore_n 3, 1) := by decide +kernel
theorem dX6_mirrorsIn_4 : decode cX6_mirrorsIn 4 = .ok (.iload_n 3, 1) := by decide +kernel
theorem dX6_mirrorsIn_5 : decode cX6_mirrorsIn 5 = .ok (.bipush 14, 2) := by decide +kernel
theorem dX6_mirrorsIn_7 : decode cX6_mirrorsIn 7 = .ok (.if_icmp .ge 48, 3) := by decide +kernel
theorem dX6_mirrorsIn_10 : decode cX6_mirrorsIn 10 = .ok (.iload_n 3, 1) := by decide +kernel
theorem dX6_mirrorsIn_11 : decode cX6_mirrorsIn 11 = .ok (.iconst 1, 1) := by decide +kernel
theorem dX6_mirrorsIn_12 : decode cX6_mirrorsIn 12 = .ok (.iadd, 1) := by decide +kernel
theorem dX6_mirrorsIn_13 : decode cX6_mirrorsIn 13 = .ok (.istore 4, 2) := by decide +kernel
theorem dX6_mirrorsIn_15 : decode cX6_mirrorsIn 15 = .ok (.iload 4, 2) := by decide +kernel
theorem dX6_mirrorsIn_17 : decode cX6_mirrorsIn 17 = .ok (.bipush 14, 2) := by decide +kernel
theorem dX6_mirrorsIn_19 : decode cX6_mirrorsIn 19 = .ok (.if_icmp .ge 30, 3) := by decide +kernel
theorem dX6_mirrorsIn_22 : decode cX6_mirrorsIn 22 = .ok (.iload_n 1, 1) := by decide +kernel
theorem dX6_mirrorsIn_23 : decode cX6_mirrorsIn 23 = .ok (.iload_n 3, 1) := by decide +kernel
theorem dX6_mirrorsIn_24 : decode cX6_mirrorsIn 24 = .ok (.invokestatic 320, 3) := by decide +kernel
theorem dX6_mirrorsIn_27 : decode cX6_mirrorsIn 27 = .ok (.ifCond .eq 16, 3) := by decide +kernel
theorem dX6_mirrorsIn_30 : decode cX6_mirrorsIn 30 = .ok (.aload_n 0, 1) := by decide +kernel
theorem dX6_mirrorsIn_31 : decode cX6_mirrorsIn 31 = .ok (.iload_n 3, 1) := by decide +kernel
theorem dX6_mirrorsIn_32 : decode cX6_mirrorsIn 32 = .ok (.iload 4, 2) := by decide +kernel
theorem dX6_mirrorsIn_34 : decode cX6_mirrorsIn 34 = .ok (.invokevirtual 109, 3) := by decide +kernel
theorem dX6_mirrorsIn_37 : decode cX6_mirrorsIn 37 = .ok (.ifCond .eq 6, 3) := by decide +kernel
theorem dX6_mirrorsIn_40 : decode cX6_mirrorsIn 40 = .ok (.iinc 2 1, 3) := by decide +kernel
theorem dX6_mirrorsIn_43 : decode cX6_mirrorsIn 43 = .ok (.iinc 4 1, 3) := by decide +kernel
theorem dX6_mirrorsIn_46 : decode cX6_mirrorsIn 46 = .ok (.goto (-31), 3) := by decide +kernel
theorem dX6_mirrorsIn_49 : decode cX6_mirrorsIn 49 = .ok (.iinc 3 1, 3) := by decide +kernel
theorem dX6_mirrorsIn_52 : decode cX6_mirrorsIn 52 = .ok (.goto (-48), 3) := by decide +kernel
theorem dX6_mirrorsIn_55 : decode cX6_mirrorsIn 55 = .ok (.iload_n 2, 1) := by decide +kernel
theorem dX6_mirrorsIn_56 : decode cX6_mirrorsIn 56 = .ok (.ireturn, 1) := by decide +kernel
theorem dX6_bit_0 : decode cX6_bit 0 = .ok (.iload_n 0, 1) := by decide +kernel
theorem dX6_bit_1 : decode cX6_bit 1 = .ok (.ifCond .lt 15, 3) := by decide +kernel
theorem dX6_bit_4 : decode cX6_bit 4 = .ok (.iload_n 0, 1) := by decide +kernel
theorem dX6_bit_5 : decode cX6_bit 5 = .ok (.bipush 14, 2) := by decide +kernel
theorem dX6_bit_7 : decode cX6_bit 7 = .ok (.if_icmp .ge 9, 3) := by decide +kernel
theorem dX6_bit_10 : decode cX6_bit 10 = .ok (.iconst 1, 1) := by decide +kernel
theorem dX6_bit_11 : decode cX6_bit 11 = .ok (.iload_n 0, 1) := by decide +kernel
theorem dX6_bit_12 : decode cX6_bit 12 = .ok (.ishl, 1) := by decide +kernel
theorem dX6_bit_13 : decode cX6_bit 13 = .ok (.goto 4, 3) := by decide +kernel
theorem dX6_bit_16 : decode cX6_bit 16 = .ok (.iconst 0, 1) := by decide +kernel
theorem dX6_bit_17 : decode cX6_bit 17 = .ok (.ireturn, 1) := by decide +kernel
theorem dX6_has_0 : decode cX6_has 0 = .ok (.iload_n 1, 1) := by decide +kernel
theorem dX6_has_1 : decode cX6_has 1 = .ok (.ifCond .lt 22, 3) := by decide +kernel
theorem dX6_has_4 : decode cX6_has 4 = .ok (.iload_n 1, 1) := by decide +kernel
theorem dX6_has_5 : decode cX6_has 5 = .ok (.bipush 14, 2) := by decide +kernel
theorem dX6_has_7 : decode cX6_has 7 = .ok (.if_icmp .ge 16, 3) := by decide +kernel
theorem dX6_has_10 : decode cX6_has 10 = .ok (.iload_n 0, 1) := by decide +kernel
theorem dX6_has_11 : decode cX6_has 11 = .ok (.iload_n 1, 1) := by decide +kernel
theorem dX6_has_12 : decode cX6_has 12 = .ok (.ishr, 1) := by decide +kernel
theorem dX6_has_13 : decode cX6_has 13 = .ok (.iconst 1, 1) := by decide +kernel
theorem dX6_has_14 : decode cX6_has 14 = .ok (.iand, 1) := by decide +kernel
theorem dX6_has_15 : decode cX6_has 15 = .ok (.iconst 1, 1) := by decide +kernel
theorem dX6_has_16 : decode cX6_has 16 = .ok (.if_icmp .ne 7, 3) := by decide +kernel
theorem dX6_has_19 : decode cX6_has 19 = .ok (.iconst 1, 1) := by decide +kernel
theorem dX6_has_20 : decode cX6_has 20 = .ok (.goto 4, 3) := by decide +kernel
theorem dX6_has_23 : decode cX6_has 23 = .ok (.iconst 0, 1) := by decide +kernel
theorem dX6_has_24 : decode cX6_has 24 = .ok (.ireturn, 1) := by decide +kernel
theorem dJ6_numberOfLeadingZeros_0f7a4_0 : decode cJ6_numberOfLeadingZeros_0f7a4 0 = .ok (.iload_n 0, 1) := by decide +kernel
theorem dJ6_numberOfLeadingZeros_0f7a4_1 : decode cJ6_numberOfLeadingZeros_0f7a4 1 = .ok (.ifCond .gt 14, 3) := by decide +kernel
theorem dJ6_numberOfLeadingZeros_0f7a4_4 : decode cJ6_numberOfLeadingZeros_0f7a4 4 = .ok (.iload_n 0, 1) := by decide +kernel
theorem dJ6_numberOfLeadingZeros_0f7a4_5 : decode cJ6_numberOfLeadingZeros_0f7a4 5 = .ok (.ifCond .ne 8, 3) := by decide +kernel
theorem dJ6_numberOfLeadingZeros_0f7a4_8 : decode cJ6_numberOfLeadingZeros_0f7a4 8 = .ok (.bipush 32, 2) := by decide +kernel
theorem dJ6_numberOfLeadingZeros_0f7a4_10 : decode cJ6_numberOfLeadingZeros_0f7a4 10 = .ok (.goto 4, 3) := by decide +kernel
theorem dJ6_numberOfLeadingZeros_0f7a4_13 : decode cJ6_numberOfLeadingZeros_0f7a4 13 = .ok (.iconst 0, 1) := by decide +kernel
theorem dJ6_numberOfLeadingZeros_0f7a4_14 : decode cJ6_numberOfLeadingZeros_0f7a4 14 = .ok (.ireturn, 1) := by decide +kernel
theorem dJ6_numberOfLeadingZeros_0f7a4_15 : decode cJ6_numberOfLeadingZeros_0f7a4 15 = .ok (.bipush 31, 2) := by decide +kernel
theorem dJ6_numberOfLeadingZeros_0f7a4_17 : decode cJ6_numberOfLeadingZeros_0f7a4 17 = .ok (.istore_n 1, 1) := by decide +kernel
theorem dJ6_numberOfLeadingZeros_0f7a4_18 : decode cJ6_numberOfLeadingZeros_0f7a4 18 = .ok (.iload_n 0, 1) := by decide +kernel
theorem dJ6_numberOfLeadingZeros_0f7a4_19 : decode cJ6_numberOfLeadingZeros_0f7a4 19 = .ok (.ldc_w 264, 3) := by decide +kernel
theorem dJ6_numberOfLeadingZeros_0f7a4_22 : decode cJ6_numberOfLeadingZeros_0f7a4 22 = .ok (.if_icmp .lt 11, 3) := by decide +kernel
theorem dJ6_numberOfLeadingZeros_0f7a4_25 : decode cJ6_numberOfLeadingZeros_0f7a4 25 = .ok (.iinc 1 (-16), 3) := by decide +kernel
theorem dJ6_numberOfLeadingZeros_0f7a4_28 : decode cJ6_numberOfLeadingZeros_0f7a4 28 = .ok (.iload_n 0, 1) := by decide +kernel
theorem dJ6_numberOfLeadingZeros_0f7a4_29 : decode cJ6_numberOfLeadingZeros_0f7a4 29 = .ok (.bipush 16, 2) := by decide +kernel
theorem dJ6_numberOfLeadingZeros_0f7a4_31 : decode cJ6_numberOfLeadingZeros_0f7a4 31 = .ok (.iushr, 1) := by decide +kernel
theorem dJ6_numberOfLeadingZeros_0f7a4_32 : decode cJ6_numberOfLeadingZeros_0f7a4 32 = .ok (.istore_n 0, 1) := by decide +kernel
theorem dJ6_numberOfLeadingZeros_0f7a4_33 : decode cJ6_numberOfLeadingZeros_0f7a4 33 = .ok (.iload_n 0, 1) := by decide +kernel
theorem dJ6_numberOfLeadingZeros_0f7a4_34 : decode cJ6_numberOfLeadingZeros_0f7a4 34 = .ok (.sipush 256, 3) := by decide +kernel
theorem dJ6_numberOfLeadingZeros_0f7a4_37 : decode cJ6_numberOfLeadingZeros_0f7a4 37 = .ok (.if_icmp .lt 11, 3) := by decide +kernel
theorem dJ6_numberOfLeadingZeros_0f7a4_40 : decode cJ6_numberOfLeadingZeros_0f7a4 40 = .ok (.iinc 1 (-8), 3) := by decide +kernel
theorem dJ6_numberOfLeadingZeros_0f7a4_43 : decode cJ6_numberOfLeadingZeros_0f7a4 43 = .ok (.iload_n 0, 1) := by decide +kernel
theorem dJ6_numberOfLeadingZeros_0f7a4_44 : decode cJ6_numberOfLeadingZeros_0f7a4 44 = .ok (.bipush 8, 2) := by decide +kernel
theorem dJ6_numberOfLeadingZeros_0f7a4_46 : decode cJ6_numberOfLeadingZeros_0f7a4 46 = .ok (.iushr, 1) := by decide +kernel
theorem dJ6_numberOfLeadingZeros_0f7a4_47 : decode cJ6_numberOfLeadingZeros_0f7a4 47 = .ok (.istore_n 0, 1) := by decide +kernel
theorem dJ6_numberOfLeadingZeros_0f7a4_48 : decode cJ6_numberOfLeadingZeros_0f7a4 48 = .ok (.iload_n 0, 1) := by decide +kernel
theorem dJ6_numberOfLeadingZeros_0f7a4_49 : decode cJ6_numberOfLeadingZeros_0f7a4 49 = .ok (.bipush 16, 2) := by decide +kernel
theorem dJ6_numberOfLeadingZeros_0f7a4_51 : decode cJ6_numberOfLeadingZeros_0f7a4 51 = .ok (.if_icmp .lt 10, 3) := by decide +kernel
theorem dJ6_numberOfLeadingZeros_0f7a4_54 : decode cJ6_numberOfLeadingZeros_0f7a4 54 = .ok (.iinc 1 (-4), 3) := by decide +kernel
theorem dJ6_numberOfLeadingZeros_0f7a4_57 : decode cJ6_numberOfLeadingZeros_0f7a4 57 = .ok (.iload_n 0, 1) := by decide +kernel
theorem dJ6_numberOfLeadingZeros_0f7a4_58 : decode cJ6_numberOfLeadingZeros_0f7a4 58 = .ok (.iconst 4, 1) := by decide +kernel
theorem dJ6_numberOfLeadingZeros_0f7a4_59 : decode cJ6_numberOfLeadingZeros_0f7a4 59 = .ok (.iushr, 1) := by decide +kernel
theorem dJ6_numberOfLeadingZeros_0f7a4_60 : decode cJ6_numberOfLeadingZeros_0f7a4 60 = .ok (.istore_n 0, 1) := by decide +kernel
theorem dJ6_numberOfLeadingZeros_0f7a4_61 : decode cJ6_numberOfLeadingZeros_0f7a4 61 = .ok (.iload_n 0, 1) := by decide +kernel
theorem dJ6_numberOfLeadingZeros_0f7a4_62 : decode cJ6_numberOfLeadingZeros_0f7a4 62 = .ok (.iconst 4, 1) := by decide +kernel
theorem dJ6_numberOfLeadingZeros_0f7a4_63 : decode cJ6_numberOfLeadingZeros_0f7a4 63 = .ok (.if_icmp .lt 10, 3) := by decide +kernel
theorem dJ6_numberOfLeadingZeros_0f7a4_66 : decode cJ6_numberOfLeadingZeros_0f7a4 66 = .ok (.iinc 1 (-2), 3) := by decide +kernel
theorem dJ6_numberOfLeadingZeros_0f7a4_69 : decode cJ6_numberOfLeadingZeros_0f7a4 69 = .ok (.iload_n 0, 1) := by decide +kernel
theorem dJ6_numberOfLeadingZeros_0f7a4_70 : decode cJ6_numberOfLeadingZeros_0f7a4 70 = .ok (.iconst 2, 1) := by decide +kernel
theorem dJ6_numberOfLeadingZeros_0f7a4_71 : decode cJ6_numberOfLeadingZeros_0f7a4 71 = .ok (.iushr, 1) := by decide +kernel
theorem dJ6_numberOfLeadingZeros_0f7a4_72 : decode cJ6_numberOfLeadingZeros_0f7a4 72 = .ok (.istore_n 0, 1) := by decide +kernel
theorem dJ6_numberOfLeadingZeros_0f7a4_73 : decode cJ6_numberOfLeadingZeros_0f7a4 73 = .ok (.iload_n 1, 1) := by decide +kernel
theorem dJ6_numberOfLeadingZeros_0f7a4_74 : decode cJ6_numberOfLeadingZeros_0f7a4 74 = .ok (.iload_n 0, 1) := by decide +kernel
theorem dJ6_numberOfLeadingZeros_0f7a4_75 : decode cJ6_numberOfLeadingZeros_0f7a4 75 = .ok (.iconst 1, 1) := by decide +kernel
theorem dJ6_numberOfLeadingZeros_0f7a4_76 : decode cJ6_numberOfLeadingZeros_0f7a4 76 = .ok (.iushr, 1) := by decide +kernel
theorem dJ6_numberOfLeadingZeros_0f7a4_77 : decode cJ6_numberOfLeadingZeros_0f7a4 77 = .ok (.isub, 1) := by decide +kernel
theorem dJ6_numberOfLeadingZeros_0f7a4_78 : decode cJ6_numberOfLeadingZeros_0f7a4 78 = .ok (.ireturn, 1) := by decide +kernel
theorem dJ6_numberOfTrailingZeros_0f7a4_0 : decode cJ6_numberOfTrailingZeros_0f7a4 0 = .ok (.iload_n 0, 1) := by decide +kernel
theorem dJ6_numberOfTrailingZeros_0f7a4_1 : decode cJ6_numberOfTrailingZeros_0f7a4 1 = .ok (.iconst (-1), 1) := by decide +kernel
theorem dJ6_numberOfTrailingZeros_0f7a4_2 : decode cJ6_numberOfTrailingZeros_0f7a4 2 = .ok (.ixor, 1) := by decide +kernel
theorem dJ6_numberOfTrailingZeros_0f7a4_3 : decode cJ6_numberOfTrailingZeros_0f7a4 3 = .ok (.iload_n 0, 1) := by decide +kernel
theorem dJ6_numberOfTrailingZeros_0f7a4_4 : decode cJ6_numberOfTrailingZeros_0f7a4 4 = .ok (.iconst 1, 1) := by decide +kernel
theorem dJ6_numberOfTrailingZeros_0f7a4_5 : decode cJ6_numberOfTrailingZeros_0f7a4 5 = .ok (.isub, 1) := by decide +kernel
theorem dJ6_numberOfTrailingZeros_0f7a4_6 : decode cJ6_numberOfTrailingZeros_0f7a4 6 = .ok (.iand, 1) := by decide +kernel
theorem dJ6_numberOfTrailingZeros_0f7a4_7 : decode cJ6_numberOfTrailingZeros_0f7a4 7 = .ok (.istore_n 0, 1) := by decide +kernel
theorem dJ6_numberOfTrailingZeros_0f7a4_8 : decode cJ6_numberOfTrailingZeros_0f7a4 8 = .ok (.iload_n 0, 1) := by decide +kernel
theorem dJ6_numberOfTrailingZeros_0f7a4_9 : decode cJ6_numberOfTrailingZeros_0f7a4 9 = .ok (.ifCond .gt 8, 3) := by decide +kernel
theorem dJ6_numberOfTrailingZeros_0f7a4_12 : decode cJ6_numberOfTrailingZeros_0f7a4 12 = .ok (.iload_n 0, 1) := by decide +kernel
theorem dJ6_numberOfTrailingZeros_0f7a4_13 : decode cJ6_numberOfTrailingZeros_0f7a4 13 = .ok (.bipush 32, 2) := by decide +kernel
theorem dJ6_numberOfTrailingZeros_0f7a4_15 : decode cJ6_numberOfTrailingZeros_0f7a4 15 = .ok (.iand, 1) := by decide +kernel
theorem dJ6_numberOfTrailingZeros_0f7a4_16 : decode cJ6_numberOfTrailingZeros_0f7a4 16 = .ok (.ireturn, 1) := by decide +kernel
theorem dJ6_numberOfTrailingZeros_0f7a4_17 : decode cJ6_numberOfTrailingZeros_0f7a4 17 = .ok (.iconst 1, 1) := by decide +kernel
theorem dJ6_numberOfTrailingZeros_0f7a4_18 : decode cJ6_numberOfTrailingZeros_0f7a4 18 = .ok (.istore_n 1, 1) := by decide +kernel
theorem dJ6_numberOfTrailingZeros_0f7a4_19 : decode cJ6_numberOfTrailingZeros_0f7a4 19 = .ok (.iload_n 0, 1) := by decide +kernel
theorem dJ6_numberOfTrailingZeros_0f7a4_20 : decode cJ6_numberOfTrailingZeros_0f7a4 20 = .ok (.ldc_w 264, 3) := by decide +kernel
theorem dJ6_numberOfTrailingZeros_0f7a4_23 : decode cJ6_numberOfTrailingZeros_0f7a4 23 = .ok (.if_icmp .le 11, 3) := by decide +kernel
theorem dJ6_numberOfTrailingZeros_0f7a4_26 : decode cJ6_numberOfTrailingZeros_0f7a4 26 = .ok (.iinc 1 16, 3) := by decide +kernel
theorem dJ6_numberOfTrailingZeros_0f7a4_29 : decode cJ6_numberOfTrailingZeros_0f7a4 29 = .ok (.iload_n 0, 1) := by decide +kernel
theorem dJ6_numberOfTrailingZeros_0f7a4_30 : decode cJ6_numberOfTrailingZeros_0f7a4 30 = .ok (.bipush 16, 2) := by decide +kernel
theorem dJ6_numberOfTrailingZeros_0f7a4_32 : decode cJ6_numberOfTrailingZeros_0f7a4 32 = .ok (.iushr, 1) := by decide +kernel
theorem dJ6_numberOfTrailingZeros_0f7a4_33 : decode cJ6_numberOfTrailingZeros_0f7a4 33 = .ok (.istore_n 0, 1) := by decide +kernel
theorem dJ6_numberOfTrailingZeros_0f7a4_34 : decode cJ6_numberOfTrailingZeros_0f7a4 34 = .ok (.iload_n 0, 1) := by decide +kernel
theorem dJ6_numberOfTrailingZeros_0f7a4_35 : decode cJ6_numberOfTrailingZeros_0f7a4 35 = .ok (.sipush 256, 3) := by decide +kernel
theorem dJ6_numberOfTrailingZeros_0f7a4_38 : decode cJ6_numberOfTrailingZeros_0f7a4 38 = .ok (.if_icmp .le 11, 3) := by decide +kernel
theorem dJ6_numberOfTrailingZeros_0f7a4_41 : decode cJ6_numberOfTrailingZeros_0f7a4 41 = .ok (.iinc 1 8, 3) := by decide +kernel
theorem dJ6_numberOfTrailingZeros_0f7a4_44 : decode cJ6_numberOfTrailingZeros_0f7a4 44 = .ok (.iload_n 0, 1) := by decide +kernel
theorem dJ6_numberOfTrailingZeros_0f7a4_45 : decode cJ6_numberOfTrailingZeros_0f7a4 45 = .ok (.bipush 8, 2) := by decide +kernel
theorem dJ6_numberOfTrailingZeros_0f7a4_47 : decode cJ6_numberOfTrailingZeros_0f7a4 47 = .ok (.iushr, 1) := by decide +kernel
theorem dJ6_numberOfTrailingZeros_0f7a4_48 : decode cJ6_numberOfTrailingZeros_0f7a4 48 = .ok (.istore_n 0, 1) := by decide +kernel
theorem dJ6_numberOfTrailingZeros_0f7a4_49 : decode cJ6_numberOfTrailingZeros_0f7a4 49 = .ok (.iload_n 0, 1) := by decide +kernel
theorem dJ6_numberOfTrailingZeros_0f7a4_50 : decode cJ6_numberOfTrailingZeros_0f7a4 50 = .ok (.bipush 16, 2) := by decide +kernel
theorem dJ6_numberOfTrailingZeros_0f7a4_52 : decode cJ6_numberOfTrailingZeros_0f7a4 52 = .ok (.if_icmp .le 10, 3) := by decide +kernel
theorem dJ6_numberOfTrailingZeros_0f7a4_55 : decode cJ6_numberOfTrailingZeros_0f7a4 55 = .ok (.iinc 1 4, 3) := by decide +kernel
theorem dJ6_numberOfTrailingZeros_0f7a4_58 : decode cJ6_numberOfTrailingZeros_0f7a4 58 = .ok (.iload_n 0, 1) := by decide +kernel
theorem dJ6_numberOfTrailingZeros_0f7a4_59 : decode cJ6_numberOfTrailingZeros_0f7a4 59 = .ok (.iconst 4, 1) := by decide +kernel
theorem dJ6_numberOfTrailingZeros_0f7a4_60 : decode cJ6_numberOfTrailingZeros_0f7a4 60 = .ok (.iushr, 1) := by decide +kernel
theorem dJ6_numberOfTrailingZeros_0f7a4_61 : decode cJ6_numberOfTrailingZeros_0f7a4 61 = .ok (.istore_n 0, 1) := by decide +kernel
theorem dJ6_numberOfTrailingZeros_0f7a4_62 : decode cJ6_numberOfTrailingZeros_0f7a4 62 = .ok (.iload_n 0, 1) := by decide +kernel
theorem dJ6_numberOfTrailingZeros_0f7a4_63 : decode cJ6_numberOfTrailingZeros_0f7a4 63 = .ok (.iconst 4, 1) := by decide +kernel
theorem dJ6_numberOfTrailingZeros_0f7a4_64 : decode cJ6_numberOfTrailingZeros_0f7a4 64 = .ok (.if_icmp .le 10, 3) := by decide +kernel
theorem dJ6_numberOfTrailingZeros_0f7a4_67 : decode cJ6_numberOfTrailingZeros_0f7a4 67 = .ok (.iinc 1 2, 3) := by decide +kernel
theorem dJ6_numberOfTrailingZeros_0f7a4_70 : decode cJ6_numberOfTrailingZeros_0f7a4 70 = .ok (.iload_n 0, 1) := by decide +kernel
theorem dJ6_numberOfTrailingZeros_0f7a4_71 : decode cJ6_numberOfTrailingZeros_0f7a4 71 = .ok (.iconst 2, 1) := by decide +kernel
theorem dJ6_numberOfTrailingZeros_0f7a4_72 : decode cJ6_numberOfTrailingZeros_0f7a4 72 = .ok (.iushr, 1) := by decide +kernel
theorem dJ6_numberOfTrailingZeros_0f7a4_73 : decode cJ6_numberOfTrailingZeros_0f7a4 73 = .ok (.istore_n 0, 1) := by decide +kernel
theorem dJ6_numberOfTrailingZeros_0f7a4_74 : decode cJ6_numberOfTrailingZeros_0f7a4 74 = .ok (.iload_n 1, 1) := by decide +kernel
theorem dJ6_numberOfTrailingZeros_0f7a4_75 : decode cJ6_numberOfTrailingZeros_0f7a4 75 = .ok (.iload_n 0, 1) := by decide +kernel
theorem dJ6_numberOfTrailingZeros_0f7a4_76 : decode cJ6_numberOfTrailingZeros_0f7a4 76 = .ok (.iconst 1, 1) := by decide +kernel
theorem dJ6_numberOfTrailingZeros_0f7a4_77 : decode cJ6_numberOfTrailingZeros_0f7a4 77 = .ok (.iushr, 1) := by decide +kernel
theorem dJ6_numberOfTrailingZeros_0f7a4_78 : decode cJ6_numberOfTrailingZeros_0f7a4 78 = .ok (.iadd, 1) := by decide +kernel
theorem dJ6_numberOfTrailingZeros_0f7a4_79 : decode cJ6_numberOfTrailingZeros_0f7a4 79 = .ok (.ireturn, 1) := by decide +kernel
theorem dJ6_bitCount_0f7a4_0 : decode cJ6_bitCount_0f7a4 0 = .ok (.iload_n 0, 1) := by decide +kernel
theorem dJ6_bitCount_0f7a4_1 : decode cJ6_bitCount_0f7a4 1 = .ok (.iload_n 0, 1) := by decide +kernel
theorem dJ6_bitCount_0f7a4_2 : decode cJ6_bitCount_0f7a4 2 = .ok (.iconst 1, 1) := by decide +kernel
theorem dJ6_bitCount_0f7a4_3 : decode cJ6_bitCount_0f7a4 3 = .ok (.iushr, 1) := by decide +kernel
theorem dJ6_bitCount_0f7a4_4 : decode cJ6_bitCount_0f7a4 4 = .ok (.ldc_w 265, 3) := by decide +kernel
theorem dJ6_bitCount_0f7a4_7 : decode cJ6_bitCount_0f7a4 7 = .ok (.iand, 1) := by decide +kernel
theorem dJ6_bitCount_0f7a4_8 : decode cJ6_bitCount_0f7a4 8 = .ok (.isub, 1) := by decide +kernel
theorem dJ6_bitCount_0f7a4_9 : decode cJ6_bitCount_0f7a4 9 = .ok (.istore_n 0, 1) := by decide +kernel
theorem dJ6_bitCount_0f7a4_10 : decode cJ6_bitCount_0f7a4 10 = .ok (.iload_n 0, 1) := by decide +kernel
theorem dJ6_bitCount_0f7a4_11 : decode cJ6_bitCount_0f7a4 11 = .ok (.ldc_w 266, 3) := by decide +kernel
theorem dJ6_bitCount_0f7a4_14 : decode cJ6_bitCount_0f7a4 14 = .ok (.iand, 1) := by decide +kernel
theorem dJ6_bitCount_0f7a4_15 : decode cJ6_bitCount_0f7a4 15 = .ok (.iload_n 0, 1) := by decide +kernel
theorem dJ6_bitCount_0f7a4_16 : decode cJ6_bitCount_0f7a4 16 = .ok (.iconst 2, 1) := by decide +kernel
theorem dJ6_bitCount_0f7a4_17 : decode cJ6_bitCount_0f7a4 17 = .ok (.iushr, 1) := by decide +kernel
theorem dJ6_bitCount_0f7a4_18 : decode cJ6_bitCount_0f7a4 18 = .ok (.ldc_w 266, 3) := by decide +kernel
theorem dJ6_bitCount_0f7a4_21 : decode cJ6_bitCount_0f7a4 21 = .ok (.iand, 1) := by decide +kernel
theorem dJ6_bitCount_0f7a4_22 : decode cJ6_bitCount_0f7a4 22 = .ok (.iadd, 1) := by decide +kernel
theorem dJ6_bitCount_0f7a4_23 : decode cJ6_bitCount_0f7a4 23 = .ok (.istore_n 0, 1) := by decide +kernel
theorem dJ6_bitCount_0f7a4_24 : decode cJ6_bitCount_0f7a4 24 = .ok (.iload_n 0, 1) := by decide +kernel
theorem dJ6_bitCount_0f7a4_25 : decode cJ6_bitCount_0f7a4 25 = .ok (.iload_n 0, 1) := by decide +kernel
theorem dJ6_bitCount_0f7a4_26 : decode cJ6_bitCount_0f7a4 26 = .ok (.iconst 4, 1) := by decide +kernel
theorem dJ6_bitCount_0f7a4_27 : decode cJ6_bitCount_0f7a4 27 = .ok (.iushr, 1) := by decide +kernel
theorem dJ6_bitCount_0f7a4_28 : decode cJ6_bitCount_0f7a4 28 = .ok (.iadd, 1) := by decide +kernel
theorem dJ6_bitCount_0f7a4_29 : decode cJ6_bitCount_0f7a4 29 = .ok (.ldc_w 267, 3) := by decide +kernel
theorem dJ6_bitCount_0f7a4_32 : decode cJ6_bitCount_0f7a4 32 = .ok (.iand, 1) := by decide +kernel
theorem dJ6_bitCount_0f7a4_33 : decode cJ6_bitCount_0f7a4 33 = .ok (.istore_n 0, 1) := by decide +kernel
theorem dJ6_bitCount_0f7a4_34 : decode cJ6_bitCount_0f7a4 34 = .ok (.iload_n 0, 1) := by decide +kernel
theorem dJ6_bitCount_0f7a4_35 : decode cJ6_bitCount_0f7a4 35 = .ok (.iload_n 0, 1) := by decide +kernel
theorem dJ6_bitCount_0f7a4_36 : decode cJ6_bitCount_0f7a4 36 = .ok (.bipush 8, 2) := by decide +kernel
theorem dJ6_bitCount_0f7a4_38 : decode cJ6_bitCount_0f7a4 38 = .ok (.iushr, 1) := by decide +kernel
theorem dJ6_bitCount_0f7a4_39 : decode cJ6_bitCount_0f7a4 39 = .ok (.iadd, 1) := by decide +kernel
theorem dJ6_bitCount_0f7a4_40 : decode cJ6_bitCount_0f7a4 40 = .ok (.istore_n 0, 1) := by decide +kernel
theorem dJ6_bitCount_0f7a4_41 : decode cJ6_bitCount_0f7a4 41 = .ok (.iload_n 0, 1) := by decide +kernel
theorem dJ6_bitCount_0f7a4_42 : decode cJ6_bitCount_0f7a4 42 = .ok (.iload_n 0, 1) := by decide +kernel
theorem dJ6_bitCount_0f7a4_43 : decode cJ6_bitCount_0f7a4 43 = .ok (.bipush 16, 2) := by decide +kernel
theorem dJ6_bitCount_0f7a4_45 : decode cJ6_bitCount_0f7a4 45 = .ok (.iushr, 1) := by decide +kernel
theorem dJ6_bitCount_0f7a4_46 : decode cJ6_bitCount_0f7a4 46 = .ok (.iadd, 1) := by decide +kernel
theorem dJ6_bitCount_0f7a4_47 : decode cJ6_bitCount_0f7a4 47 = .ok (.istore_n 0, 1) := by decide +kernel
theorem dJ6_bitCount_0f7a4_48 : decode cJ6_bitCount_0f7a4 48 = .ok (.iload_n 0, 1) := by decide +kernel
theorem dJ6_bitCount_0f7a4_49 : decode cJ6_bitCount_0f7a4 49 = .ok (.bipush 63, 2) := by decide +kernel
theorem dJ6_bitCount_0f7a4_51 : decode cJ6_bitCount_0f7a4 51 = .ok (.iand, 1) := by decide +kernel
theorem dJ6_bitCount_0f7a4_52 : decode cJ6_bitCount_0f7a4 52 = .ok (.ireturn, 1) := by decide +kernel
theorem dJ9_floorMod_7cf53_0 : decode cJ9_floorMod_7cf53 0 = .ok (.iload_n 0, 1) := by decide +kernel
theorem dJ9_floorMod_7cf53_1 : decode cJ9_floorMod_7cf53 1 = .ok (.iload_n 1, 1) := by decide +kernel
theorem dJ9_floorMod_7cf53_2 : decode cJ9_floorMod_7cf53 2 = .ok (.irem, 1) := by decide +kernel
theorem dJ9_floorMod_7cf53_3 : decode cJ9_floorMod_7cf53 3 = .ok (.istore_n 2, 1) := by decide +kernel
theorem dJ9_floorMod_7cf53_4 : decode cJ9_floorMod_7cf53 4 = .ok (.iload_n 0, 1) := by decide +kernel
theorem dJ9_floorMod_7cf53_5 : decode cJ9_floorMod_7cf53 5 = .ok (.iload_n 1, 1) := by decide +kernel
theorem dJ9_floorMod_7cf53_6 : decode cJ9_floorMod_7cf53 6 = .ok (.ixor, 1) := by decide +kernel
theorem dJ9_floorMod_7cf53_7 : decode cJ9_floorMod_7cf53 7 = .ok (.ifCond .ge 11, 3) := by decide +kernel
theorem dJ9_floorMod_7cf53_10 : decode cJ9_floorMod_7cf53 10 = .ok (.iload_n 2, 1) := by decide +kernel
theorem dJ9_floorMod_7cf53_11 : decode cJ9_floorMod_7cf53 11 = .ok (.ifCond .eq 7, 3) := by decide +kernel
theorem dJ9_floorMod_7cf53_14 : decode cJ9_floorMod_7cf53 14 = .ok (.iload_n 2, 1) := by decide +kernel
theorem dJ9_floorMod_7cf53_15 : decode cJ9_floorMod_7cf53 15 = .ok (.iload_n 1, 1) := by decide +kernel
theorem dJ9_floorMod_7cf53_16 : decode cJ9_floorMod_7cf53 16 = .ok (.iadd, 1) := by decide +kernel
theorem dJ9_floorMod_7cf53_17 : decode cJ9_floorMod_7cf53 17 = .ok (.ireturn, 1) := by decide +kernel
theorem dJ9_floorMod_7cf53_18 : decode cJ9_floorMod_7cf53 18 = .ok (.iload_n 2, 1) := by decide +kernel
theorem dJ9_floorMod_7cf53_19 : decode cJ9_floorMod_7cf53 19 = .ok (.ireturn, 1) := by decide +kernel
theorem dJ9_max_7cf53_0 : decode cJ9_max_7cf53 0 = .ok (.iload_n 0, 1) := by decide +kernel
theorem dJ9_max_7cf53_1 : decode cJ9_max_7cf53 1 = .ok (.iload_n 1, 1) := by decide +kernel
theorem dJ9_max_7cf53_2 : decode cJ9_max_7cf53 2 = .ok (.if_icmp .lt 7, 3) := by decide +kernel
theorem dJ9_max_7cf53_5 : decode cJ9_max_7cf53 5 = .ok (.iload_n 0, 1) := by decide +kernel
theorem dJ9_max_7cf53_6 : decode cJ9_max_7cf53 6 = .ok (.goto 4, 3) := by decide +kernel
theorem dJ9_max_7cf53_9 : decode cJ9_max_7cf53 9 = .ok (.iload_n 1, 1) := by decide +kernel
theorem dJ9_max_7cf53_10 : decode cJ9_max_7cf53 10 = .ok (.ireturn, 1) := by decide +kernel
theorem dJ9_min_7cf53_0 : decode cJ9_min_7cf53 0 = .ok (.iload_n 0, 1) := by decide +kernel
theorem dJ9_min_7cf53_1 : decode cJ9_min_7cf53 1 = .ok (.iload_n 1, 1) := by decide +kernel
theorem dJ9_min_7cf53_2 : decode cJ9_min_7cf53 2 = .ok (.if_icmp .gt 7, 3) := by decide +kernel
theorem dJ9_min_7cf53_5 : decode cJ9_min_7cf53 5 = .ok (.iload_n 0, 1) := by decide +kernel
theorem dJ9_min_7cf53_6 : decode cJ9_min_7cf53 6 = .ok (.goto 4, 3) := by decide +kernel
theorem dJ9_min_7cf53_9 : decode cJ9_min_7cf53 9 = .ok (.iload_n 1, 1) := by decide +kernel
theorem dJ9_min_7cf53_10 : decode cJ9_min_7cf53 10 = .ok (.ireturn, 1) := by decide +kernel
theorem dJ7_fill_53178_0 : decode cJ7_fill_53178 0 = .ok (.iconst 0, 1) := by decide +kernel
theorem dJ7_fill_53178_1 : decode cJ7_fill_53178 1 = .ok (.istore_n 2, 1) := by decide +kernel
theorem dJ7_fill_53178_2 : decode cJ7_fill_53178 2 = .ok (.aload_n 0, 1) := by decide +kernel
theorem dJ7_fill_53178_3 : decode cJ7_fill_53178 3 = .ok (.arraylength, 1) := by decide +kernel
theorem dJ7_fill_53178_4 : decode cJ7_fill_53178 4 = .ok (.istore_n 3, 1) := by decide +kernel
theorem dJ7_fill_53178_5 : decode cJ7_fill_53178 5 = .ok (.iload_n 2, 1) := by decide +kernel
theorem dJ7_fill_53178_6 : decode cJ7_fill_53178 6 = .ok (.iload_n 3, 1) := by decide +kernel
theorem dJ7_fill_53178_7 : decode cJ7_fill_53178 7 = .ok (.if_icmp .ge 13, 3) := by decide +kernel
theorem dJ7_fill_53178_10 : decode cJ7_fill_53178 10 = .ok (.aload_n 0, 1) := by decide +kernel
theorem dJ7_fill_53178_11 : decode cJ7_fill_53178 11 = .ok (.iload_n 2, 1) := by decide +kernel
theorem dJ7_fill_53178_12 : decode cJ7_fill_53178 12 = .ok (.iload_n 1, 1) := by decide +kernel
theorem dJ7_fill_53178_13 : decode cJ7_fill_53178 13 = .ok (.iastore, 1) := by decide +kernel
theorem dJ7_fill_53178_14 : decode cJ7_fill_53178 14 = .ok (.iinc 2 1, 3) := by decide +kernel
theorem dJ7_fill_53178_17 : decode cJ7_fill_53178 17 = .ok (.goto (-12), 3) := by decide +kernel
theorem dJ7_fill_53178_20 : decode cJ7_fill_53178 20 = .ok (.return_, 1) := by decide +kernel
