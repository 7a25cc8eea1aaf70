theorem dX0_init_0 : decode cX0_init 0 = .ok (.aload_n 0, 1) := by decide +kernel
theorem dX0_init_1 : decode cX0_init 1 = .ok (.invokespecial 3, 3) := by decide +kernel
theorem dX0_init_4 : decode cX0_init 4 = .ok (.aload_n 0, 1) := by decide +kernel
theorem dX0_init_5 : decode cX0_init 5 = .ok (.new 9, 3) := by decide +kernel
theorem dX0_init_8 : decode cX0_init 8 = .ok (.dup, 1) := by decide +kernel
theorem dX0_init_9 : decode cX0_init 9 = .ok (.invokespecial 11, 3) := by decide +kernel
theorem dX0_init_12 : decode cX0_init 12 = .ok (.putfield 12, 3) := by decide +kernel
theorem dX0_init_15 : decode cX0_init 15 = .ok (.aload_n 0, 1) := by decide +kernel
theorem dX0_init_16 : decode cX0_init 16 = .ok (.iconst 0, 1) := by decide +kernel
theorem dX0_init_17 : decode cX0_init 17 = .ok (.putfield 18, 3) := by decide +kernel
theorem dX0_init_20 : decode cX0_init 20 = .ok (.aload_n 0, 1) := by decide +kernel
theorem dX0_init_21 : decode cX0_init 21 = .ok (.iconst 0, 1) := by decide +kernel
theorem dX0_init_22 : decode cX0_init 22 = .ok (.putfield 22, 3) := by decide +kernel
theorem dX0_init_25 : decode cX0_init 25 = .ok (.aload_n 0, 1) := by decide +kernel
theorem dX0_init_26 : decode cX0_init 26 = .ok (.iconst 0, 1) := by decide +kernel
theorem dX0_init_27 : decode cX0_init 27 = .ok (.putfield 25, 3) := by decide +kernel
theorem dX0_init_30 : decode cX0_init 30 = .ok (.return_, 1) := by decide +kernel
theorem dX0_copyFrom_0 : decode cX0_copyFrom 0 = .ok (.aload_n 0, 1) := by decide +kernel
theorem dX0_copyFrom_1 : decode cX0_copyFrom 1 = .ok (.getfield 12, 3) := by decide +kernel
theorem dX0_copyFrom_4 : decode cX0_copyFrom 4 = .ok (.aload_n 1, 1) := by decide +kernel
theorem dX0_copyFrom_5 : decode cX0_copyFrom 5 = .ok (.getfield 12, 3) := by decide +kernel
theorem dX0_copyFrom_8 : decode cX0_copyFrom 8 = .ok (.invokevirtual 28, 3) := by decide +kernel
theorem dX0_copyFrom_11 : decode cX0_copyFrom 11 = .ok (.aload_n 0, 1) := by decide +kernel
theorem dX0_copyFrom_12 : decode cX0_copyFrom 12 = .ok (.aload_n 1, 1) := by decide +kernel
theorem dX0_copyFrom_13 : decode cX0_copyFrom 13 = .ok (.getfield 18, 3) := by decide +kernel
theorem dX0_copyFrom_16 : decode cX0_copyFrom 16 = .ok (.putfield 18, 3) := by decide +kernel
theorem dX0_copyFrom_19 : decode cX0_copyFrom 19 = .ok (.aload_n 0, 1) := by decide +kernel
theorem dX0_copyFrom_20 : decode cX0_copyFrom 20 = .ok (.aload_n 1, 1) := by decide +kernel
theorem dX0_copyFrom_21 : decode cX0_copyFrom 21 = .ok (.getfield 22, 3) := by decide +kernel
theorem dX0_copyFrom_24 : decode cX0_copyFrom 24 = .ok (.putfield 22, 3) := by decide +kernel
theorem dX0_copyFrom_27 : decode cX0_copyFrom 27 = .ok (.aload_n 0, 1) := by decide +kernel
theorem dX0_copyFrom_28 : decode cX0_copyFrom 28 = .ok (.aload_n 1, 1) := by decide +kernel
theorem dX0_copyFrom_29 : decode cX0_copyFrom 29 = .ok (.getfield 25, 3) := by decide +kernel
theorem dX0_copyFrom_32 : decode cX0_copyFrom 32 = .ok (.putfield 25, 3) := by decide +kernel
theorem dX0_copyFrom_35 : decode cX0_copyFrom 35 = .ok (.return_, 1) := by decide +kernel
theorem dX0_wipe_0 : decode cX0_wipe 0 = .ok (.aload_n 0, 1) := by decide +kernel
theorem dX0_wipe_1 : decode cX0_wipe 1 = .ok (.getfield 12, 3) := by decide +kernel
theorem dX0_wipe_4 : decode cX0_wipe 4 = .ok (.invokevirtual 32, 3) := by decide +kernel
theorem dX0_wipe_7 : decode cX0_wipe 7 = .ok (.aload_n 0, 1) := by decide +kernel
theorem dX0_wipe_8 : decode cX0_wipe 8 = .ok (.iconst 0, 1) := by decide +kernel
theorem dX0_wipe_9 : decode cX0_wipe 9 = .ok (.putfield 18, 3) := by decide +kernel
theorem dX0_wipe_12 : decode cX0_wipe 12 = .ok (.aload_n 0, 1) := by decide +kernel
theorem dX0_wipe_13 : decode cX0_wipe 13 = .ok (.iconst 0, 1) := by decide +kernel
theorem dX0_wipe_14 : decode cX0_wipe 14 = .ok (.putfield 22, 3) := by decide +kernel
theorem dX0_wipe_17 : decode cX0_wipe 17 = .ok (.aload_n 0, 1) := by decide +kernel
theorem dX0_wipe_18 : decode cX0_wipe 18 = .ok (.iconst 0, 1) := by decide +kernel
theorem dX0_wipe_19 : decode cX0_wipe 19 = .ok (.putfield 25, 3) := by decide +kernel
theorem dX0_wipe_22 : decode cX0_wipe 22 = .ok (.return_, 1) := by decide +kernel
theorem dX0_grow_0 : decode cX0_grow 0 = .ok (.aload_n 0, 1) := by decide +kernel
theorem dX0_grow_1 : decode cX0_grow 1 = .ok (.getfield 18, 3) := by decide +kernel
theorem dX0_grow_4 : decode cX0_grow 4 = .ok (.bipush 14, 2) := by decide +kernel
theorem dX0_grow_6 : decode cX0_grow 6 = .ok (.if_icmp .lt 4, 3) := by decide +kernel
theorem dX0_grow_9 : decode cX0_grow 9 = .ok (.return_, 1) := by decide +kernel
theorem dX0_grow_10 : decode cX0_grow 10 = .ok (.iload_n 1, 1) := by decide +kernel
theorem dX0_grow_11 : decode cX0_grow 11 = .ok (.iconst (-1), 1) := by decide +kernel
theorem dX0_grow_12 : decode cX0_grow 12 = .ok (.if_icmp .eq 15, 3) := by decide +kernel
theorem dX0_grow_15 : decode cX0_grow 15 = .ok (.aload_n 0, 1) := by decide +kernel
theorem dX0_grow_16 : decode cX0_grow 16 = .ok (.getfield 12, 3) := by decide +kernel
theorem dX0_grow_19 : decode cX0_grow 19 = .ok (.aload_n 0, 1) := by decide +kernel
theorem dX0_grow_20 : decode cX0_grow 20 = .ok (.getfield 18, 3) := by decide +kernel
theorem dX0_grow_23 : decode cX0_grow 23 = .ok (.iload_n 1, 1) := by decide +kernel
theorem dX0_grow_24 : decode cX0_grow 24 = .ok (.invokevirtual 35, 3) := by decide +kernel
theorem dX0_grow_27 : decode cX0_grow 27 = .ok (.aload_n 0, 1) := by decide +kernel
theorem dX0_grow_28 : decode cX0_grow 28 = .ok (.dup, 1) := by decide +kernel
theorem dX0_grow_29 : decode cX0_grow 29 = .ok (.getfield 22, 3) := by decide +kernel
theorem dX0_grow_32 : decode cX0_grow 32 = .ok (.aload_n 0, 1) := by decide +kernel
theorem dX0_grow_33 : decode cX0_grow 33 = .ok (.getfield 18, 3) := by decide +kernel
theorem dX0_grow_36 : decode cX0_grow 36 = .ok (.invokestatic 39, 3) := by decide +kernel
theorem dX0_grow_39 : decode cX0_grow 39 = .ok (.ior, 1) := by decide +kernel
theorem dX0_grow_40 : decode cX0_grow 40 = .ok (.putfield 22, 3) := by decide +kernel
theorem dX0_grow_43 : decode cX0_grow 43 = .ok (.aload_n 0, 1) := by decide +kernel
theorem dX0_grow_44 : decode cX0_grow 44 = .ok (.dup, 1) := by decide +kernel
theorem dX0_grow_45 : decode cX0_grow 45 = .ok (.getfield 18, 3) := by decide +kernel
theorem dX0_grow_48 : decode cX0_grow 48 = .ok (.iconst 1, 1) := by decide +kernel
theorem dX0_grow_49 : decode cX0_grow 49 = .ok (.iadd, 1) := by decide +kernel
theorem dX0_grow_50 : decode cX0_grow 50 = .ok (.putfield 18, 3) := by decide +kernel
theorem dX0_grow_53 : decode cX0_grow 53 = .ok (.return_, 1) := by decide +kernel
theorem dX0_choose_0 : decode cX0_choose 0 = .ok (.aload_n 0, 1) := by decide +kernel
theorem dX0_choose_1 : decode cX0_choose 1 = .ok (.iload_n 1, 1) := by decide +kernel
theorem dX0_choose_2 : decode cX0_choose 2 = .ok (.invokevirtual 43, 3) := by decide +kernel
theorem dX0_choose_5 : decode cX0_choose 5 = .ok (.istore_n 2, 1) := by decide +kernel
theorem dX0_choose_6 : decode cX0_choose 6 = .ok (.aload_n 0, 1) := by decide +kernel
theorem dX0_choose_7 : decode cX0_choose 7 = .ok (.getfield 22, 3) := by decide +kernel
theorem dX0_choose_10 : decode cX0_choose 10 = .ok (.invokestatic 46, 3) := by decide +kernel
theorem dX0_choose_13 : decode cX0_choose 13 = .ok (.iload_n 2, 1) := by decide +kernel
theorem dX0_choose_14 : decode cX0_choose 14 = .ok (.invokestatic 46, 3) := by decide +kernel
theorem dX0_choose_17 : decode cX0_choose 17 = .ok (.isub, 1) := by decide +kernel
theorem dX0_choose_18 : decode cX0_choose 18 = .ok (.istore_n 3, 1) := by decide +kernel
theorem dX0_choose_19 : decode cX0_choose 19 = .ok (.aload_n 0, 1) := by decide +kernel
theorem dX0_choose_20 : decode cX0_choose 20 = .ok (.iload_n 2, 1) := by decide +kernel
theorem dX0_choose_21 : decode cX0_choose 21 = .ok (.putfield 22, 3) := by decide +kernel
theorem dX0_choose_24 : decode cX0_choose 24 = .ok (.aload_n 0, 1) := by decide +kernel
theorem dX0_choose_25 : decode cX0_choose 25 = .ok (.dup, 1) := by decide +kernel
theorem dX0_choose_26 : decode cX0_choose 26 = .ok (.getfield 25, 3) := by decide +kernel
theorem dX0_choose_29 : decode cX0_choose 29 = .ok (.iconst 1, 1) := by decide +kernel
theorem dX0_choose_30 : decode cX0_choose 30 = .ok (.iadd, 1) := by decide +kernel
theorem dX0_choose_31 : decode cX0_choose 31 = .ok (.putfield 25, 3) := by decide +kernel
theorem dX0_choose_34 : decode cX0_choose 34 = .ok (.iload_n 3, 1) := by decide +kernel
theorem dX0_choose_35 : decode cX0_choose 35 = .ok (.ireturn, 1) := by decide +kernel
theorem dX0_startAgain_0 : decode cX0_startAgain 0 = .ok (.aload_n 0, 1) := by decide +kernel
theorem dX0_startAgain_1 : decode cX0_startAgain 1 = .ok (.iconst 1, 1) := by decide +kernel
theorem dX0_startAgain_2 : decode cX0_startAgain 2 = .ok (.aload_n 0, 1) := by decide +kernel
theorem dX0_startAgain_3 : decode cX0_startAgain 3 = .ok (.getfield 18, 3) := by decide +kernel
theorem dX0_startAgain_6 : decode cX0_startAgain 6 = .ok (.ishl, 1) := by decide +kernel
theorem dX0_startAgain_7 : decode cX0_startAgain 7 = .ok (.iconst 1, 1) := by decide +kernel
theorem dX0_startAgain_8 : decode cX0_startAgain 8 = .ok (.isub, 1) := by decide +kernel
theorem dX0_startAgain_9 : decode cX0_startAgain 9 = .ok (.putfield 22, 3) := by decide +kernel
theorem dX0_startAgain_12 : decode cX0_startAgain 12 = .ok (.aload_n 0, 1) := by decide +kernel
theorem dX0_startAgain_13 : decode cX0_startAgain 13 = .ok (.iconst 0, 1) := by decide +kernel
theorem dX0_startAgain_14 : decode cX0_startAgain 14 = .ok (.putfield 25, 3) := by decide +kernel
theorem dX0_startAgain_17 : decode cX0_startAgain 17 = .ok (.return_, 1) := by decide +kernel
theorem dX0_isThere_0 : decode cX0_isThere 0 = .ok (.aload_n 0, 1) := by decide +kernel
theorem dX0_isThere_1 : decode cX0_isThere 1 = .ok (.getfield 22, 3) := by decide +kernel
theorem dX0_isThere_4 : decode cX0_isThere 4 = .ok (.iload_n 1, 1) := by decide +kernel
theorem dX0_isThere_5 : decode cX0_isThere 5 = .ok (.invokestatic 51, 3) := by decide +kernel
theorem dX0_isThere_8 : decode cX0_isThere 8 = .ok (.ireturn, 1) := by decide +kernel
theorem dX0_leftAfter_0 : decode cX0_leftAfter 0 = .ok (.aload_n 0, 1) := by decide +kernel
theorem dX0_leftAfter_1 : decode cX0_leftAfter 1 = .ok (.getfield 22, 3) := by decide +kernel
theorem dX0_leftAfter_4 : decode cX0_leftAfter 4 = .ok (.aload_n 0, 1) := by decide +kernel
theorem dX0_leftAfter_5 : decode cX0_leftAfter 5 = .ok (.getfield 12, 3) := by decide +kernel
theorem dX0_leftAfter_8 : decode cX0_leftAfter 8 = .ok (.iload_n 1, 1) := by decide +kernel
theorem dX0_leftAfter_9 : decode cX0_leftAfter 9 = .ok (.invokevirtual 55, 3) := by decide +kernel
theorem dX0_leftAfter_12 : decode cX0_leftAfter 12 = .ok (.iconst (-1), 1) := by decide +kernel
theorem dX0_leftAfter_13 : decode cX0_leftAfter 13 = .ok (.ixor, 1) := by decide +kernel
theorem dX0_leftAfter_14 : decode cX0_leftAfter 14 = .ok (.iand, 1) := by decide +kernel
theorem dX0_leftAfter_15 : decode cX0_leftAfter 15 = .ok (.ireturn, 1) := by decide +kernel
theorem dX0_hasEdge_0 : decode cX0_hasEdge 0 = .ok (.aload_n 0, 1) := by decide +kernel
theorem dX0_hasEdge_1 : decode cX0_hasEdge 1 = .ok (.iload_n 1, 1) := by decide +kernel
theorem dX0_hasEdge_2 : decode cX0_hasEdge 2 = .ok (.invokevirtual 58, 3) := by decide +kernel
theorem dX0_hasEdge_5 : decode cX0_hasEdge 5 = .ok (.ifCond .eq 30, 3) := by decide +kernel
theorem dX0_hasEdge_8 : decode cX0_hasEdge 8 = .ok (.aload_n 0, 1) := by decide +kernel
theorem dX0_hasEdge_9 : decode cX0_hasEdge 9 = .ok (.iload_n 2, 1) := by decide +kernel
theorem dX0_hasEdge_10 : decode cX0_hasEdge 10 = .ok (.invokevirtual 58, 3) := by decide +kernel
theorem dX0_hasEdge_13 : decode cX0_hasEdge 13 = .ok (.ifCond .eq 22, 3) := by decide +kernel
theorem dX0_hasEdge_16 : decode cX0_hasEdge 16 = .ok (.aload_n 0, 1) := by decide +kernel
theorem dX0_hasEdge_17 : decode cX0_hasEdge 17 = .ok (.getfield 12, 3) := by decide +kernel
theorem dX0_hasEdge_20 : decode cX0_hasEdge 20 = .ok (.iload_n 1, 1) := by decide +kernel
theorem dX0_hasEdge_21 : decode cX0_hasEdge 21 = .ok (.invokevirtual 62, 3) := by decide +kernel
theorem dX0_hasEdge_24 : decode cX0_hasEdge 24 = .ok (.iload_n 2, 1) := by decide +kernel
theorem dX0_hasEdge_25 : decode cX0_hasEdge 25 = .ok (.invokestatic 51, 3) := by decide +kernel
theorem dX0_hasEdge_28 : decode cX0_hasEdge 28 = .ok (.ifCond .eq 7, 3) := by decide +kernel
theorem dX0_hasEdge_31 : decode cX0_hasEdge 31 = .ok (.iconst 1, 1) := by decide +kernel
theorem dX0_hasEdge_32 : decode cX0_hasEdge 32 = .ok (.goto 4, 3) := by decide +kernel
theorem dX0_hasEdge_35 : decode cX0_hasEdge 35 = .ok (.iconst 0, 1) := by decide +kernel
theorem dX0_hasEdge_36 : decode cX0_hasEdge 36 = .ok (.ireturn, 1) := by decide +kernel
theorem dX0_canBeJoined_0 : decode cX0_canBeJoined 0 = .ok (.aload_n 0, 1) := by decide +kernel
theorem dX0_canBeJoined_1 : decode cX0_canBeJoined 1 = .ok (.iload_n 1, 1) := by decide +kernel
theorem dX0_canBeJoined_2 : decode cX0_canBeJoined 2 = .ok (.invokevirtual 58, 3) := by decide +kernel
theorem dX0_canBeJoined_5 : decode cX0_canBeJoined 5 = .ok (.ifCond .eq 38, 3) := by decide +kernel
theorem dX0_canBeJoined_8 : decode cX0_canBeJoined 8 = .ok (.aload_n 0, 1) := by decide +kernel
theorem dX0_canBeJoined_9 : decode cX0_canBeJoined 9 = .ok (.iload_n 2, 1) := by decide +kernel
theorem dX0_canBeJoined_10 : decode cX0_canBeJoined 10 = .ok (.invokevirtual 58, 3) := by decide +kernel
theorem dX0_canBeJoined_13 : decode cX0_canBeJoined 13 = .ok (.ifCond .eq 30, 3) := by decide +kernel
theorem dX0_canBeJoined_16 : decode cX0_canBeJoined 16 = .ok (.aload_n 0, 1) := by decide +kernel
theorem dX0_canBeJoined_17 : decode cX0_canBeJoined 17 = .ok (.getfield 12, 3) := by decide +kernel
theorem dX0_canBeJoined_20 : decode cX0_canBeJoined 20 = .ok (.iload_n 1, 1) := by decide +kernel
theorem dX0_canBeJoined_21 : decode cX0_canBeJoined 21 = .ok (.iconst 1, 1) := by decide +kernel
theorem dX0_canBeJoined_22 : decode cX0_canBeJoined 22 = .ok (.aload_n 0, 1) := by decide +kernel
theorem dX0_canBeJoined_23 : decode cX0_canBeJoined 23 = .ok (.getfield 18, 3) := by decide +kernel
theorem dX0_canBeJoined_26 : decode cX0_canBeJoined 26 = .ok (.ishl, 1) := by decide +kernel
theorem dX0_canBeJoined_27 : decode cX0_canBeJoined 27 = .ok (.iconst 1, 1) := by decide +kernel
theorem dX0_canBeJoined_28 : decode cX0_canBeJoined 28 = .ok (.isub, 1) := by decide +kernel
theorem dX0_canBeJoined_29 : decode cX0_canBeJoined 29 = .ok (.invokevirtual 65, 3) := by decide +kernel
theorem dX0_canBeJoined_32 : decode cX0_canBeJoined 32 = .ok (.iload_n 2, 1) := by decide +kernel
theorem dX0_canBeJoined_33 : decode cX0_canBeJoined 33 = .ok (.invokestatic 51, 3) := by decide +kernel
theorem dX0_canBeJoined_36 : decode cX0_canBeJoined 36 = .ok (.ifCond .ne 7, 3) := by decide +kernel
theorem dX0_canBeJoined_39 : decode cX0_canBeJoined 39 = .ok (.iconst 1, 1) := by decide +kernel
theorem dX0_canBeJoined_40 : decode cX0_canBeJoined 40 = .ok (.goto 4, 3) := by decide +kernel
theorem dX0_canBeJoined_43 : decode cX0_canBeJoined 43 = .ok (.iconst 0, 1) := by decide +kernel
theorem dX0_canBeJoined_44 : decode cX0_canBeJoined 44 = .ok (.ireturn, 1) := by decide +kernel
theorem dX0_treeCount_0 : decode cX0_treeCount 0 = .ok (.iconst 0, 1) := by decide +kernel
theorem dX0_treeCount_1 : decode cX0_treeCount 1 = .ok (.istore_n 1, 1) := by decide +kernel
theorem dX0_treeCount_2 : decode cX0_treeCount 2 = .ok (.iload_n 1, 1) := by decide +kernel
theorem dX0_treeCount_3 : decode cX0_treeCount 3 = .ok (.bipush 14, 2) := by decide +kernel
theorem dX0_treeCount_5 : decode cX0_treeCount 5 = .ok (.if_icmp .ge 19, 3) := by decide +kernel
theorem dX0_treeCount_8 : decode cX0_treeCount 8 = .ok (.aload_n 0, 1) := by decide +kernel
theorem dX0_treeCount_9 : decode cX0_treeCount 9 = .ok (.iload_n 1, 1) := by decide +kernel
theorem dX0_treeCount_10 : decode cX0_treeCount 10 = .ok (.invokevirtual 69, 3) := by decide +kernel
theorem dX0_treeCount_13 : decode cX0_treeCount 13 = .ok (.ifCond .ne 5, 3) := by decide +kernel
theorem dX0_treeCount_16 : decode cX0_treeCount 16 = .ok (.iload_n 1, 1) := by decide +kernel
theorem dX0_treeCount_17 : decode cX0_treeCount 17 = .ok (.ireturn, 1) := by decide +kernel
theorem dX0_treeCount_18 : decode cX0_treeCount 18 = .ok (.iinc 1 1, 3) := by decide +kernel
theorem dX0_treeCount_21 : decode cX0_treeCount 21 = .ok (.goto (-19), 3) := by decide +kernel
theorem dX0_treeCount_24 : decode cX0_treeCount 24 = .ok (.bipush 14, 2) := by decide +kernel
theorem dX0_treeCount_26 : decode cX0_treeCount 26 = .ok (.ireturn, 1) := by decide +kernel
theorem dX0_treeAt_0 : decode cX0_treeAt 0 = .ok (.aload_n 0, 1) := by decide +kernel
theorem dX0_treeAt_1 : decode cX0_treeAt 1 = .ok (.getfield 22, 3) := by decide +kernel
theorem dX0_treeAt_4 : decode cX0_treeAt 4 = .ok (.istore_n 2, 1) := by decide +kernel
theorem dX0_treeAt_5 : decode cX0_treeAt 5 = .ok (.iconst 0, 1) := by decide +kernel
theorem dX0_treeAt_6 : decode cX0_treeAt 6 = .ok (.istore_n 3, 1) := by decide +kernel
theorem dX0_treeAt_7 : decode cX0_treeAt 7 = .ok (.iload_n 3, 1) := by decide +kernel
theorem dX0_treeAt_8 : decode cX0_treeAt 8 = .ok (.bipush 14, 2) := by decide +kernel
theorem dX0_treeAt_10 : decode cX0_treeAt 10 = .ok (.if_icmp .ge 45, 3) := by decide +kernel
theorem dX0_treeAt_13 : decode cX0_treeAt 13 = .ok (.iload_n 2, 1) := by decide +kernel
theorem dX0_treeAt_14 : decode cX0_treeAt 14 = .ok (.ifCond .eq 41, 3) := by decide +kernel
theorem dX0_treeAt_17 : decode cX0_treeAt 17 = .ok (.aload_n 0, 1) := by decide +kernel
theorem dX0_treeAt_18 : decode cX0_treeAt 18 = .ok (.getfield 12, 3) := by decide +kernel
theorem dX0_treeAt_21 : decode cX0_treeAt 21 = .ok (.iload_n 2, 1) := by decide +kernel
theorem dX0_treeAt_22 : decode cX0_treeAt 22 = .ok (.invokestatic 72, 3) := by decide +kernel
theorem dX0_treeAt_25 : decode cX0_treeAt 25 = .ok (.aload_n 0, 1) := by decide +kernel
theorem dX0_treeAt_26 : decode cX0_treeAt 26 = .ok (.getfield 22, 3) := by decide +kernel
theorem dX0_treeAt_29 : decode cX0_treeAt 29 = .ok (.invokevirtual 65, 3) := by decide +kernel
theorem dX0_treeAt_32 : decode cX0_treeAt 32 = .ok (.istore 4, 2) := by decide +kernel
theorem dX0_treeAt_34 : decode cX0_treeAt 34 = .ok (.iload_n 3, 1) := by decide +kernel
theorem dX0_treeAt_35 : decode cX0_treeAt 35 = .ok (.iload_n 1, 1) := by decide +kernel
theorem dX0_treeAt_36 : decode cX0_treeAt 36 = .ok (.if_icmp .ne 6, 3) := by decide +kernel
theorem dX0_treeAt_39 : decode cX0_treeAt 39 = .ok (.iload 4, 2) := by decide +kernel
theorem dX0_treeAt_41 : decode cX0_treeAt 41 = .ok (.ireturn, 1) := by decide +kernel
theorem dX0_treeAt_42 : decode cX0_treeAt 42 = .ok (.iload_n 2, 1) := by decide +kernel
theorem dX0_treeAt_43 : decode cX0_treeAt 43 = .ok (.iload 4, 2) := by decide +kernel
theorem dX0_treeAt_45 : decode cX0_treeAt 45 = .ok (.iconst (-1), 1) := by decide +kernel
theorem dX0_treeAt_46 : decode cX0_treeAt 46 = .ok (.ixor, 1) := by decide +kernel
theorem dX0_treeAt_47 : decode cX0_treeAt 47 = .ok (.iand, 1) := by decide +kernel
theorem dX0_treeAt_48 : decode cX0_treeAt 48 = .ok (.istore_n 2, 1) := by decide +kernel
theorem dX0_treeAt_49 : decode cX0_treeAt 49 = .ok (.iinc 3 1, 3) := by decide +kernel
theorem dX0_treeAt_52 : decode cX0_treeAt 52 = .ok (.goto (-45), 3) := by decide +kernel
theorem dX0_treeAt_55 : decode cX0_treeAt 55 = .ok (.iconst 0, 1) := by decide +kernel
theorem dX0_treeAt_56 : decode cX0_treeAt 56 = .ok (.ireturn, 1) := by decide +kernel
theorem dX0_treeNumber_0 : decode cX0_treeNumber 0 = .ok (.iconst 0, 1) := by decide +kernel
theorem dX0_treeNumber_1 : decode cX0_treeNumber 1 = .ok (.istore_n 2, 1) := by decide +kernel
theorem dX0_treeNumber_2 : decode cX0_treeNumber 2 = .ok (.iload_n 2, 1) := by decide +kernel
theorem dX0_treeNumber_3 : decode cX0_treeNumber 3 = .ok (.bipush 14, 2) := by decide +kernel
theorem dX0_treeNumber_5 : decode cX0_treeNumber 5 = .ok (.if_icmp .ge 23, 3) := by decide +kernel
theorem dX0_treeNumber_8 : decode cX0_treeNumber 8 = .ok (.aload_n 0, 1) := by decide +kernel
theorem dX0_treeNumber_9 : decode cX0_treeNumber 9 = .ok (.iload_n 2, 1) := by decide +kernel
theorem dX0_treeNumber_10 : decode cX0_treeNumber 10 = .ok (.invokevirtual 69, 3) := by decide +kernel
theorem dX0_treeNumber_13 : decode cX0_treeNumber 13 = .ok (.iload_n 1, 1) := by decide +kernel
theorem dX0_treeNumber_14 : decode cX0_treeNumber 14 = .ok (.invokestatic 51, 3) := by decide +kernel
theorem dX0_treeNumber_17 : decode cX0_treeNumber 17 = .ok (.ifCond .eq 5, 3) := by decide +kernel
theorem dX0_treeNumber_20 : decode cX0_treeNumber 20 = .ok (.iload_n 2, 1) := by decide +kernel
theorem dX0_treeNumber_21 : decode cX0_treeNumber 21 = .ok (.ireturn, 1) := by decide +kernel
theorem dX0_treeNumber_22 : decode cX0_treeNumber 22 = .ok (.iinc 2 1, 3) := by decide +kernel
theorem dX0_treeNumber_25 : decode cX0_treeNumber 25 = .ok (.goto (-23), 3) := by decide +kernel
theorem dX0_treeNumber_28 : decode cX0_treeNumber 28 = .ok (.iconst (-1), 1) := by decide +kernel
theorem dX0_treeNumber_29 : decode cX0_treeNumber 29 = .ok (.ireturn, 1) := by decide +kernel
theorem dX0_lesserNeighbours_0 : decode cX0_lesserNeighbours 0 = .ok (.aload_n 0, 1) := by decide +kernel
theorem dX0_lesserNeighbours_1 : decode cX0_lesserNeighbours 1 = .ok (.getfield 12, 3) := by decide +kernel
theorem dX0_lesserNeighbours_4 : decode cX0_lesserNeighbours 4 = .ok (.iload_n 1, 1) := by decide +kernel
theorem dX0_lesserNeighbours_5 : decode cX0_lesserNeighbours 5 = .ok (.invokevirtual 62, 3) := by decide +kernel
theorem dX0_lesserNeighbours_8 : decode cX0_lesserNeighbours 8 = .ok (.iload_n 1, 1) := by decide +kernel
theorem dX0_lesserNeighbours_9 : decode cX0_lesserNeighbours 9 = .ok (.invokestatic 39, 3) := by decide +kernel
theorem dX0_lesserNeighbours_12 : decode cX0_lesserNeighbours 12 = .ok (.iconst 1, 1) := by decide +kernel
theorem dX0_lesserNeighbours_13 : decode cX0_lesserNeighbours 13 = .ok (.isub, 1) := by decide +kernel
theorem dX0_lesserNeighbours_14 : decode cX0_lesserNeighbours 14 = .ok (.iand, 1) := by decide +kernel
theorem dX0_lesserNeighbours_15 : decode cX0_lesserNeighbours 15 = .ok (.ireturn, 1) := by decide +kernel
theorem dX0_lesserNeighbour_0 : decode cX0_lesserNeighbour 0 = .ok (.aload_n 0, 1) := by decide +kernel
theorem dX0_lesserNeighbour_1 : decode cX0_lesserNeighbour 1 = .ok (.iload_n 1, 1) := by decide +kernel
theorem dX0_lesserNeighbour_2 : decode cX0_lesserNeighbour 2 = .ok (.invokevirtual 75, 3) := by decide +kernel
theorem dX0_lesserNeighbour_5 : decode cX0_lesserNeighbour 5 = .ok (.istore_n 2, 1) := by decide +kernel
theorem dX0_lesserNeighbour_6 : decode cX0_lesserNeighbour 6 = .ok (.iload_n 2, 1) := by decide +kernel
theorem dX0_lesserNeighbour_7 : decode cX0_lesserNeighbour 7 = .ok (.ifCond .ne 7, 3) := by decide +kernel
theorem dX0_lesserNeighbour_10 : decode cX0_lesserNeighbour 10 = .ok (.iconst (-1), 1) := by decide +kernel
theorem dX0_lesserNeighbour_11 : decode cX0_lesserNeighbour 11 = .ok (.goto 7, 3) := by decide +kernel
theorem dX0_lesserNeighbour_14 : decode cX0_lesserNeighbour 14 = .ok (.iload_n 2, 1) := by decide +kernel
theorem dX0_lesserNeighbour_15 : decode cX0_lesserNeighbour 15 = .ok (.invokestatic 72, 3) := by decide +kernel
theorem dX0_lesserNeighbour_18 : decode cX0_lesserNeighbour 18 = .ok (.ireturn, 1) := by decide +kernel
theorem dX0_canBeWritten_0 : decode cX0_canBeWritten 0 = .ok (.iconst 0, 1) := by decide +kernel
theorem dX0_canBeWritten_1 : decode cX0_canBeWritten 1 = .ok (.istore_n 1, 1) := by decide +kernel
theorem dX0_canBeWritten_2 : decode cX0_canBeWritten 2 = .ok (.iload_n 1, 1) := by decide +kernel
theorem dX0_canBeWritten_3 : decode cX0_canBeWritten 3 = .ok (.aload_n 0, 1) := by decide +kernel
theorem dX0_canBeWritten_4 : decode cX0_canBeWritten 4 = .ok (.getfield 18, 3) := by decide +kernel
theorem dX0_canBeWritten_7 : decode cX0_canBeWritten 7 = .ok (.if_icmp .ge 23, 3) := by decide +kernel
theorem dX0_canBeWritten_10 : decode cX0_canBeWritten 10 = .ok (.aload_n 0, 1) := by decide +kernel
theorem dX0_canBeWritten_11 : decode cX0_canBeWritten 11 = .ok (.iload_n 1, 1) := by decide +kernel
theorem dX0_canBeWritten_12 : decode cX0_canBeWritten 12 = .ok (.invokevirtual 75, 3) := by decide +kernel
theorem dX0_canBeWritten_15 : decode cX0_canBeWritten 15 = .ok (.invokestatic 46, 3) := by decide +kernel
theorem dX0_canBeWritten_18 : decode cX0_canBeWritten 18 = .ok (.iconst 1, 1) := by decide +kernel
theorem dX0_canBeWritten_19 : decode cX0_canBeWritten 19 = .ok (.if_icmp .le 5, 3) := by decide +kernel
theorem dX0_canBeWritten_22 : decode cX0_canBeWritten 22 = .ok (.iconst 0, 1) := by decide +kernel
theorem dX0_canBeWritten_23 : decode cX0_canBeWritten 23 = .ok (.ireturn, 1) := by decide +kernel
theorem dX0_canBeWritten_24 : decode cX0_canBeWritten 24 = .ok (.iinc 1 1, 3) := by decide +kernel
theorem dX0_canBeWritten_27 : decode cX0_canBeWritten 27 = .ok (.goto (-25), 3) := by decide +kernel
theorem dX0_canBeWritten_30 : decode cX0_canBeWritten 30 = .ok (.iconst 1, 1) := by decide +kernel
theorem dX0_canBeWritten_31 : decode cX0_canBeWritten 31 = .ok (.ireturn, 1) := by decide +kernel
theorem dX1_init_0 : decode cX1_init 0 = .ok (.aload_n 0, 1) := by decide +kernel
theorem dX1_init_1 : decode cX1_init 1 = .ok (.invokespecial 3, 3) := by decide +kernel
theorem dX1_init_4 : decode cX1_init 4 = .ok (.aload_n 0, 1) := by decide +kernel
theorem dX1_init_5 : decode cX1_init 5 = .ok (.bipush 14, 2) := by decide +kernel
theorem dX1_init_7 : decode cX1_init 7 = .ok (.newarray .int, 2) := by decide +kernel
theorem dX1_init_9 : decode cX1_init 9 = .ok (.putfield 9, 3) := by decide +kernel
theorem dX1_init_12 : decode cX1_init 12 = .ok (.return_, 1) := by decide +kernel
theorem dX1_around_0 : decode cX1_around 0 = .ok (.iload_n 1, 1) := by decide +kernel
theorem dX1_around_1 : decode cX1_around 1 = .ok (.ifCond .lt 18, 3) := by decide +kernel
theorem dX1_around_4 : decode cX1_around 4 = .ok (.iload_n 1, 1) := by decide +kernel
theorem dX1_around_5 : decode cX1_around 5 = .ok (.bipush 14, 2) := by decide +kernel
theorem dX1_around_7 : decode cX1_around 7 = .ok (.if_icmp .ge 12, 3) := by decide +kernel
theorem dX1_around_10 : decode cX1_around 10 = .ok (.aload_n 0, 1) := by decide +kernel
theorem dX1_around_11 : decode cX1_around 11 = .ok (.getfield 9, 3) := by decide +kernel
theorem dX1_around_14 : decode cX1_around 14 = .ok (.iload_n 1, 1) := by decide +kernel
theorem dX1_around_15 : decode cX1_around 15 = .ok (.iaload, 1) := by decide +kernel
theorem dX1_around_16 : decode cX1_around 16 = .ok (.goto 4, 3) := by decide +kernel
theorem dX1_around_19 : decode cX1_around 19 = .ok (.iconst 0, 1) := by decide +kernel
theorem dX1_around_20 : decode cX1_around 20 = .ok (.ireturn, 1) := by decide +kernel
theorem dX1_takenWith_0 : decode cX1_takenWith 0 = .ok (.iload_n 1, 1) := by decide +kernel
theorem dX1_takenWith_1 : decode cX1_takenWith 1 = .ok (.ifCond .lt 22, 3) := by decide +kernel
theorem dX1_takenWith_4 : decode cX1_takenWith 4 = .ok (.iload_n 1, 1) := by decide +kernel
theorem dX1_takenWith_5 : decode cX1_takenWith 5 = .ok (.bipush 14, 2) := by decide +kernel
theorem dX1_takenWith_7 : decode cX1_takenWith 7 = .ok (.if_icmp .ge 16, 3) := by decide +kernel
theorem dX1_takenWith_10 : decode cX1_takenWith 10 = .ok (.aload_n 0, 1) := by decide +kernel
theorem dX1_takenWith_11 : decode cX1_takenWith 11 = .ok (.getfield 9, 3) := by decide +kernel
theorem dX1_takenWith_14 : decode cX1_takenWith 14 = .ok (.iload_n 1, 1) := by decide +kernel
theorem dX1_takenWith_15 : decode cX1_takenWith 15 = .ok (.iaload, 1) := by decide +kernel
theorem dX1_takenWith_16 : decode cX1_takenWith 16 = .ok (.iconst 1, 1) := by decide +kernel
theorem dX1_takenWith_17 : decode cX1_takenWith 17 = .ok (.iload_n 1, 1) := by decide +kernel
theorem dX1_takenWith_18 : decode cX1_takenWith 18 = .ok (.ishl, 1) := by decide +kernel
theorem dX1_takenWith_19 : decode cX1_takenWith 19 = .ok (.ior, 1) := by decide +kernel
theorem dX1_takenWith_20 : decode cX1_takenWith 20 = .ok (.goto 4, 3) := by decide +kernel
theorem dX1_takenWith_23 : decode cX1_takenWith 23 = .ok (.iconst 0, 1) := by decide +kernel
theorem dX1_takenWith_24 : decode cX1_takenWith 24 = .ok (.ireturn, 1) := by decide +kernel
theorem dX1_link_0 : decode cX1_link 0 = .ok (.aload_n 0, 1) := by decide +kernel
theorem dX1_link_1 : decode cX1_link 1 = .ok (.iload_n 1, 1) := by decide +kernel
theorem dX1_link_2 : decode cX1_link 2 = .ok (.aload_n 0, 1) := by decide +kernel
theorem dX1_link_3 : decode cX1_link 3 = .ok (.iload_n 1, 1) := by decide +kernel
theorem dX1_link_4 : decode cX1_link 4 = .ok (.invokevirtual 15, 3) := by decide +kernel
theorem dX1_link_7 : decode cX1_link 7 = .ok (.iload_n 2, 1) := by decide +kernel
theorem dX1_link_8 : decode cX1_link 8 = .ok (.invokestatic 19, 3) := by decide +kernel
theorem dX1_link_11 : decode cX1_link 11 = .ok (.ior, 1) := by decide +kernel
theorem dX1_link_12 : decode cX1_link 12 = .ok (.invokevirtual 22, 3) := by decide +kernel
theorem dX1_link_15 : decode cX1_link 15 = .ok (.aload_n 0, 1) := by decide +kernel
theorem dX1_link_16 : decode cX1_link 16 = .ok (.iload_n 2, 1) := by decide +kernel
theorem dX1_link_17 : decode cX1_link 17 = .ok (.aload_n 0, 1) := by decide +kernel
theorem dX1_link_18 : decode cX1_link 18 = .ok (.iload_n 2, 1) := by decide +kernel
theorem dX1_link_19 : decode cX1_link 19 = .ok (.invokevirtual 15, 3) := by decide +kernel
theorem dX1_link_22 : decode cX1_link 22 = .ok (.iload_n 1, 1) := by decide +kernel
theorem dX1_link_23 : decode cX1_link 23 = .ok (.invokestatic 19, 3) := by decide +kernel
theorem dX1_link_26 : decode cX1_link 26 = .ok (.ior, 1) := by decide +kernel
theorem dX1_link_27 : decode cX1_link 27 = .ok (.invokevirtual 22, 3) := by decide +kernel
theorem dX1_link_30 : decode cX1_link 30 = .ok (.return_, 1) := by decide +kernel
theorem dX1_unlink_0 : decode cX1_unlink 0 = .ok (.aload_n 0, 1) := by decide +kernel
theorem dX1_unlink_1 : decode cX1_unlink 1 = .ok (.iload_n 1, 1) := by decide +kernel
theorem dX1_unlink_2 : decode cX1_unlink 2 = .ok (.aload_n 0, 1) := by decide +kernel
theorem dX1_unlink_3 : decode cX1_unlink 3 = .ok (.iload_n 1, 1) := by decide +kernel
theorem dX1_unlink_4 : decode cX1_unlink 4 = .ok (.invokevirtual 15, 3) := by decide +kernel
theorem dX1_unlink_7 : decode cX1_unlink 7 = .ok (.iload_n 2, 1) := by decide +kernel
theorem dX1_unlink_8 : decode cX1_unlink 8 = .ok (.invokestatic 19, 3) := by decide +kernel
theorem dX1_unlink_11 : decode cX1_unlink 11 = .ok (.iconst (-1), 1) := by decide +kernel
theorem dX1_unlink_12 : decode cX1_unlink 12 = .ok (.ixor, 1) := by decide +kernel
theorem dX1_unlink_13 : decode cX1_unlink 13 = .ok (.iand, 1) := by decide +kernel
theorem dX1_unlink_14 : decode cX1_unlink 14 = .ok (.invokevirtual 22, 3) := by decide +kernel
theorem dX1_unlink_17 : decode cX1_unlink 17 = .ok (.aload_n 0, 1) := by decide +kernel
theorem dX1_unlink_18 : decode cX1_unlink 18 = .ok (.iload_n 2, 1) := by decide +kernel
theorem dX1_unlink_19 : decode cX1_unlink 19 = .ok (.aload_n 0, 1) := by decide +kernel
theorem dX1_unlink_20 : decode cX1_unlink 20 = .ok (.iload_n 2, 1) := by decide +kernel
theorem dX1_unlink_21 : decode cX1_unlink 21 = .ok (.invokevirtual 15, 3) := by decide +kernel
theorem dX1_unlink_24 : decode cX1_unlink 24 = .ok (.iload_n 1, 1) := by decide +kernel
theorem dX1_unlink_25 : decode cX1_unlink 25 = .ok (.invokestatic 19, 3) := by decide +kernel
theorem dX1_unlink_28 : decode cX1_unlink 28 = .ok (.iconst (-1), 1) := by decide +kernel
theorem dX1_unlink_29 : decode cX1_unlink 29 = .ok (.ixor, 1) := by decide +kernel
theorem dX1_unlink_30 : decode cX1_unlink 30 = .ok (.iand, 1) := by decide +kernel
theorem dX1_unlink_31 : decode cX1_unlink 31 = .ok (.invokevirtual 22, 3) := by decide +kernel
theorem dX1_unlink_34 : decode cX1_unlink 34 = .ok (.return_, 1) := by decide +kernel
theorem dX1_setAround_0 : decode cX1_setAround 0 = .ok (.iload_n 1, 1) := by decide +kernel
theorem dX1_setAround_1 : decode cX1_setAround 1 = .ok (.ifCond .lt 16, 3) := by decide +kernel
theorem dX1_setAround_4 : decode cX1_setAround 4 = .ok (.iload_n 1, 1) := by decide +kernel
theorem dX1_setAround_5 : decode cX1_setAround 5 = .ok (.bipush 14, 2) := by decide +kernel
theorem dX1_setAround_7 : decode cX1_setAround 7 = .ok (.if_icmp .ge 10, 3) := by decide +kernel
theorem dX1_setAround_10 : decode cX1_setAround 10 = .ok (.aload_n 0, 1) := by decide +kernel
theorem dX1_setAround_11 : decode cX1_setAround 11 = .ok (.getfield 9, 3) := by decide +kernel
theorem dX1_setAround_14 : decode cX1_setAround 14 = .ok (.iload_n 1, 1) := by decide +kernel
theorem dX1_setAround_15 : decode cX1_setAround 15 = .ok (.iload_n 2, 1) := by decide +kernel
theorem dX1_setAround_16 : decode cX1_setAround 16 = .ok (.iastore, 1) := by decide +kernel
theorem dX1_setAround_17 : decode cX1_setAround 17 = .ok (.return_, 1) := by decide +kernel
theorem dX1_wipe_0 : decode cX1_wipe 0 = .ok (.aload_n 0, 1) := by decide +kernel
theorem dX1_wipe_1 : decode cX1_wipe 1 = .ok (.getfield 9, 3) := by decide +kernel
theorem dX1_wipe_4 : decode cX1_wipe 4 = .ok (.iconst 0, 1) := by decide +kernel
theorem dX1_wipe_5 : decode cX1_wipe 5 = .ok (.invokestatic 26, 3) := by decide +kernel
theorem dX1_wipe_8 : decode cX1_wipe 8 = .ok (.return_, 1) := by decide +kernel
theorem dX1_copyFrom_0 : decode cX1_copyFrom 0 = .ok (.aload_n 1, 1) := by decide +kernel
theorem dX1_copyFrom_1 : decode cX1_copyFrom 1 = .ok (.getfield 9, 3) := by decide +kernel
theorem dX1_copyFrom_4 : decode cX1_copyFrom 4 = .ok (.iconst 0, 1) := by decide +kernel
theorem dX1_copyFrom_5 : decode cX1_copyFrom 5 = .ok (.aload_n 0, 1) := by decide +kernel
theorem dX1_copyFrom_6 : decode cX1_copyFrom 6 = .ok (.getfield 9, 3) := by decide +kernel
theorem dX1_copyFrom_9 : decode cX1_copyFrom 9 = .ok (.iconst 0, 1) := by decide +kernel
theorem dX1_copyFrom_10 : decode cX1_copyFrom 10 = .ok (.bipush 14, 2) := by decide +kernel
theorem dX1_copyFrom_12 : decode cX1_copyFrom 12 = .ok (.invokestatic 32, 3) := by decide +kernel
theorem dX1_copyFrom_15 : decode cX1_copyFrom 15 = .ok (.return_, 1) := by decide +kernel
theorem dX1_isLike_0 : decode cX1_isLike 0 = .ok (.iconst 0, 1) := by decide +kernel
theorem dX1_isLike_1 : decode cX1_isLike 1 = .ok (.istore_n 2, 1) := by decide +kernel
theorem dX1_isLike_2 : decode cX1_isLike 2 = .ok (.iload_n 2, 1) := by decide +kernel
theorem dX1_isLike_3 : decode cX1_isLike 3 = .ok (.bipush 14, 2) := by decide +kernel
theorem dX1_isLike_5 : decode cX1_isLike 5 = .ok (.if_icmp .ge 26, 3) := by decide +kernel
theorem dX1_isLike_8 : decode cX1_isLike 8 = .ok (.aload_n 0, 1) := by decide +kernel
theorem dX1_isLike_9 : decode cX1_isLike 9 = .ok (.getfield 9, 3) := by decide +kernel
theorem dX1_isLike_12 : decode cX1_isLike 12 = .ok (.iload_n 2, 1) := by decide +kernel
theorem dX1_isLike_13 : decode cX1_isLike 13 = .ok (.iaload, 1) := by decide +kernel
theorem dX1_isLike_14 : decode cX1_isLike 14 = .ok (.aload_n 1, 1) := by decide +kernel
theorem dX1_isLike_15 : decode cX1_isLike 15 = .ok (.getfield 9, 3) := by decide +kernel
theorem dX1_isLike_18 : decode cX1_isLike 18 = .ok (.iload_n 2, 1) := by decide +kernel
theorem dX1_isLike_19 : decode cX1_isLike 19 = .ok (.iaload, 1) := by decide +kernel
theorem dX1_isLike_20 : decode cX1_isLike 20 = .ok (.if_icmp .eq 5, 3) := by decide +kernel
theorem dX1_isLike_23 : decode cX1_isLike 23 = .ok (.iconst 0, 1) := by decide +kernel
theorem dX1_isLike_24 : decode cX1_isLike 24 = .ok (.ireturn, 1) := by decide +kernel
theorem dX1_isLike_25 : decode cX1_isLike 25 = .ok (.iinc 2 1, 3) := by decide +kernel
theorem dX1_isLike_28 : decode cX1_isLike 28 = .ok (.goto (-26), 3) := by decide +kernel
theorem dX1_isLike_31 : decode cX1_isLike 31 = .ok (.iconst 1, 1) := by decide +kernel
theorem dX1_isLike_32 : decode cX1_isLike 32 = .ok (.ireturn, 1) := by decide +kernel
theorem dX1_reach_0 : decode cX1_reach 0 = .ok (.iload_n 1, 1) := by decide +kernel
theorem dX1_reach_1 : decode cX1_reach 1 = .ok (.invokestatic 19, 3) := by decide +kernel
theorem dX1_reach_4 : decode cX1_reach 4 = .ok (.iload_n 2, 1) := by decide +kernel
theorem dX1_reach_5 : decode cX1_reach 5 = .ok (.iand, 1) := by decide +kernel
theorem dX1_reach_6 : decode cX1_reach 6 = .ok (.istore_n 3, 1) := by decide +kernel
theorem dX1_reach_7 : decode cX1_reach 7 = .ok (.iload_n 3, 1) := by decide +kernel
theorem dX1_reach_8 : decode cX1_reach 8 = .ok (.istore 4, 2) := by decide +kernel
theorem dX1_reach_10 : decode cX1_reach 10 = .ok (.iconst 0, 1) := by decide +kernel
theorem dX1_reach_11 : decode cX1_reach 11 = .ok (.istore 5, 2) := by decide +kernel
theorem dX1_reach_13 : decode cX1_reach 13 = .ok (.iload 5, 2) := by decide +kernel
theorem dX1_reach_15 : decode cX1_reach 15 = .ok (.bipush 14, 2) := by decide +kernel
theorem dX1_reach_17 : decode cX1_reach 17 = .ok (.if_icmp .ge 55, 3) := by decide +kernel
theorem dX1_reach_20 : decode cX1_reach 20 = .ok (.iload 4, 2) := by decide +kernel
theorem dX1_reach_22 : decode cX1_reach 22 = .ok (.ifCond .eq 50, 3) := by decide +kernel
theorem dX1_reach_25 : decode cX1_reach 25 = .ok (.iload 4, 2) := by decide +kernel
theorem dX1_reach_27 : decode cX1_reach 27 = .ok (.invokestatic 38, 3) := by decide +kernel
theorem dX1_reach_30 : decode cX1_reach 30 = .ok (.istore 6, 2) := by decide +kernel
theorem dX1_reach_32 : decode cX1_reach 32 = .ok (.aload_n 0, 1) := by decide +kernel
theorem dX1_reach_33 : decode cX1_reach 33 = .ok (.iload 6, 2) := by decide +kernel
theorem dX1_reach_35 : decode cX1_reach 35 = .ok (.invokevirtual 15, 3) := by decide +kernel
theorem dX1_reach_38 : decode cX1_reach 38 = .ok (.iload_n 2, 1) := by decide +kernel
theorem dX1_reach_39 : decode cX1_reach 39 = .ok (.iand, 1) := by decide +kernel
theorem dX1_reach_40 : decode cX1_reach 40 = .ok (.iload_n 3, 1) := by decide +kernel
theorem dX1_reach_41 : decode cX1_reach 41 = .ok (.iconst (-1), 1) := by decide +kernel
theorem dX1_reach_42 : decode cX1_reach 42 = .ok (.ixor, 1) := by decide +kernel
theorem dX1_reach_43 : decode cX1_reach 43 = .ok (.iand, 1) := by decide +kernel
theorem dX1_reach_44 : decode cX1_reach 44 = .ok (.istore 7, 2) := by decide +kernel
theorem dX1_reach_46 : decode cX1_reach 46 = .ok (.iload_n 3, 1) := by decide +kernel
theorem dX1_reach_47 : decode cX1_reach 47 = .ok (.iload 7, 2) := by decide +kernel
theorem dX1_reach_49 : decode cX1_reach 49 = .ok (.ior, 1) := by decide +kernel
theorem dX1_reach_50 : decode cX1_reach 50 = .ok (.istore_n 3, 1) := by decide +kernel
theorem dX1_reach_51 : decode cX1_reach 51 = .ok (.iload 4, 2) := by decide +kernel
theorem dX1_reach_53 : decode cX1_reach 53 = .ok (.iload 7, 2) := by decide +kernel
theorem dX1_reach_55 : decode cX1_reach 55 = .ok (.ior, 1) := by decide +kernel
theorem dX1_reach_56 : decode cX1_reach 56 = .ok (.iload 6, 2) := by decide +kernel
theorem dX1_reach_58 : decode cX1_reach 58 = .ok (.invokestatic 19, 3) := by decide +kernel
theorem dX1_reach_61 : decode cX1_reach 61 = .ok (.iconst (-1), 1) := by decide +kernel
theorem dX1_reach_62 : decode cX1_reach 62 = .ok (.ixor, 1) := by decide +kernel
theorem dX1_reach_63 : decode cX1_reach 63 = .ok (.iand, 1) := by decide +kernel
theorem dX1_reach_64 : decode cX1_reach 64 = .ok (.istore 4, 2) := by decide +kernel
theorem dX1_reach_66 : decode cX1_reach 66 = .ok (.iinc 5 1, 3) := by decide +kernel
theorem dX1_reach_69 : decode cX1_reach 69 = .ok (.goto (-56), 3) := by decide +kernel
theorem dX1_reach_72 : decode cX1_reach 72 = .ok (.iload_n 3, 1) := by decide +kernel
theorem dX1_reach_73 : decode cX1_reach 73 = .ok (.ireturn, 1) := by decide +kernel
theorem dX1_edgesIn_0 : decode cX1_edgesIn 0 = .ok (.iconst 0, 1) := by decide +kernel
theorem dX1_edgesIn_1 : decode cX1_edgesIn 1 = .ok (.istore_n 2, 1) := by decide +kernel
theorem dX1_edgesIn_2 : decode cX1_edgesIn 2 = .ok (.iconst 0, 1) := by decide +kernel
theorem dX1_edgesIn_3 : decode cX1_edgesIn 3 = .ok (.istore_n 3, 1) := by decide +kernel
theorem dX1_edgesIn_4 : decode cX1_edgesIn 4 = .ok (.iload_n 3, 1) := by decide +kernel
theorem dX1_edgesIn_5 : decode cX1_edgesIn 5 = .ok (.bipush 14, 2) := by decide +kernel
theorem dX1_edgesIn_7 : decode cX1_edgesIn 7 = .ok (.if_icmp .ge 30, 3) := by decide +kernel
theorem dX1_edgesIn_10 : decode cX1_edgesIn 10 = .ok (.iload_n 1, 1) := by decide +kernel
theorem dX1_edgesIn_11 : decode cX1_edgesIn 11 = .ok (.iload_n 3, 1) := by decide +kernel
theorem dX1_edgesIn_12 : decode cX1_edgesIn 12 = .ok (.invokestatic 43, 3) := by decide +kernel
theorem dX1_edgesIn_15 : decode cX1_edgesIn 15 = .ok (.ifCond .eq 16, 3) := by decide +kernel
theorem dX1_edgesIn_18 : decode cX1_edgesIn 18 = .ok (.iload_n 2, 1) := by decide +kernel
theorem dX1_edgesIn_19 : decode cX1_edgesIn 19 = .ok (.aload_n 0, 1) := by decide +kernel
theorem dX1_edgesIn_20 : decode cX1_edgesIn 20 = .ok (.iload_n 3, 1) := by decide +kernel
theorem dX1_edgesIn_21 : decode cX1_edgesIn 21 = .ok (.invokevirtual 15, 3) := by decide +kernel
theorem dX1_edgesIn_24 : decode cX1_edgesIn 24 = .ok (.iload_n 1, 1) := by decide +kernel
theorem dX1_edgesIn_25 : decode cX1_edgesIn 25 = .ok (.iand, 1) := by decide +kernel
theorem dX1_edgesIn_26 : decode cX1_edgesIn 26 = .ok (.invokestatic 47, 3) := by decide +kernel
theorem dX1_edgesIn_29 : decode cX1_edgesIn 29 = .ok (.iadd, 1) := by decide +kernel
theorem dX1_edgesIn_30 : decode cX1_edgesIn 30 = .ok (.istore_n 2, 1) := by decide +kernel
theorem dX1_edgesIn_31 : decode cX1_edgesIn 31 = .ok (.iinc 3 1, 3) := by decide +kernel
theorem dX1_edgesIn_34 : decode cX1_edgesIn 34 = .ok (.goto (-30), 3) := by decide +kernel
theorem dX1_edgesIn_37 : decode cX1_edgesIn 37 = .ok (.iload_n 2, 1) := by decide +kernel
theorem dX1_edgesIn_38 : decode cX1_edgesIn 38 = .ok (.iconst 2, 1) := by decide +kernel
theorem dX1_edgesIn_39 : decode cX1_edgesIn 39 = .ok (.idiv, 1) := by decide +kernel
theorem dX1_edgesIn_40 : decode cX1_edgesIn 40 = .ok (.ireturn, 1) := by decide +kernel
theorem dX1_longestWay_0 : decode cX1_longestWay 0 = .ok (.iconst 0, 1) := by decide +kernel
theorem dX1_longestWay_1 : decode cX1_longestWay 1 = .ok (.istore_n 2, 1) := by decide +kernel
theorem dX1_longestWay_2 : decode cX1_longestWay 2 = .ok (.iconst 0, 1) := by decide +kernel
theorem dX1_longestWay_3 : decode cX1_longestWay 3 = .ok (.istore_n 3, 1) := by decide +kernel
theorem dX1_longestWay_4 : decode cX1_longestWay 4 = .ok (.iload_n 3, 1) := by decide +kernel
theorem dX1_longestWay_5 : decode cX1_longestWay 5 = .ok (.bipush 14, 2) := by decide +kernel
theorem dX1_longestWay_7 : decode cX1_longestWay 7 = .ok (.if_icmp .ge 28, 3) := by decide +kernel
theorem dX1_longestWay_10 : decode cX1_longestWay 10 = .ok (.iload_n 1, 1) := by decide +kernel
theorem dX1_longestWay_11 : decode cX1_longestWay 11 = .ok (.iload_n 3, 1) := by decide +kernel
theorem dX1_longestWay_12 : decode cX1_longestWay 12 = .ok (.invokestatic 43, 3) := by decide +kernel
theorem dX1_longestWay_15 : decode cX1_longestWay 15 = .ok (.ifCond .eq 14, 3) := by decide +kernel
theorem dX1_longestWay_18 : decode cX1_longestWay 18 = .ok (.iload_n 2, 1) := by decide +kernel
theorem dX1_longestWay_19 : decode cX1_longestWay 19 = .ok (.aload_n 0, 1) := by decide +kernel
theorem dX1_longestWay_20 : decode cX1_longestWay 20 = .ok (.iload_n 3, 1) := by decide +kernel
theorem dX1_longestWay_21 : decode cX1_longestWay 21 = .ok (.iload_n 1, 1) := by decide +kernel
theorem dX1_longestWay_22 : decode cX1_longestWay 22 = .ok (.invokevirtual 50, 3) := by decide +kernel
theorem dX1_longestWay_25 : decode cX1_longestWay 25 = .ok (.invokestatic 54, 3) := by decide +kernel
theorem dX1_longestWay_28 : decode cX1_longestWay 28 = .ok (.istore_n 2, 1) := by decide +kernel
theorem dX1_longestWay_29 : decode cX1_longestWay 29 = .ok (.iinc 3 1, 3) := by decide +kernel
theorem dX1_longestWay_32 : decode cX1_longestWay 32 = .ok (.goto (-28), 3) := by decide +kernel
theorem dX1_longestWay_35 : decode cX1_longestWay 35 = .ok (.iload_n 2, 1) := by decide +kernel
theorem dX1_longestWay_36 : decode cX1_longestWay 36 = .ok (.ireturn, 1) := by decide +kernel
theorem dX1_longestWayFrom_0 : decode cX1_longestWayFrom 0 = .ok (.iload_n 1, 1) := by decide +kernel
theorem dX1_longestWayFrom_1 : decode cX1_longestWayFrom 1 = .ok (.invokestatic 19, 3) := by decide +kernel
theorem dX1_longestWayFrom_4 : decode cX1_longestWayFrom 4 = .ok (.istore_n 3, 1) := by decide +kernel
theorem dX1_longestWayFrom_5 : decode cX1_longestWayFrom 5 = .ok (.iconst 0, 1) := by decide +kernel
theorem dX1_longestWayFrom_6 : decode cX1_longestWayFrom 6 = .ok (.istore 4, 2) := by decide +kernel
theorem dX1_longestWayFrom_8 : decode cX1_longestWayFrom 8 = .ok (.iconst 1, 1) := by decide +kernel
theorem dX1_longestWayFrom_9 : decode cX1_longestWayFrom 9 = .ok (.istore 5, 2) := by decide +kernel
theorem dX1_longestWayFrom_11 : decode cX1_longestWayFrom 11 = .ok (.iload 5, 2) := by decide +kernel
theorem dX1_longestWayFrom_13 : decode cX1_longestWayFrom 13 = .ok (.bipush 14, 2) := by decide +kernel
theorem dX1_longestWayFrom_15 : decode cX1_longestWayFrom 15 = .ok (.if_icmp .ge 33, 3) := by decide +kernel
theorem dX1_longestWayFrom_18 : decode cX1_longestWayFrom 18 = .ok (.iload_n 3, 1) := by decide +kernel
theorem dX1_longestWayFrom_19 : decode cX1_longestWayFrom 19 = .ok (.aload_n 0, 1) := by decide +kernel
theorem dX1_longestWayFrom_20 : decode cX1_longestWayFrom 20 = .ok (.iload_n 3, 1) := by decide +kernel
theorem dX1_longestWayFrom_21 : decode cX1_longestWayFrom 21 = .ok (.invokevirtual 59, 3) := by decide +kernel
theorem dX1_longestWayFrom_24 : decode cX1_longestWayFrom 24 = .ok (.iload_n 2, 1) := by decide +kernel
theorem dX1_longestWayFrom_25 : decode cX1_longestWayFrom 25 = .ok (.iand, 1) := by decide +kernel
theorem dX1_longestWayFrom_26 : decode cX1_longestWayFrom 26 = .ok (.ior, 1) := by decide +kernel
theorem dX1_longestWayFrom_27 : decode cX1_longestWayFrom 27 = .ok (.istore 6, 2) := by decide +kernel
theorem dX1_longestWayFrom_29 : decode cX1_longestWayFrom 29 = .ok (.iload 6, 2) := by decide +kernel
theorem dX1_longestWayFrom_31 : decode cX1_longestWayFrom 31 = .ok (.iload_n 3, 1) := by decide +kernel
theorem dX1_longestWayFrom_32 : decode cX1_longestWayFrom 32 = .ok (.if_icmp .eq 7, 3) := by decide +kernel
theorem dX1_longestWayFrom_35 : decode cX1_longestWayFrom 35 = .ok (.iload 5, 2) := by decide +kernel
theorem dX1_longestWayFrom_37 : decode cX1_longestWayFrom 37 = .ok (.istore 4, 2) := by decide +kernel
theorem dX1_longestWayFrom_39 : decode cX1_longestWayFrom 39 = .ok (.iload 6, 2) := by decide +kernel
theorem dX1_longestWayFrom_41 : decode cX1_longestWayFrom 41 = .ok (.istore_n 3, 1) := by decide +kernel
theorem dX1_longestWayFrom_42 : decode cX1_longestWayFrom 42 = .ok (.iinc 5 1, 3) := by decide +kernel
theorem dX1_longestWayFrom_45 : decode cX1_longestWayFrom 45 = .ok (.goto (-34), 3) := by decide +kernel
theorem dX1_longestWayFrom_48 : decode cX1_longestWayFrom 48 = .ok (.iload 4, 2) := by decide +kernel
theorem dX1_longestWayFrom_50 : decode cX1_longestWayFrom 50 = .ok (.ireturn, 1) := by decide +kernel
theorem dX1_aroundAny_0 : decode cX1_aroundAny 0 = .ok (.iconst 0, 1) := by decide +kernel
theorem dX1_aroundAny_1 : decode cX1_aroundAny 1 = .ok (.istore_n 2, 1) := by decide +kernel
theorem dX1_aroundAny_2 : decode cX1_aroundAny 2 = .ok (.iconst 0, 1) := by decide +kernel
theorem dX1_aroundAny_3 : decode cX1_aroundAny 3 = .ok (.istore_n 3, 1) := by decide +kernel
theorem dX1_aroundAny_4 : decode cX1_aroundAny 4 = .ok (.iload_n 3, 1) := by decide +kernel
theorem dX1_aroundAny_5 : decode cX1_aroundAny 5 = .ok (.bipush 14, 2) := by decide +kernel
theorem dX1_aroundAny_7 : decode cX1_aroundAny 7 = .ok (.if_icmp .ge 26, 3) := by decide +kernel
theorem dX1_aroundAny_10 : decode cX1_aroundAny 10 = .ok (.iload_n 1, 1) := by decide +kernel
theorem dX1_aroundAny_11 : decode cX1_aroundAny 11 = .ok (.iload_n 3, 1) := by decide +kernel
theorem dX1_aroundAny_12 : decode cX1_aroundAny 12 = .ok (.invokestatic 43, 3) := by decide +kernel
theorem dX1_aroundAny_15 : decode cX1_aroundAny 15 = .ok (.ifCond .eq 12, 3) := by decide +kernel
theorem dX1_aroundAny_18 : decode cX1_aroundAny 18 = .ok (.iload_n 2, 1) := by decide +kernel
theorem dX1_aroundAny_19 : decode cX1_aroundAny 19 = .ok (.aload_n 0, 1) := by decide +kernel
theorem dX1_aroundAny_20 : decode cX1_aroundAny 20 = .ok (.getfield 9, 3) := by decide +kernel
theorem dX1_aroundAny_23 : decode cX1_aroundAny 23 = .ok (.iload_n 3, 1) := by decide +kernel
theorem dX1_aroundAny_24 : decode cX1_aroundAny 24 = .ok (.iaload, 1) := by decide +kernel
theorem dX1_aroundAny_25 : decode cX1_aroundAny 25 = .ok (.ior, 1) := by decide +kernel
theorem dX1_aroundAny_26 : decode cX1_aroundAny 26 = .ok (.istore_n 2, 1) := by decide +kernel
theorem dX1_aroundAny_27 : decode cX1_aroundAny 27 = .ok (.iinc 3 1, 3) := by decide +kernel
theorem dX1_aroundAny_30 : decode cX1_aroundAny 30 = .ok (.goto (-26), 3) := by decide +kernel
theorem dX1_aroundAny_33 : decode cX1_aroundAny 33 = .ok (.iload_n 2, 1) := by decide +kernel
theorem dX1_aroundAny_34 : decode cX1_aroundAny 34 = .ok (.ireturn, 1) := by decide +kernel
theorem dX2_init_0 : decode cX2_init 0 = .ok (.aload_n 0, 1) := by decide +kernel
theorem dX2_init_1 : decode cX2_init 1 = .ok (.invokespecial 3, 3) := by decide +kernel
theorem dX2_init_4 : decode cX2_init 4 = .ok (.aload_n 0, 1) := by decide +kernel
theorem dX2_init_5 : decode cX2_init 5 = .ok (.bipush 6, 2) := by decide +kernel
theorem dX2_init_7 : decode cX2_init 7 = .ok (.anewarray 9, 3) := by decide +kernel
theorem dX2_init_10 : decode cX2_init 10 = .ok (.putfield 11, 3) := by decide +kernel
theorem dX2_init_13 : decode cX2_init 13 = .ok (.aload_n 0, 1) := by decide +kernel
theorem dX2_init_14 : decode cX2_init 14 = .ok (.iconst 0, 1) := by decide +kernel
theorem dX2_init_15 : decode cX2_init 15 = .ok (.putfield 17, 3) := by decide +kernel
theorem dX2_init_18 : decode cX2_init 18 = .ok (.aload_n 0, 1) := by decide +kernel
theorem dX2_init_19 : decode cX2_init 19 = .ok (.iconst 0, 1) := by decide +kernel
theorem dX2_init_20 : decode cX2_init 20 = .ok (.putfield 21, 3) := by decide +kernel
theorem dX2_init_23 : decode cX2_init 23 = .ok (.iconst 0, 1) := by decide +kernel
theorem dX2_init_24 : decode cX2_init 24 = .ok (.istore_n 1, 1) := by decide +kernel
theorem dX2_init_25 : decode cX2_init 25 = .ok (.iload_n 1, 1) := by decide +kernel
theorem dX2_init_26 : decode cX2_init 26 = .ok (.bipush 6, 2) := by decide +kernel
theorem dX2_init_28 : decode cX2_init 28 = .ok (.if_icmp .ge 22, 3) := by decide +kernel
theorem dX2_init_31 : decode cX2_init 31 = .ok (.aload_n 0, 1) := by decide +kernel
theorem dX2_init_32 : decode cX2_init 32 = .ok (.getfield 11, 3) := by decide +kernel
theorem dX2_init_35 : decode cX2_init 35 = .ok (.iload_n 1, 1) := by decide +kernel
theorem dX2_init_36 : decode cX2_init 36 = .ok (.new 9, 3) := by decide +kernel
theorem dX2_init_39 : decode cX2_init 39 = .ok (.dup, 1) := by decide +kernel
theorem dX2_init_40 : decode cX2_init 40 = .ok (.invokespecial 24, 3) := by decide +kernel
theorem dX2_init_43 : decode cX2_init 43 = .ok (.aastore, 1) := by decide +kernel
theorem dX2_init_44 : decode cX2_init 44 = .ok (.iinc 1 1, 3) := by decide +kernel
theorem dX2_init_47 : decode cX2_init 47 = .ok (.goto (-22), 3) := by decide +kernel
theorem dX2_init_50 : decode cX2_init 50 = .ok (.return_, 1) := by decide +kernel
theorem dX2_save_0 : decode cX2_save 0 = .ok (.aload_n 0, 1) := by decide +kernel
theorem dX2_save_1 : decode cX2_save 1 = .ok (.getfield 21, 3) := by decide +kernel
theorem dX2_save_4 : decode cX2_save 4 = .ok (.bipush 6, 2) := by decide +kernel
theorem dX2_save_6 : decode cX2_save 6 = .ok (.if_icmp .lt 21, 3) := by decide +kernel
theorem dX2_save_9 : decode cX2_save 9 = .ok (.aload_n 0, 1) := by decide +kernel
theorem dX2_save_10 : decode cX2_save 10 = .ok (.aload_n 0, 1) := by decide +kernel
theorem dX2_save_11 : decode cX2_save 11 = .ok (.getfield 17, 3) := by decide +kernel
theorem dX2_save_14 : decode cX2_save 14 = .ok (.iconst 1, 1) := by decide +kernel
theorem dX2_save_15 : decode cX2_save 15 = .ok (.iadd, 1) := by decide +kernel
theorem dX2_save_16 : decode cX2_save 16 = .ok (.bipush 6, 2) := by decide +kernel
theorem dX2_save_18 : decode cX2_save 18 = .ok (.irem, 1) := by decide +kernel
theorem dX2_save_19 : decode cX2_save 19 = .ok (.putfield 17, 3) := by decide +kernel
theorem dX2_save_22 : decode cX2_save 22 = .ok (.aload_n 0, 1) := by decide +kernel
theorem dX2_save_23 : decode cX2_save 23 = .ok (.iconst 5, 1) := by decide +kernel
theorem dX2_save_24 : decode cX2_save 24 = .ok (.putfield 21, 3) := by decide +kernel
theorem dX2_save_27 : decode cX2_save 27 = .ok (.aload_n 0, 1) := by decide +kernel
theorem dX2_save_28 : decode cX2_save 28 = .ok (.getfield 11, 3) := by decide +kernel
theorem dX2_save_31 : decode cX2_save 31 = .ok (.aload_n 0, 1) := by decide +kernel
theorem dX2_save_32 : decode cX2_save 32 = .ok (.getfield 17, 3) := by decide +kernel
theorem dX2_save_35 : decode cX2_save 35 = .ok (.aload_n 0, 1) := by decide +kernel
theorem dX2_save_36 : decode cX2_save 36 = .ok (.getfield 21, 3) := by decide +kernel
theorem dX2_save_39 : decode cX2_save 39 = .ok (.iadd, 1) := by decide +kernel
theorem dX2_save_40 : decode cX2_save 40 = .ok (.bipush 6, 2) := by decide +kernel
theorem dX2_save_42 : decode cX2_save 42 = .ok (.invokestatic 25, 3) := by decide +kernel
theorem dX2_save_45 : decode cX2_save 45 = .ok (.aaload, 1) := by decide +kernel
theorem dX2_save_46 : decode cX2_save 46 = .ok (.astore_n 2, 1) := by decide +kernel
theorem dX2_save_47 : decode cX2_save 47 = .ok (.aload_n 2, 1) := by decide +kernel
theorem dX2_save_48 : decode cX2_save 48 = .ok (.ifnull 8, 3) := by decide +kernel
theorem dX2_save_51 : decode cX2_save 51 = .ok (.aload_n 2, 1) := by decide +kernel
theorem dX2_save_52 : decode cX2_save 52 = .ok (.aload_n 1, 1) := by decide +kernel
theorem dX2_save_53 : decode cX2_save 53 = .ok (.invokevirtual 31, 3) := by decide +kernel
theorem dX2_save_56 : decode cX2_save 56 = .ok (.aload_n 0, 1) := by decide +kernel
theorem dX2_save_57 : decode cX2_save 57 = .ok (.dup, 1) := by decide +kernel
theorem dX2_save_58 : decode cX2_save 58 = .ok (.getfield 21, 3) := by decide +kernel
theorem dX2_save_61 : decode cX2_save 61 = .ok (.iconst 1, 1) := by decide +kernel
theorem dX2_save_62 : decode cX2_save 62 = .ok (.iadd, 1) := by decide +kernel
theorem dX2_save_63 : decode cX2_save 63 = .ok (.putfield 21, 3) := by decide +kernel
theorem dX2_save_66 : decode cX2_save 66 = .ok (.return_, 1) := by decide +kernel
theorem dX2_restore_0 : decode cX2_restore 0 = .ok (.aload_n 0, 1) := by decide +kernel
theorem dX2_restore_1 : decode cX2_restore 1 = .ok (.getfield 21, 3) := by decide +kernel
theorem dX2_restore_4 : decode cX2_restore 4 = .ok (.ifCond .gt 4, 3) := by decide +kernel
theorem dX2_restore_7 : decode cX2_restore 7 = .ok (.return_, 1) := by decide +kernel
theorem dX2_restore_8 : decode cX2_restore 8 = .ok (.aload_n 0, 1) := by decide +kernel
theorem dX2_restore_9 : decode cX2_restore 9 = .ok (.dup, 1) := by decide +kernel
theorem dX2_restore_10 : decode cX2_restore 10 = .ok (.getfield 21, 3) := by decide +kernel
theorem dX2_restore_13 : decode cX2_restore 13 = .ok (.iconst 1, 1) := by decide +kernel
theorem dX2_restore_14 : decode cX2_restore 14 = .ok (.isub, 1) := by decide +kernel
theorem dX2_restore_15 : decode cX2_restore 15 = .ok (.putfield 21, 3) := by decide +kernel
theorem dX2_restore_18 : decode cX2_restore 18 = .ok (.aload_n 0, 1) := by decide +kernel
theorem dX2_restore_19 : decode cX2_restore 19 = .ok (.getfield 11, 3) := by decide +kernel
theorem dX2_restore_22 : decode cX2_restore 22 = .ok (.aload_n 0, 1) := by decide +kernel
theorem dX2_restore_23 : decode cX2_restore 23 = .ok (.getfield 17, 3) := by decide +kernel
theorem dX2_restore_26 : decode cX2_restore 26 = .ok (.aload_n 0, 1) := by decide +kernel
theorem dX2_restore_27 : decode cX2_restore 27 = .ok (.getfield 21, 3) := by decide +kernel
theorem dX2_restore_30 : decode cX2_restore 30 = .ok (.iadd, 1) := by decide +kernel
theorem dX2_restore_31 : decode cX2_restore 31 = .ok (.bipush 6, 2) := by decide +kernel
theorem dX2_restore_33 : decode cX2_restore 33 = .ok (.invokestatic 25, 3) := by decide +kernel
theorem dX2_restore_36 : decode cX2_restore 36 = .ok (.aaload, 1) := by decide +kernel
theorem dX2_restore_37 : decode cX2_restore 37 = .ok (.astore_n 2, 1) := by decide +kernel
theorem dX2_restore_38 : decode cX2_restore 38 = .ok (.aload_n 2, 1) := by decide +kernel
theorem dX2_restore_39 : decode cX2_restore 39 = .ok (.ifnull 8, 3) := by decide +kernel
theorem dX2_restore_42 : decode cX2_restore 42 = .ok (.aload_n 1, 1) := by decide +kernel
theorem dX2_restore_43 : decode cX2_restore 43 = .ok (.aload_n 2, 1) := by decide +kernel
theorem dX2_restore_44 : decode cX2_restore 44 = .ok (.invokevirtual 31, 3) := by decide +kernel
theorem dX2_restore_47 : decode cX2_restore 47 = .ok (.return_, 1) := by decide +kernel
theorem dX3_init_0 : decode cX3_init 0 = .ok (.aload_n 0, 1) := by decide +kernel
theorem dX3_init_1 : decode cX3_init 1 = .ok (.invokespecial 3, 3) := by decide +kernel
theorem dX3_init_4 : decode cX3_init 4 = .ok (.aload_n 0, 1) := by decide +kernel
theorem dX3_init_5 : decode cX3_init 5 = .ok (.new 9, 3) := by decide +kernel
theorem dX3_init_8 : decode cX3_init 8 = .ok (.dup, 1) := by decide +kernel
theorem dX3_init_9 : decode cX3_init 9 = .ok (.invokespecial 11, 3) := by decide +kernel
theorem dX3_init_12 : decode cX3_init 12 = .ok (.putfield 12, 3) := by decide +kernel
theorem dX3_init_15 : decode cX3_init 15 = .ok (.aload_n 0, 1) := by decide +kernel
theorem dX3_init_16 : decode cX3_init 16 = .ok (.sipush 16384, 3) := by decide +kernel
theorem dX3_init_19 : decode cX3_init 19 = .ok (.newarray .int, 2) := by decide +kernel
theorem dX3_init_21 : decode cX3_init 21 = .ok (.putfield 18, 3) := by decide +kernel
theorem dX3_init_24 : decode cX3_init 24 = .ok (.return_, 1) := by decide +kernel
theorem dX3_follow_0 : decode cX3_follow 0 = .ok (.aload_n 0, 1) := by decide +kernel
theorem dX3_follow_1 : decode cX3_follow 1 = .ok (.getfield 12, 3) := by decide +kernel
theorem dX3_follow_4 : decode cX3_follow 4 = .ok (.aload_n 1, 1) := by decide +kernel
theorem dX3_follow_5 : decode cX3_follow 5 = .ok (.invokevirtual 22, 3) := by decide +kernel
theorem dX3_follow_8 : decode cX3_follow 8 = .ok (.ifCond .ne 19, 3) := by decide +kernel
theorem dX3_follow_11 : decode cX3_follow 11 = .ok (.aload_n 0, 1) := by decide +kernel
theorem dX3_follow_12 : decode cX3_follow 12 = .ok (.getfield 12, 3) := by decide +kernel
theorem dX3_follow_15 : decode cX3_follow 15 = .ok (.aload_n 1, 1) := by decide +kernel
theorem dX3_follow_16 : decode cX3_follow 16 = .ok (.invokevirtual 26, 3) := by decide +kernel
theorem dX3_follow_19 : decode cX3_follow 19 = .ok (.aload_n 0, 1) := by decide +kernel
theorem dX3_follow_20 : decode cX3_follow 20 = .ok (.getfield 18, 3) := by decide +kernel
theorem dX3_follow_23 : decode cX3_follow 23 = .ok (.iconst 0, 1) := by decide +kernel
theorem dX3_follow_24 : decode cX3_follow 24 = .ok (.invokestatic 30, 3) := by decide +kernel
theorem dX3_follow_27 : decode cX3_follow 27 = .ok (.return_, 1) := by decide +kernel
theorem dX3_valueFor_0 : decode cX3_valueFor 0 = .ok (.aload_n 0, 1) := by decide +kernel
theorem dX3_valueFor_1 : decode cX3_valueFor 1 = .ok (.iload_n 1, 1) := by decide +kernel
theorem dX3_valueFor_2 : decode cX3_valueFor 2 = .ok (.iconst 0, 1) := by decide +kernel
theorem dX3_valueFor_3 : decode cX3_valueFor 3 = .ok (.invokevirtual 36, 3) := by decide +kernel
theorem dX3_valueFor_6 : decode cX3_valueFor 6 = .ok (.sipush 255, 3) := by decide +kernel
theorem dX3_valueFor_9 : decode cX3_valueFor 9 = .ok (.iand, 1) := by decide +kernel
theorem dX3_valueFor_10 : decode cX3_valueFor 10 = .ok (.ireturn, 1) := by decide +kernel
theorem dX3_shortestFor_0 : decode cX3_shortestFor 0 = .ok (.aload_n 0, 1) := by decide +kernel
theorem dX3_shortestFor_1 : decode cX3_shortestFor 1 = .ok (.iload_n 1, 1) := by decide +kernel
theorem dX3_shortestFor_2 : decode cX3_shortestFor 2 = .ok (.iconst 0, 1) := by decide +kernel
theorem dX3_shortestFor_3 : decode cX3_shortestFor 3 = .ok (.invokevirtual 36, 3) := by decide +kernel
theorem dX3_shortestFor_6 : decode cX3_shortestFor 6 = .ok (.bipush 8, 2) := by decide +kernel
theorem dX3_shortestFor_8 : decode cX3_shortestFor 8 = .ok (.ishr, 1) := by decide +kernel
theorem dX3_shortestFor_9 : decode cX3_shortestFor 9 = .ok (.sipush 255, 3) := by decide +kernel
theorem dX3_shortestFor_12 : decode cX3_shortestFor 12 = .ok (.iand, 1) := by decide +kernel
theorem dX3_shortestFor_13 : decode cX3_shortestFor 13 = .ok (.ireturn, 1) := by decide +kernel
theorem dX3_longestFor_0 : decode cX3_longestFor 0 = .ok (.aload_n 0, 1) := by decide +kernel
theorem dX3_longestFor_1 : decode cX3_longestFor 1 = .ok (.iload_n 1, 1) := by decide +kernel
theorem dX3_longestFor_2 : decode cX3_longestFor 2 = .ok (.iconst 0, 1) := by decide +kernel
theorem dX3_longestFor_3 : decode cX3_longestFor 3 = .ok (.invokevirtual 36, 3) := by decide +kernel
theorem dX3_longestFor_6 : decode cX3_longestFor 6 = .ok (.bipush 16, 2) := by decide +kernel
theorem dX3_longestFor_8 : decode cX3_longestFor 8 = .ok (.ishr, 1) := by decide +kernel
theorem dX3_longestFor_9 : decode cX3_longestFor 9 = .ok (.sipush 255, 3) := by decide +kernel
theorem dX3_longestFor_12 : decode cX3_longestFor 12 = .ok (.iand, 1) := by decide +kernel
theorem dX3_longestFor_13 : decode cX3_longestFor 13 = .ok (.ireturn, 1) := by decide +kernel
theorem dX3_isMisereWonFor_0 : decode cX3_isMisereWonFor 0 = .ok (.aload_n 0, 1) := by decide +kernel
theorem dX3_isMisereWonFor_1 : decode cX3_isMisereWonFor 1 = .ok (.iload_n 1, 1) := by decide +kernel
theorem dX3_isMisereWonFor_2 : decode cX3_isMisereWonFor 2 = .ok (.iconst 0, 1) := by decide +kernel
theorem dX3_isMisereWonFor_3 : decode cX3_isMisereWonFor 3 = .ok (.invokevirtual 40, 3) := by decide +kernel
theorem dX3_isMisereWonFor_6 : decode cX3_isMisereWonFor 6 = .ok (.ireturn, 1) := by decide +kernel
theorem dX3_pack_0 : decode cX3_pack 0 = .ok (.iload_n 0, 1) := by decide +kernel
theorem dX3_pack_1 : decode cX3_pack 1 = .ok (.iload_n 1, 1) := by decide +kernel
theorem dX3_pack_2 : decode cX3_pack 2 = .ok (.bipush 8, 2) := by decide +kernel
theorem dX3_pack_4 : decode cX3_pack 4 = .ok (.ishl, 1) := by decide +kernel
theorem dX3_pack_5 : decode cX3_pack 5 = .ok (.ior, 1) := by decide +kernel
theorem dX3_pack_6 : decode cX3_pack 6 = .ok (.iload_n 2, 1) := by decide +kernel
theorem dX3_pack_7 : decode cX3_pack 7 = .ok (.bipush 16, 2) := by decide +kernel
theorem dX3_pack_9 : decode cX3_pack 9 = .ok (.ishl, 1) := by decide +kernel
theorem dX3_pack_10 : decode cX3_pack 10 = .ok (.ior, 1) := by decide +kernel
theorem dX3_pack_11 : decode cX3_pack 11 = .ok (.ireturn, 1) := by decide +kernel
theorem dX3_factsOf_0 : decode cX3_factsOf 0 = .ok (.iload_n 1, 1) := by decide +kernel
theorem dX3_factsOf_1 : decode cX3_factsOf 1 = .ok (.ifCond .le 18, 3) := by decide +kernel
theorem dX3_factsOf_4 : decode cX3_factsOf 4 = .ok (.iload_n 1, 1) := by decide +kernel
theorem dX3_factsOf_5 : decode cX3_factsOf 5 = .ok (.aload_n 0, 1) := by decide +kernel
theorem dX3_factsOf_6 : decode cX3_factsOf 6 = .ok (.getfield 18, 3) := by decide +kernel
theorem dX3_factsOf_9 : decode cX3_factsOf 9 = .ok (.arraylength, 1) := by decide +kernel
theorem dX3_factsOf_10 : decode cX3_factsOf 10 = .ok (.if_icmp .ge 9, 3) := by decide +kernel
theorem dX3_factsOf_13 : decode cX3_factsOf 13 = .ok (.iload_n 2, 1) := by decide +kernel
theorem dX3_factsOf_14 : decode cX3_factsOf 14 = .ok (.bipush 14, 2) := by decide +kernel
theorem dX3_factsOf_16 : decode cX3_factsOf 16 = .ok (.if_icmp .le 5, 3) := by decide +kernel
theorem dX3_factsOf_19 : decode cX3_factsOf 19 = .ok (.iconst 0, 1) := by decide +kernel
theorem dX3_factsOf_20 : decode cX3_factsOf 20 = .ok (.ireturn, 1) := by decide +kernel
theorem dX3_factsOf_21 : decode cX3_factsOf 21 = .ok (.aload_n 0, 1) := by decide +kernel
theorem dX3_factsOf_22 : decode cX3_factsOf 22 = .ok (.getfield 18, 3) := by decide +kernel
theorem dX3_factsOf_25 : decode cX3_factsOf 25 = .ok (.iload_n 1, 1) := by decide +kernel
theorem dX3_factsOf_26 : decode cX3_factsOf 26 = .ok (.iaload, 1) := by decide +kernel
theorem dX3_factsOf_27 : decode cX3_factsOf 27 = .ok (.ldc 44, 2) := by decide +kernel
theorem dX3_factsOf_29 : decode cX3_factsOf 29 = .ok (.iand, 1) := by decide +kernel
theorem dX3_factsOf_30 : decode cX3_factsOf 30 = .ok (.ifCond .ne 57, 3) := by decide +kernel
theorem dX3_factsOf_33 : decode cX3_factsOf 33 = .ok (.aload_n 0, 1) := by decide +kernel
theorem dX3_factsOf_34 : decode cX3_factsOf 34 = .ok (.getfield 12, 3) := by decide +kernel
theorem dX3_factsOf_37 : decode cX3_factsOf 37 = .ok (.iload_n 1, 1) := by decide +kernel
theorem dX3_factsOf_38 : decode cX3_factsOf 38 = .ok (.invokestatic 45, 3) := by decide +kernel
theorem dX3_factsOf_41 : decode cX3_factsOf 41 = .ok (.iload_n 1, 1) := by decide +kernel
theorem dX3_factsOf_42 : decode cX3_factsOf 42 = .ok (.invokevirtual 51, 3) := by decide +kernel
theorem dX3_factsOf_45 : decode cX3_factsOf 45 = .ok (.istore_n 3, 1) := by decide +kernel
theorem dX3_factsOf_46 : decode cX3_factsOf 46 = .ok (.iload_n 3, 1) := by decide +kernel
theorem dX3_factsOf_47 : decode cX3_factsOf 47 = .ok (.iload_n 1, 1) := by decide +kernel
theorem dX3_factsOf_48 : decode cX3_factsOf 48 = .ok (.if_icmp .ne 12, 3) := by decide +kernel
theorem dX3_factsOf_51 : decode cX3_factsOf 51 = .ok (.aload_n 0, 1) := by decide +kernel
theorem dX3_factsOf_52 : decode cX3_factsOf 52 = .ok (.iload_n 1, 1) := by decide +kernel
theorem dX3_factsOf_53 : decode cX3_factsOf 53 = .ok (.iload_n 2, 1) := by decide +kernel
theorem dX3_factsOf_54 : decode cX3_factsOf 54 = .ok (.invokevirtual 54, 3) := by decide +kernel
theorem dX3_factsOf_57 : decode cX3_factsOf 57 = .ok (.goto 14, 3) := by decide +kernel
theorem dX3_factsOf_60 : decode cX3_factsOf 60 = .ok (.aload_n 0, 1) := by decide +kernel
theorem dX3_factsOf_61 : decode cX3_factsOf 61 = .ok (.iload_n 3, 1) := by decide +kernel
theorem dX3_factsOf_62 : decode cX3_factsOf 62 = .ok (.iload_n 1, 1) := by decide +kernel
theorem dX3_factsOf_63 : decode cX3_factsOf 63 = .ok (.iload_n 3, 1) := by decide +kernel
theorem dX3_factsOf_64 : decode cX3_factsOf 64 = .ok (.iconst (-1), 1) := by decide +kernel
theorem dX3_factsOf_65 : decode cX3_factsOf 65 = .ok (.ixor, 1) := by decide +kernel
theorem dX3_factsOf_66 : decode cX3_factsOf 66 = .ok (.iand, 1) := by decide +kernel
theorem dX3_factsOf_67 : decode cX3_factsOf 67 = .ok (.iload_n 2, 1) := by decide +kernel
theorem dX3_factsOf_68 : decode cX3_factsOf 68 = .ok (.invokevirtual 57, 3) := by decide +kernel
theorem dX3_factsOf_71 : decode cX3_factsOf 71 = .ok (.istore 4, 2) := by decide +kernel
theorem dX3_factsOf_73 : decode cX3_factsOf 73 = .ok (.aload_n 0, 1) := by decide +kernel
theorem dX3_factsOf_74 : decode cX3_factsOf 74 = .ok (.getfield 18, 3) := by decide +kernel
theorem dX3_factsOf_77 : decode cX3_factsOf 77 = .ok (.iload_n 1, 1) := by decide +kernel
theorem dX3_factsOf_78 : decode cX3_factsOf 78 = .ok (.dup2, 1) := by decide +kernel
theorem dX3_factsOf_79 : decode cX3_factsOf 79 = .ok (.iaload, 1) := by decide +kernel
theorem dX3_factsOf_80 : decode cX3_factsOf 80 = .ok (.iload 4, 2) := by decide +kernel
theorem dX3_factsOf_82 : decode cX3_factsOf 82 = .ok (.ldc 44, 2) := by decide +kernel
theorem dX3_factsOf_84 : decode cX3_factsOf 84 = .ok (.ior, 1) := by decide +kernel
theorem dX3_factsOf_85 : decode cX3_factsOf 85 = .ok (.ior, 1) := by decide +kernel
theorem dX3_factsOf_86 : decode cX3_factsOf 86 = .ok (.iastore, 1) := by decide +kernel
theorem dX3_factsOf_87 : decode cX3_factsOf 87 = .ok (.aload_n 0, 1) := by decide +kernel
theorem dX3_factsOf_88 : decode cX3_factsOf 88 = .ok (.getfield 18, 3) := by decide +kernel
theorem dX3_factsOf_91 : decode cX3_factsOf 91 = .ok (.iload_n 1, 1) := by decide +kernel
theorem dX3_factsOf_92 : decode cX3_factsOf 92 = .ok (.iaload, 1) := by decide +kernel
theorem dX3_factsOf_93 : decode cX3_factsOf 93 = .ok (.ireturn, 1) := by decide +kernel
theorem dX3_factsOfParts_0 : decode cX3_factsOfParts 0 = .ok (.aload_n 0, 1) := by decide +kernel
theorem dX3_factsOfParts_1 : decode cX3_factsOfParts 1 = .ok (.iload_n 1, 1) := by decide +kernel
theorem dX3_factsOfParts_2 : decode cX3_factsOfParts 2 = .ok (.iload_n 3, 1) := by decide +kernel
theorem dX3_factsOfParts_3 : decode cX3_factsOfParts 3 = .ok (.iconst 1, 1) := by decide +kernel
theorem dX3_factsOfParts_4 : decode cX3_factsOfParts 4 = .ok (.iadd, 1) := by decide +kernel
theorem dX3_factsOfParts_5 : decode cX3_factsOfParts 5 = .ok (.invokevirtual 36, 3) := by decide +kernel
theorem dX3_factsOfParts_8 : decode cX3_factsOfParts 8 = .ok (.istore 4, 2) := by decide +kernel
theorem dX3_factsOfParts_10 : decode cX3_factsOfParts 10 = .ok (.aload_n 0, 1) := by decide +kernel
theorem dX3_factsOfParts_11 : decode cX3_factsOfParts 11 = .ok (.iload_n 2, 1) := by decide +kernel
theorem dX3_factsOfParts_12 : decode cX3_factsOfParts 12 = .ok (.iload_n 3, 1) := by decide +kernel
theorem dX3_factsOfParts_13 : decode cX3_factsOfParts 13 = .ok (.iconst 1, 1) := by decide +kernel
theorem dX3_factsOfParts_14 : decode cX3_factsOfParts 14 = .ok (.iadd, 1) := by decide +kernel
theorem dX3_factsOfParts_15 : decode cX3_factsOfParts 15 = .ok (.invokevirtual 36, 3) := by decide +kernel
theorem dX3_factsOfParts_18 : decode cX3_factsOfParts 18 = .ok (.istore 5, 2) := by decide +kernel
theorem dX3_factsOfParts_20 : decode cX3_factsOfParts 20 = .ok (.iload 4, 2) := by decide +kernel
theorem dX3_factsOfParts_22 : decode cX3_factsOfParts 22 = .ok (.iload 5, 2) := by decide +kernel
theorem dX3_factsOfParts_24 : decode cX3_factsOfParts 24 = .ok (.ixor, 1) := by decide +kernel
theorem dX3_factsOfParts_25 : decode cX3_factsOfParts 25 = .ok (.sipush 255, 3) := by decide +kernel
theorem dX3_factsOfParts_28 : decode cX3_factsOfParts 28 = .ok (.iand, 1) := by decide +kernel
theorem dX3_factsOfParts_29 : decode cX3_factsOfParts 29 = .ok (.iload 4, 2) := by decide +kernel
theorem dX3_factsOfParts_31 : decode cX3_factsOfParts 31 = .ok (.bipush 8, 2) := by decide +kernel
theorem dX3_factsOfParts_33 : decode cX3_factsOfParts 33 = .ok (.ishr, 1) := by decide +kernel
theorem dX3_factsOfParts_34 : decode cX3_factsOfParts 34 = .ok (.sipush 255, 3) := by decide +kernel
theorem dX3_factsOfParts_37 : decode cX3_factsOfParts 37 = .ok (.iand, 1) := by decide +kernel
theorem dX3_factsOfParts_38 : decode cX3_factsOfParts 38 = .ok (.iload 5, 2) := by decide +kernel
theorem dX3_factsOfParts_40 : decode cX3_factsOfParts 40 = .ok (.bipush 8, 2) := by decide +kernel
theorem dX3_factsOfParts_42 : decode cX3_factsOfParts 42 = .ok (.ishr, 1) := by decide +kernel
theorem dX3_factsOfParts_43 : decode cX3_factsOfParts 43 = .ok (.sipush 255, 3) := by decide +kernel
theorem dX3_factsOfParts_46 : decode cX3_factsOfParts 46 = .ok (.iand, 1) := by decide +kernel
theorem dX3_factsOfParts_47 : decode cX3_factsOfParts 47 = .ok (.iadd, 1) := by decide +kernel
theorem dX3_factsOfParts_48 : decode cX3_factsOfParts 48 = .ok (.iload 4, 2) := by decide +kernel
theorem dX3_factsOfParts_50 : decode cX3_factsOfParts 50 = .ok (.bipush 16, 2) := by decide +kernel
theorem dX3_factsOfParts_52 : decode cX3_factsOfParts 52 = .ok (.ishr, 1) := by decide +kernel
theorem dX3_factsOfParts_53 : decode cX3_factsOfParts 53 = .ok (.sipush 255, 3) := by decide +kernel
theorem dX3_factsOfParts_56 : decode cX3_factsOfParts 56 = .ok (.iand, 1) := by decide +kernel
theorem dX3_factsOfParts_57 : decode cX3_factsOfParts 57 = .ok (.iload 5, 2) := by decide +kernel
theorem dX3_factsOfParts_59 : decode cX3_factsOfParts 59 = .ok (.bipush 16, 2) := by decide +kernel
theorem dX3_factsOfParts_61 : decode cX3_factsOfParts 61 = .ok (.ishr, 1) := by decide +kernel
theorem dX3_factsOfParts_62 : decode cX3_factsOfParts 62 = .ok (.sipush 255, 3) := by decide +kernel
theorem dX3_factsOfParts_65 : decode cX3_factsOfParts 65 = .ok (.iand, 1) := by decide +kernel
theorem dX3_factsOfParts_66 : decode cX3_factsOfParts 66 = .ok (.iadd, 1) := by decide +kernel
theorem dX3_factsOfParts_67 : decode cX3_factsOfParts 67 = .ok (.invokestatic 61, 3) := by decide +kernel
theorem dX3_factsOfParts_70 : decode cX3_factsOfParts 70 = .ok (.ireturn, 1) := by decide +kernel
theorem dX3_factsOfTree_0 : decode cX3_factsOfTree 0 = .ok (.iconst 0, 1) := by decide +kernel
theorem dX3_factsOfTree_1 : decode cX3_factsOfTree 1 = .ok (.istore_n 3, 1) := by decide +kernel
theorem dX3_factsOfTree_2 : decode cX3_factsOfTree 2 = .ok (.bipush 14, 2) := by decide +kernel
theorem dX3_factsOfTree_4 : decode cX3_factsOfTree 4 = .ok (.istore 4, 2) := by decide +kernel
theorem dX3_factsOfTree_6 : decode cX3_factsOfTree 6 = .ok (.iconst 0, 1) := by decide +kernel
theorem dX3_factsOfTree_7 : decode cX3_factsOfTree 7 = .ok (.istore 5, 2) := by decide +kernel
theorem dX3_factsOfTree_9 : decode cX3_factsOfTree 9 = .ok (.iconst 0, 1) := by decide +kernel
theorem dX3_factsOfTree_10 : decode cX3_factsOfTree 10 = .ok (.istore 6, 2) := by decide +kernel
theorem dX3_factsOfTree_12 : decode cX3_factsOfTree 12 = .ok (.iload 6, 2) := by decide +kernel
theorem dX3_factsOfTree_14 : decode cX3_factsOfTree 14 = .ok (.bipush 14, 2) := by decide +kernel
theorem dX3_factsOfTree_16 : decode cX3_factsOfTree 16 = .ok (.if_icmp .ge 83, 3) := by decide +kernel
theorem dX3_factsOfTree_19 : decode cX3_factsOfTree 19 = .ok (.iload_n 1, 1) := by decide +kernel
theorem dX3_factsOfTree_20 : decode cX3_factsOfTree 20 = .ok (.iload 6, 2) := by decide +kernel
theorem dX3_factsOfTree_22 : decode cX3_factsOfTree 22 = .ok (.invokestatic 64, 3) := by decide +kernel
theorem dX3_factsOfTree_25 : decode cX3_factsOfTree 25 = .ok (.ifCond .eq 68, 3) := by decide +kernel
theorem dX3_factsOfTree_28 : decode cX3_factsOfTree 28 = .ok (.aload_n 0, 1) := by decide +kernel
theorem dX3_factsOfTree_29 : decode cX3_factsOfTree 29 = .ok (.iload_n 1, 1) := by decide +kernel
theorem dX3_factsOfTree_30 : decode cX3_factsOfTree 30 = .ok (.aload_n 0, 1) := by decide +kernel
theorem dX3_factsOfTree_31 : decode cX3_factsOfTree 31 = .ok (.getfield 12, 3) := by decide +kernel
theorem dX3_factsOfTree_34 : decode cX3_factsOfTree 34 = .ok (.iload 6, 2) := by decide +kernel
theorem dX3_factsOfTree_36 : decode cX3_factsOfTree 36 = .ok (.invokevirtual 67, 3) := by decide +kernel
theorem dX3_factsOfTree_39 : decode cX3_factsOfTree 39 = .ok (.iconst (-1), 1) := by decide +kernel
theorem dX3_factsOfTree_40 : decode cX3_factsOfTree 40 = .ok (.ixor, 1) := by decide +kernel
theorem dX3_factsOfTree_41 : decode cX3_factsOfTree 41 = .ok (.iand, 1) := by decide +kernel
theorem dX3_factsOfTree_42 : decode cX3_factsOfTree 42 = .ok (.iload_n 2, 1) := by decide +kernel
theorem dX3_factsOfTree_43 : decode cX3_factsOfTree 43 = .ok (.iconst 1, 1) := by decide +kernel
theorem dX3_factsOfTree_44 : decode cX3_factsOfTree 44 = .ok (.iadd, 1) := by decide +kernel
theorem dX3_factsOfTree_45 : decode cX3_factsOfTree 45 = .ok (.invokevirtual 36, 3) := by decide +kernel
theorem dX3_factsOfTree_48 : decode cX3_factsOfTree 48 = .ok (.istore 7, 2) := by decide +kernel
theorem dX3_factsOfTree_50 : decode cX3_factsOfTree 50 = .ok (.iload_n 3, 1) := by decide +kernel
theorem dX3_factsOfTree_51 : decode cX3_factsOfTree 51 = .ok (.iconst 1, 1) := by decide +kernel
theorem dX3_factsOfTree_52 : decode cX3_factsOfTree 52 = .ok (.iload 7, 2) := by decide +kernel
theorem dX3_factsOfTree_54 : decode cX3_factsOfTree 54 = .ok (.sipush 255, 3) := by decide +kernel
theorem dX3_factsOfTree_57 : decode cX3_factsOfTree 57 = .ok (.iand, 1) := by decide +kernel
theorem dX3_factsOfTree_58 : decode cX3_factsOfTree 58 = .ok (.ishl, 1) := by decide +kernel
theorem dX3_factsOfTree_59 : decode cX3_factsOfTree 59 = .ok (.ior, 1) := by decide +kernel
theorem dX3_factsOfTree_60 : decode cX3_factsOfTree 60 = .ok (.istore_n 3, 1) := by decide +kernel
theorem dX3_factsOfTree_61 : decode cX3_factsOfTree 61 = .ok (.iload 4, 2) := by decide +kernel
theorem dX3_factsOfTree_63 : decode cX3_factsOfTree 63 = .ok (.iload 7, 2) := by decide +kernel
theorem dX3_factsOfTree_65 : decode cX3_factsOfTree 65 = .ok (.bipush 8, 2) := by decide +kernel
theorem dX3_factsOfTree_67 : decode cX3_factsOfTree 67 = .ok (.ishr, 1) := by decide +kernel
theorem dX3_factsOfTree_68 : decode cX3_factsOfTree 68 = .ok (.sipush 255, 3) := by decide +kernel
theorem dX3_factsOfTree_71 : decode cX3_factsOfTree 71 = .ok (.iand, 1) := by decide +kernel
theorem dX3_factsOfTree_72 : decode cX3_factsOfTree 72 = .ok (.invokestatic 70, 3) := by decide +kernel
theorem dX3_factsOfTree_75 : decode cX3_factsOfTree 75 = .ok (.istore 4, 2) := by decide +kernel
theorem dX3_factsOfTree_77 : decode cX3_factsOfTree 77 = .ok (.iload 5, 2) := by decide +kernel
theorem dX3_factsOfTree_79 : decode cX3_factsOfTree 79 = .ok (.iload 7, 2) := by decide +kernel
theorem dX3_factsOfTree_81 : decode cX3_factsOfTree 81 = .ok (.bipush 16, 2) := by decide +kernel
theorem dX3_factsOfTree_83 : decode cX3_factsOfTree 83 = .ok (.ishr, 1) := by decide +kernel
theorem dX3_factsOfTree_84 : decode cX3_factsOfTree 84 = .ok (.sipush 255, 3) := by decide +kernel
theorem dX3_factsOfTree_87 : decode cX3_factsOfTree 87 = .ok (.iand, 1) := by decide +kernel
theorem dX3_factsOfTree_88 : decode cX3_factsOfTree 88 = .ok (.invokestatic 75, 3) := by decide +kernel
theorem dX3_factsOfTree_91 : decode cX3_factsOfTree 91 = .ok (.istore 5, 2) := by decide +kernel
theorem dX3_factsOfTree_93 : decode cX3_factsOfTree 93 = .ok (.iinc 6 1, 3) := by decide +kernel
theorem dX3_factsOfTree_96 : decode cX3_factsOfTree 96 = .ok (.goto (-84), 3) := by decide +kernel
theorem dX3_factsOfTree_99 : decode cX3_factsOfTree 99 = .ok (.iload_n 3, 1) := by decide +kernel
theorem dX3_factsOfTree_100 : decode cX3_factsOfTree 100 = .ok (.iconst (-1), 1) := by decide +kernel
theorem dX3_factsOfTree_101 : decode cX3_factsOfTree 101 = .ok (.ixor, 1) := by decide +kernel
theorem dX3_factsOfTree_102 : decode cX3_factsOfTree 102 = .ok (.invokestatic 45, 3) := by decide +kernel
theorem dX3_factsOfTree_105 : decode cX3_factsOfTree 105 = .ok (.iload 4, 2) := by decide +kernel
theorem dX3_factsOfTree_107 : decode cX3_factsOfTree 107 = .ok (.iconst 1, 1) := by decide +kernel
theorem dX3_factsOfTree_108 : decode cX3_factsOfTree 108 = .ok (.iadd, 1) := by decide +kernel
theorem dX3_factsOfTree_109 : decode cX3_factsOfTree 109 = .ok (.iload 5, 2) := by decide +kernel
theorem dX3_factsOfTree_111 : decode cX3_factsOfTree 111 = .ok (.iconst 1, 1) := by decide +kernel
theorem dX3_factsOfTree_112 : decode cX3_factsOfTree 112 = .ok (.iadd, 1) := by decide +kernel
theorem dX3_factsOfTree_113 : decode cX3_factsOfTree 113 = .ok (.invokestatic 61, 3) := by decide +kernel
theorem dX3_factsOfTree_116 : decode cX3_factsOfTree 116 = .ok (.ireturn, 1) := by decide +kernel
theorem dX3_isMisereWon_0 : decode cX3_isMisereWon 0 = .ok (.iload_n 1, 1) := by decide +kernel
theorem dX3_isMisereWon_1 : decode cX3_isMisereWon 1 = .ok (.ifCond .le 18, 3) := by decide +kernel
theorem dX3_isMisereWon_4 : decode cX3_isMisereWon 4 = .ok (.iload_n 1, 1) := by decide +kernel
theorem dX3_isMisereWon_5 : decode cX3_isMisereWon 5 = .ok (.aload_n 0, 1) := by decide +kernel
theorem dX3_isMisereWon_6 : decode cX3_isMisereWon 6 = .ok (.getfield 18, 3) := by decide +kernel
theorem dX3_isMisereWon_9 : decode cX3_isMisereWon 9 = .ok (.arraylength, 1) := by decide +kernel
theorem dX3_isMisereWon_10 : decode cX3_isMisereWon 10 = .ok (.if_icmp .ge 9, 3) := by decide +kernel
theorem dX3_isMisereWon_13 : decode cX3_isMisereWon 13 = .ok (.iload_n 2, 1) := by decide +kernel
theorem dX3_isMisereWon_14 : decode cX3_isMisereWon 14 = .ok (.bipush 14, 2) := by decide +kernel
theorem dX3_isMisereWon_16 : decode cX3_isMisereWon 16 = .ok (.if_icmp .le 5, 3) := by decide +kernel
theorem dX3_isMisereWon_19 : decode cX3_isMisereWon 19 = .ok (.iconst 1, 1) := by decide +kernel
theorem dX3_isMisereWon_20 : decode cX3_isMisereWon 20 = .ok (.ireturn, 1) := by decide +kernel
theorem dX3_isMisereWon_21 : decode cX3_isMisereWon 21 = .ok (.aload_n 0, 1) := by decide +kernel
theorem dX3_isMisereWon_22 : decode cX3_isMisereWon 22 = .ok (.getfield 18, 3) := by decide +kernel
theorem dX3_isMisereWon_25 : decode cX3_isMisereWon 25 = .ok (.iload_n 1, 1) := by decide +kernel
theorem dX3_isMisereWon_26 : decode cX3_isMisereWon 26 = .ok (.iaload, 1) := by decide +kernel
theorem dX3_isMisereWon_27 : decode cX3_isMisereWon 27 = .ok (.ldc 78, 2) := by decide +kernel
theorem dX3_isMisereWon_29 : decode cX3_isMisereWon 29 = .ok (.iand, 1) := by decide +kernel
theorem dX3_isMisereWon_30 : decode cX3_isMisereWon 30 = .ok (.ifCond .ne 32, 3) := by decide +kernel
theorem dX3_isMisereWon_33 : decode cX3_isMisereWon 33 = .ok (.aload_n 0, 1) := by decide +kernel
theorem dX3_isMisereWon_34 : decode cX3_isMisereWon 34 = .ok (.iload_n 1, 1) := by decide +kernel
theorem dX3_isMisereWon_35 : decode cX3_isMisereWon 35 = .ok (.iload_n 2, 1) := by decide +kernel
theorem dX3_isMisereWon_36 : decode cX3_isMisereWon 36 = .ok (.invokevirtual 79, 3) := by decide +kernel
theorem dX3_isMisereWon_39 : decode cX3_isMisereWon 39 = .ok (.ifCond .eq 8, 3) := by decide +kernel
theorem dX3_isMisereWon_42 : decode cX3_isMisereWon 42 = .ok (.ldc 82, 2) := by decide +kernel
theorem dX3_isMisereWon_44 : decode cX3_isMisereWon 44 = .ok (.goto 4, 3) := by decide +kernel
theorem dX3_isMisereWon_47 : decode cX3_isMisereWon 47 = .ok (.iconst 0, 1) := by decide +kernel
theorem dX3_isMisereWon_48 : decode cX3_isMisereWon 48 = .ok (.istore_n 3, 1) := by decide +kernel
theorem dX3_isMisereWon_49 : decode cX3_isMisereWon 49 = .ok (.aload_n 0, 1) := by decide +kernel
theorem dX3_isMisereWon_50 : decode cX3_isMisereWon 50 = .ok (.getfield 18, 3) := by decide +kernel
theorem dX3_isMisereWon_53 : decode cX3_isMisereWon 53 = .ok (.iload_n 1, 1) := by decide +kernel
theorem dX3_isMisereWon_54 : decode cX3_isMisereWon 54 = .ok (.dup2, 1) := by decide +kernel
theorem dX3_isMisereWon_55 : decode cX3_isMisereWon 55 = .ok (.iaload, 1) := by decide +kernel
theorem dX3_isMisereWon_56 : decode cX3_isMisereWon 56 = .ok (.iload_n 3, 1) := by decide +kernel
theorem dX3_isMisereWon_57 : decode cX3_isMisereWon 57 = .ok (.ldc 78, 2) := by decide +kernel
theorem dX3_isMisereWon_59 : decode cX3_isMisereWon 59 = .ok (.ior, 1) := by decide +kernel
theorem dX3_isMisereWon_60 : decode cX3_isMisereWon 60 = .ok (.ior, 1) := by decide +kernel
theorem dX3_isMisereWon_61 : decode cX3_isMisereWon 61 = .ok (.iastore, 1) := by decide +kernel
theorem dX3_isMisereWon_62 : decode cX3_isMisereWon 62 = .ok (.aload_n 0, 1) := by decide +kernel
theorem dX3_isMisereWon_63 : decode cX3_isMisereWon 63 = .ok (.getfield 18, 3) := by decide +kernel
theorem dX3_isMisereWon_66 : decode cX3_isMisereWon 66 = .ok (.iload_n 1, 1) := by decide +kernel
theorem dX3_isMisereWon_67 : decode cX3_isMisereWon 67 = .ok (.iaload, 1) := by decide +kernel
theorem dX3_isMisereWon_68 : decode cX3_isMisereWon 68 = .ok (.ldc 82, 2) := by decide +kernel
theorem dX3_isMisereWon_70 : decode cX3_isMisereWon 70 = .ok (.iand, 1) := by decide +kernel
theorem dX3_isMisereWon_71 : decode cX3_isMisereWon 71 = .ok (.ifCond .eq 7, 3) := by decide +kernel
theorem dX3_isMisereWon_74 : decode cX3_isMisereWon 74 = .ok (.iconst 1, 1) := by decide +kernel
theorem dX3_isMisereWon_75 : decode cX3_isMisereWon 75 = .ok (.goto 4, 3) := by decide +kernel
theorem dX3_isMisereWon_78 : decode cX3_isMisereWon 78 = .ok (.iconst 0, 1) := by decide +kernel
theorem dX3_isMisereWon_79 : decode cX3_isMisereWon 79 = .ok (.ireturn, 1) := by decide +kernel
theorem dX3_hasMisereWin_0 : decode cX3_hasMisereWin 0 = .ok (.iconst 0, 1) := by decide +kernel
theorem dX3_hasMisereWin_1 : decode cX3_hasMisereWin 1 = .ok (.istore_n 3, 1) := by decide +kernel
theorem dX3_hasMisereWin_2 : decode cX3_hasMisereWin 2 = .ok (.iconst 0, 1) := by decide +kernel
theorem dX3_hasMisereWin_3 : decode cX3_hasMisereWin 3 = .ok (.istore 4, 2) := by decide +kernel
theorem dX3_hasMisereWin_5 : decode cX3_hasMisereWin 5 = .ok (.iload 4, 2) := by decide +kernel
theorem dX3_hasMisereWin_7 : decode cX3_hasMisereWin 7 = .ok (.bipush 14, 2) := by decide +kernel
theorem dX3_hasMisereWin_9 : decode cX3_hasMisereWin 9 = .ok (.if_icmp .ge 78, 3) := by decide +kernel
theorem dX3_hasMisereWin_12 : decode cX3_hasMisereWin 12 = .ok (.aload_n 0, 1) := by decide +kernel
theorem dX3_hasMisereWin_13 : decode cX3_hasMisereWin 13 = .ok (.getfield 12, 3) := by decide +kernel
theorem dX3_hasMisereWin_16 : decode cX3_hasMisereWin 16 = .ok (.iload 4, 2) := by decide +kernel
theorem dX3_hasMisereWin_18 : decode cX3_hasMisereWin 18 = .ok (.invokevirtual 83, 3) := by decide +kernel
theorem dX3_hasMisereWin_21 : decode cX3_hasMisereWin 21 = .ok (.iload_n 1, 1) := by decide +kernel
theorem dX3_hasMisereWin_22 : decode cX3_hasMisereWin 22 = .ok (.iand, 1) := by decide +kernel
theorem dX3_hasMisereWin_23 : decode cX3_hasMisereWin 23 = .ok (.ifCond .ne 7, 3) := by decide +kernel
theorem dX3_hasMisereWin_26 : decode cX3_hasMisereWin 26 = .ok (.iconst 1, 1) := by decide +kernel
theorem dX3_hasMisereWin_27 : decode cX3_hasMisereWin 27 = .ok (.goto 4, 3) := by decide +kernel
theorem dX3_hasMisereWin_30 : decode cX3_hasMisereWin 30 = .ok (.iconst 0, 1) := by decide +kernel
theorem dX3_hasMisereWin_31 : decode cX3_hasMisereWin 31 = .ok (.istore 5, 2) := by decide +kernel
theorem dX3_hasMisereWin_33 : decode cX3_hasMisereWin 33 = .ok (.iload_n 1, 1) := by decide +kernel
theorem dX3_hasMisereWin_34 : decode cX3_hasMisereWin 34 = .ok (.iload 4, 2) := by decide +kernel
theorem dX3_hasMisereWin_36 : decode cX3_hasMisereWin 36 = .ok (.invokestatic 64, 3) := by decide +kernel
theorem dX3_hasMisereWin_39 : decode cX3_hasMisereWin 39 = .ok (.ifCond .eq 42, 3) := by decide +kernel
theorem dX3_hasMisereWin_42 : decode cX3_hasMisereWin 42 = .ok (.iload 5, 2) := by decide +kernel
theorem dX3_hasMisereWin_44 : decode cX3_hasMisereWin 44 = .ok (.ifCond .eq 7, 3) := by decide +kernel
theorem dX3_hasMisereWin_47 : decode cX3_hasMisereWin 47 = .ok (.iload_n 3, 1) := by decide +kernel
theorem dX3_hasMisereWin_48 : decode cX3_hasMisereWin 48 = .ok (.ifCond .ne 33, 3) := by decide +kernel
theorem dX3_hasMisereWin_51 : decode cX3_hasMisereWin 51 = .ok (.aload_n 0, 1) := by decide +kernel
theorem dX3_hasMisereWin_52 : decode cX3_hasMisereWin 52 = .ok (.iload_n 1, 1) := by decide +kernel
theorem dX3_hasMisereWin_53 : decode cX3_hasMisereWin 53 = .ok (.aload_n 0, 1) := by decide +kernel
theorem dX3_hasMisereWin_54 : decode cX3_hasMisereWin 54 = .ok (.getfield 12, 3) := by decide +kernel
theorem dX3_hasMisereWin_57 : decode cX3_hasMisereWin 57 = .ok (.iload 4, 2) := by decide +kernel
theorem dX3_hasMisereWin_59 : decode cX3_hasMisereWin 59 = .ok (.invokevirtual 67, 3) := by decide +kernel
theorem dX3_hasMisereWin_62 : decode cX3_hasMisereWin 62 = .ok (.iconst (-1), 1) := by decide +kernel
theorem dX3_hasMisereWin_63 : decode cX3_hasMisereWin 63 = .ok (.ixor, 1) := by decide +kernel
theorem dX3_hasMisereWin_64 : decode cX3_hasMisereWin 64 = .ok (.iand, 1) := by decide +kernel
theorem dX3_hasMisereWin_65 : decode cX3_hasMisereWin 65 = .ok (.iload_n 2, 1) := by decide +kernel
theorem dX3_hasMisereWin_66 : decode cX3_hasMisereWin 66 = .ok (.iconst 1, 1) := by decide +kernel
theorem dX3_hasMisereWin_67 : decode cX3_hasMisereWin 67 = .ok (.iadd, 1) := by decide +kernel
theorem dX3_hasMisereWin_68 : decode cX3_hasMisereWin 68 = .ok (.invokevirtual 40, 3) := by decide +kernel
theorem dX3_hasMisereWin_71 : decode cX3_hasMisereWin 71 = .ok (.ifCond .ne 5, 3) := by decide +kernel
theorem dX3_hasMisereWin_74 : decode cX3_hasMisereWin 74 = .ok (.iconst 1, 1) := by decide +kernel
theorem dX3_hasMisereWin_75 : decode cX3_hasMisereWin 75 = .ok (.ireturn, 1) := by decide +kernel
theorem dX3_hasMisereWin_76 : decode cX3_hasMisereWin 76 = .ok (.iload_n 3, 1) := by decide +kernel
theorem dX3_hasMisereWin_77 : decode cX3_hasMisereWin 77 = .ok (.iload 5, 2) := by decide +kernel
theorem dX3_hasMisereWin_79 : decode cX3_hasMisereWin 79 = .ok (.ior, 1) := by decide +kernel
theorem dX3_hasMisereWin_80 : decode cX3_hasMisereWin 80 = .ok (.istore_n 3, 1) := by decide +kernel
theorem dX3_hasMisereWin_81 : decode cX3_hasMisereWin 81 = .ok (.iinc 4 1, 3) := by decide +kernel
theorem dX3_hasMisereWin_84 : decode cX3_hasMisereWin 84 = .ok (.goto (-79), 3) := by decide +kernel
theorem dX3_hasMisereWin_87 : decode cX3_hasMisereWin 87 = .ok (.iconst 0, 1) := by decide +kernel
theorem dX3_hasMisereWin_88 : decode cX3_hasMisereWin 88 = .ok (.ireturn, 1) := by decide +kernel
theorem dX4_init_0 : decode cX4_init 0 = .ok (.aload_n 0, 1) := by decide +kernel
theorem dX4_init_1 : decode cX4_init 1 = .ok (.invokespecial 3, 3) := by decide +kernel
theorem dX4_init_4 : decode cX4_init 4 = .ok (.aload_n 0, 1) := by decide +kernel
theorem dX4_init_5 : decode cX4_init 5 = .ok (.bipush 14, 2) := by decide +kernel
theorem dX4_init_7 : decode cX4_init 7 = .ok (.newarray .int, 2) := by decide +kernel
theorem dX4_init_9 : decode cX4_init 9 = .ok (.putfield 9, 3) := by decide +kernel
theorem dX4_init_12 : decode cX4_init 12 = .ok (.return_, 1) := by decide +kernel
theorem dX4_classFor_0 : decode cX4_classFor 0 = .ok (.iconst 0, 1) := by decide +kernel
theorem dX4_classFor_1 : decode cX4_classFor 1 = .ok (.istore_n 3, 1) := by decide +kernel
theorem dX4_classFor_2 : decode cX4_classFor 2 = .ok (.iconst 0, 1) := by decide +kernel
theorem dX4_classFor_3 : decode cX4_classFor 3 = .ok (.istore 4, 2) := by decide +kernel
theorem dX4_classFor_5 : decode cX4_classFor 5 = .ok (.iload 4, 2) := by decide +kernel
theorem dX4_classFor_7 : decode cX4_classFor 7 = .ok (.bipush 14, 2) := by decide +kernel
theorem dX4_classFor_9 : decode cX4_classFor 9 = .ok (.if_icmp .ge 32, 3) := by decide +kernel
theorem dX4_classFor_12 : decode cX4_classFor 12 = .ok (.iload_n 2, 1) := by decide +kernel
theorem dX4_classFor_13 : decode cX4_classFor 13 = .ok (.iload 4, 2) := by decide +kernel
theorem dX4_classFor_15 : decode cX4_classFor 15 = .ok (.invokestatic 15, 3) := by decide +kernel
theorem dX4_classFor_18 : decode cX4_classFor 18 = .ok (.ifCond .eq 17, 3) := by decide +kernel
theorem dX4_classFor_21 : decode cX4_classFor 21 = .ok (.iload_n 3, 1) := by decide +kernel
theorem dX4_classFor_22 : decode cX4_classFor 22 = .ok (.aload_n 0, 1) := by decide +kernel
theorem dX4_classFor_23 : decode cX4_classFor 23 = .ok (.aload_n 1, 1) := by decide +kernel
theorem dX4_classFor_24 : decode cX4_classFor 24 = .ok (.iload_n 2, 1) := by decide +kernel
theorem dX4_classFor_25 : decode cX4_classFor 25 = .ok (.iload 4, 2) := by decide +kernel
theorem dX4_classFor_27 : decode cX4_classFor 27 = .ok (.iconst 0, 1) := by decide +kernel
theorem dX4_classFor_28 : decode cX4_classFor 28 = .ok (.invokevirtual 19, 3) := by decide +kernel
theorem dX4_classFor_31 : decode cX4_classFor 31 = .ok (.invokestatic 23, 3) := by decide +kernel
theorem dX4_classFor_34 : decode cX4_classFor 34 = .ok (.istore_n 3, 1) := by decide +kernel
theorem dX4_classFor_35 : decode cX4_classFor 35 = .ok (.iinc 4 1, 3) := by decide +kernel
theorem dX4_classFor_38 : decode cX4_classFor 38 = .ok (.goto (-33), 3) := by decide +kernel
theorem dX4_classFor_41 : decode cX4_classFor 41 = .ok (.iload_n 3, 1) := by decide +kernel
theorem dX4_classFor_42 : decode cX4_classFor 42 = .ok (.ireturn, 1) := by decide +kernel
theorem dX4_codeFrom_0 : decode cX4_codeFrom 0 = .ok (.iload 4, 2) := by decide +kernel
theorem dX4_codeFrom_2 : decode cX4_codeFrom 2 = .ok (.bipush 14, 2) := by decide +kernel
theorem dX4_codeFrom_4 : decode cX4_codeFrom 4 = .ok (.if_icmp .le 5, 3) := by decide +kernel
theorem dX4_codeFrom_7 : decode cX4_codeFrom 7 = .ok (.iconst 0, 1) := by decide +kernel
theorem dX4_codeFrom_8 : decode cX4_codeFrom 8 = .ok (.ireturn, 1) := by decide +kernel
theorem dX4_codeFrom_9 : decode cX4_codeFrom 9 = .ok (.iload_n 2, 1) := by decide +kernel
theorem dX4_codeFrom_10 : decode cX4_codeFrom 10 = .ok (.iload_n 3, 1) := by decide +kernel
theorem dX4_codeFrom_11 : decode cX4_codeFrom 11 = .ok (.invokestatic 29, 3) := by decide +kernel
theorem dX4_codeFrom_14 : decode cX4_codeFrom 14 = .ok (.iconst (-1), 1) := by decide +kernel
theorem dX4_codeFrom_15 : decode cX4_codeFrom 15 = .ok (.ixor, 1) := by decide +kernel
theorem dX4_codeFrom_16 : decode cX4_codeFrom 16 = .ok (.iand, 1) := by decide +kernel
theorem dX4_codeFrom_17 : decode cX4_codeFrom 17 = .ok (.istore 5, 2) := by decide +kernel
theorem dX4_codeFrom_19 : decode cX4_codeFrom 19 = .ok (.aload_n 1, 1) := by decide +kernel
theorem dX4_codeFrom_20 : decode cX4_codeFrom 20 = .ok (.iload_n 3, 1) := by decide +kernel
theorem dX4_codeFrom_21 : decode cX4_codeFrom 21 = .ok (.invokevirtual 33, 3) := by decide +kernel
theorem dX4_codeFrom_24 : decode cX4_codeFrom 24 = .ok (.iload 5, 2) := by decide +kernel
theorem dX4_codeFrom_26 : decode cX4_codeFrom 26 = .ok (.iand, 1) := by decide +kernel
theorem dX4_codeFrom_27 : decode cX4_codeFrom 27 = .ok (.istore 6, 2) := by decide +kernel
theorem dX4_codeFrom_29 : decode cX4_codeFrom 29 = .ok (.iconst 0, 1) := by decide +kernel
theorem dX4_codeFrom_30 : decode cX4_codeFrom 30 = .ok (.istore 7, 2) := by decide +kernel
theorem dX4_codeFrom_32 : decode cX4_codeFrom 32 = .ok (.iload 7, 2) := by decide +kernel
theorem dX4_codeFrom_34 : decode cX4_codeFrom 34 = .ok (.bipush 14, 2) := by decide +kernel
theorem dX4_codeFrom_36 : decode cX4_codeFrom 36 = .ok (.if_icmp .ge 39, 3) := by decide +kernel
theorem dX4_codeFrom_39 : decode cX4_codeFrom 39 = .ok (.iload 6, 2) := by decide +kernel
theorem dX4_codeFrom_41 : decode cX4_codeFrom 41 = .ok (.iload 7, 2) := by decide +kernel
theorem dX4_codeFrom_43 : decode cX4_codeFrom 43 = .ok (.invokestatic 15, 3) := by decide +kernel
theorem dX4_codeFrom_46 : decode cX4_codeFrom 46 = .ok (.ifCond .eq 23, 3) := by decide +kernel
theorem dX4_codeFrom_49 : decode cX4_codeFrom 49 = .ok (.aload_n 0, 1) := by decide +kernel
theorem dX4_codeFrom_50 : decode cX4_codeFrom 50 = .ok (.getfield 9, 3) := by decide +kernel
theorem dX4_codeFrom_53 : decode cX4_codeFrom 53 = .ok (.iload 7, 2) := by decide +kernel
theorem dX4_codeFrom_55 : decode cX4_codeFrom 55 = .ok (.aload_n 0, 1) := by decide +kernel
theorem dX4_codeFrom_56 : decode cX4_codeFrom 56 = .ok (.aload_n 1, 1) := by decide +kernel
theorem dX4_codeFrom_57 : decode cX4_codeFrom 57 = .ok (.iload 5, 2) := by decide +kernel
theorem dX4_codeFrom_59 : decode cX4_codeFrom 59 = .ok (.iload 7, 2) := by decide +kernel
theorem dX4_codeFrom_61 : decode cX4_codeFrom 61 = .ok (.iload 4, 2) := by decide +kernel
theorem dX4_codeFrom_63 : decode cX4_codeFrom 63 = .ok (.iconst 1, 1) := by decide +kernel
theorem dX4_codeFrom_64 : decode cX4_codeFrom 64 = .ok (.iadd, 1) := by decide +kernel
theorem dX4_codeFrom_65 : decode cX4_codeFrom 65 = .ok (.invokevirtual 19, 3) := by decide +kernel
theorem dX4_codeFrom_68 : decode cX4_codeFrom 68 = .ok (.iastore, 1) := by decide +kernel
theorem dX4_codeFrom_69 : decode cX4_codeFrom 69 = .ok (.iinc 7 1, 3) := by decide +kernel
theorem dX4_codeFrom_72 : decode cX4_codeFrom 72 = .ok (.goto (-40), 3) := by decide +kernel
theorem dX4_codeFrom_75 : decode cX4_codeFrom 75 = .ok (.aload_n 0, 1) := by decide +kernel
theorem dX4_codeFrom_76 : decode cX4_codeFrom 76 = .ok (.iload 6, 2) := by decide +kernel
theorem dX4_codeFrom_78 : decode cX4_codeFrom 78 = .ok (.invokevirtual 38, 3) := by decide +kernel
theorem dX4_codeFrom_81 : decode cX4_codeFrom 81 = .ok (.ireturn, 1) := by decide +kernel
theorem dX4_codeOver_0 : decode cX4_codeOver 0 = .ok (.iconst 1, 1) := by decide +kernel
theorem dX4_codeOver_1 : decode cX4_codeOver 1 = .ok (.istore_n 2, 1) := by decide +kernel
theorem dX4_codeOver_2 : decode cX4_codeOver 2 = .ok (.iload_n 1, 1) := by decide +kernel
theorem dX4_codeOver_3 : decode cX4_codeOver 3 = .ok (.istore_n 3, 1) := by decide +kernel
theorem dX4_codeOver_4 : decode cX4_codeOver 4 = .ok (.iconst 0, 1) := by decide +kernel
theorem dX4_codeOver_5 : decode cX4_codeOver 5 = .ok (.istore 4, 2) := by decide +kernel
theorem dX4_codeOver_7 : decode cX4_codeOver 7 = .ok (.iload 4, 2) := by decide +kernel
theorem dX4_codeOver_9 : decode cX4_codeOver 9 = .ok (.bipush 14, 2) := by decide +kernel
theorem dX4_codeOver_11 : decode cX4_codeOver 11 = .ok (.if_icmp .ge 97, 3) := by decide +kernel
theorem dX4_codeOver_14 : decode cX4_codeOver 14 = .ok (.iload_n 3, 1) := by decide +kernel
theorem dX4_codeOver_15 : decode cX4_codeOver 15 = .ok (.ifCond .eq 93, 3) := by decide +kernel
theorem dX4_codeOver_18 : decode cX4_codeOver 18 = .ok (.iconst 0, 1) := by decide +kernel
theorem dX4_codeOver_19 : decode cX4_codeOver 19 = .ok (.istore 5, 2) := by decide +kernel
theorem dX4_codeOver_21 : decode cX4_codeOver 21 = .ok (.iconst 0, 1) := by decide +kernel
theorem dX4_codeOver_22 : decode cX4_codeOver 22 = .ok (.istore 6, 2) := by decide +kernel
theorem dX4_codeOver_24 : decode cX4_codeOver 24 = .ok (.iconst 0, 1) := by decide +kernel
theorem dX4_codeOver_25 : decode cX4_codeOver 25 = .ok (.istore 7, 2) := by decide +kernel
theorem dX4_codeOver_27 : decode cX4_codeOver 27 = .ok (.iload 7, 2) := by decide +kernel
theorem dX4_codeOver_29 : decode cX4_codeOver 29 = .ok (.bipush 14, 2) := by decide +kernel
theorem dX4_codeOver_31 : decode cX4_codeOver 31 = .ok (.if_icmp .ge 43, 3) := by decide +kernel
theorem dX4_codeOver_34 : decode cX4_codeOver 34 = .ok (.iload_n 3, 1) := by decide +kernel
theorem dX4_codeOver_35 : decode cX4_codeOver 35 = .ok (.iload 7, 2) := by decide +kernel
theorem dX4_codeOver_37 : decode cX4_codeOver 37 = .ok (.invokestatic 15, 3) := by decide +kernel
theorem dX4_codeOver_40 : decode cX4_codeOver 40 = .ok (.ifCond .eq 28, 3) := by decide +kernel
theorem dX4_codeOver_43 : decode cX4_codeOver 43 = .ok (.aload_n 0, 1) := by decide +kernel
theorem dX4_codeOver_44 : decode cX4_codeOver 44 = .ok (.getfield 9, 3) := by decide +kernel
theorem dX4_codeOver_47 : decode cX4_codeOver 47 = .ok (.iload 7, 2) := by decide +kernel
theorem dX4_codeOver_49 : decode cX4_codeOver 49 = .ok (.iaload, 1) := by decide +kernel
theorem dX4_codeOver_50 : decode cX4_codeOver 50 = .ok (.iload 6, 2) := by decide +kernel
theorem dX4_codeOver_52 : decode cX4_codeOver 52 = .ok (.if_icmp .le 16, 3) := by decide +kernel
theorem dX4_codeOver_55 : decode cX4_codeOver 55 = .ok (.iload 7, 2) := by decide +kernel
theorem dX4_codeOver_57 : decode cX4_codeOver 57 = .ok (.istore 5, 2) := by decide +kernel
theorem dX4_codeOver_59 : decode cX4_codeOver 59 = .ok (.aload_n 0, 1) := by decide +kernel
theorem dX4_codeOver_60 : decode cX4_codeOver 60 = .ok (.getfield 9, 3) := by decide +kernel
theorem dX4_codeOver_63 : decode cX4_codeOver 63 = .ok (.iload 7, 2) := by decide +kernel
theorem dX4_codeOver_65 : decode cX4_codeOver 65 = .ok (.iaload, 1) := by decide +kernel
theorem dX4_codeOver_66 : decode cX4_codeOver 66 = .ok (.istore 6, 2) := by decide +kernel
theorem dX4_codeOver_68 : decode cX4_codeOver 68 = .ok (.iinc 7 1, 3) := by decide +kernel
theorem dX4_codeOver_71 : decode cX4_codeOver 71 = .ok (.goto (-44), 3) := by decide +kernel
theorem dX4_codeOver_74 : decode cX4_codeOver 74 = .ok (.bipush 32, 2) := by decide +kernel
theorem dX4_codeOver_76 : decode cX4_codeOver 76 = .ok (.iload 6, 2) := by decide +kernel
theorem dX4_codeOver_78 : decode cX4_codeOver 78 = .ok (.invokestatic 41, 3) := by decide +kernel
theorem dX4_codeOver_81 : decode cX4_codeOver 81 = .ok (.isub, 1) := by decide +kernel
theorem dX4_codeOver_82 : decode cX4_codeOver 82 = .ok (.istore 7, 2) := by decide +kernel
theorem dX4_codeOver_84 : decode cX4_codeOver 84 = .ok (.iload_n 2, 1) := by decide +kernel
theorem dX4_codeOver_85 : decode cX4_codeOver 85 = .ok (.iload 7, 2) := by decide +kernel
theorem dX4_codeOver_87 : decode cX4_codeOver 87 = .ok (.ishl, 1) := by decide +kernel
theorem dX4_codeOver_88 : decode cX4_codeOver 88 = .ok (.iload 6, 2) := by decide +kernel
theorem dX4_codeOver_90 : decode cX4_codeOver 90 = .ok (.ior, 1) := by decide +kernel
theorem dX4_codeOver_91 : decode cX4_codeOver 91 = .ok (.istore_n 2, 1) := by decide +kernel
theorem dX4_codeOver_92 : decode cX4_codeOver 92 = .ok (.iload_n 3, 1) := by decide +kernel
theorem dX4_codeOver_93 : decode cX4_codeOver 93 = .ok (.iload 5, 2) := by decide +kernel
theorem dX4_codeOver_95 : decode cX4_codeOver 95 = .ok (.invokestatic 29, 3) := by decide +kernel
theorem dX4_codeOver_98 : decode cX4_codeOver 98 = .ok (.iconst (-1), 1) := by decide +kernel
theorem dX4_codeOver_99 : decode cX4_codeOver 99 = .ok (.ixor, 1) := by decide +kernel
theorem dX4_codeOver_100 : decode cX4_codeOver 100 = .ok (.iand, 1) := by decide +kernel
theorem dX4_codeOver_101 : decode cX4_codeOver 101 = .ok (.istore_n 3, 1) := by decide +kernel
theorem dX4_codeOver_102 : decode cX4_codeOver 102 = .ok (.iinc 4 1, 3) := by decide +kernel
theorem dX4_codeOver_105 : decode cX4_codeOver 105 = .ok (.goto (-98), 3) := by decide +kernel
theorem dX4_codeOver_108 : decode cX4_codeOver 108 = .ok (.iload_n 2, 1) := by decide +kernel
theorem dX4_codeOver_109 : decode cX4_codeOver 109 = .ok (.iconst 1, 1) := by decide +kernel
theorem dX4_codeOver_110 : decode cX4_codeOver 110 = .ok (.ishl, 1) := by decide +kernel
theorem dX4_codeOver_111 : decode cX4_codeOver 111 = .ok (.ireturn, 1) := by decide +kernel
theorem dX5_init_0 : decode cX5_init 0 = .ok (.aload_n 0, 1) := by decide +kernel
theorem dX5_init_1 : decode cX5_init 1 = .ok (.invokespecial 3, 3) := by decide +kernel
theorem dX5_init_4 : decode cX5_init 4 = .ok (.aload_n 0, 1) := by decide +kernel
theorem dX5_init_5 : decode cX5_init 5 = .ok (.bipush 14, 2) := by decide +kernel
theorem dX5_init_7 : decode cX5_init 7 = .ok (.newarray .int, 2) := by decide +kernel
theorem dX5_init_9 : decode cX5_init 9 = .ok (.putfield 9, 3) := by decide +kernel
theorem dX5_init_12 : decode cX5_init 12 = .ok (.aload_n 0, 1) := by decide +kernel
theorem dX5_init_13 : decode cX5_init 13 = .ok (.iconst 0, 1) := by decide +kernel
theorem dX5_init_14 : decode cX5_init 14 = .ok (.putfield 15, 3) := by decide +kernel
theorem dX5_init_17 : decode cX5_init 17 = .ok (.return_, 1) := by decide +kernel
theorem dX5_wipe_0 : decode cX5_wipe 0 = .ok (.aload_n 0, 1) := by decide +kernel
theorem dX5_wipe_1 : decode cX5_wipe 1 = .ok (.iconst 0, 1) := by decide +kernel
theorem dX5_wipe_2 : decode cX5_wipe 2 = .ok (.putfield 15, 3) := by decide +kernel
theorem dX5_wipe_5 : decode cX5_wipe 5 = .ok (.return_, 1) := by decide +kernel
theorem dX5_put_0 : decode cX5_put 0 = .ok (.aload_n 0, 1) := by decide +kernel
theorem dX5_put_1 : decode cX5_put 1 = .ok (.getfield 15, 3) := by decide +kernel
theorem dX5_put_4 : decode cX5_put 4 = .ok (.ifCond .lt 32, 3) := by decide +kernel
theorem dX5_put_7 : decode cX5_put 7 = .ok (.aload_n 0, 1) := by decide +kernel
theorem dX5_put_8 : decode cX5_put 8 = .ok (.getfield 15, 3) := by decide +kernel
theorem dX5_put_11 : decode cX5_put 11 = .ok (.bipush 14, 2) := by decide +kernel
theorem dX5_put_13 : decode cX5_put 13 = .ok (.if_icmp .ge 23, 3) := by decide +kernel
theorem dX5_put_16 : decode cX5_put 16 = .ok (.aload_n 0, 1) := by decide +kernel
theorem dX5_put_17 : decode cX5_put 17 = .ok (.getfield 9, 3) := by decide +kernel
theorem dX5_put_20 : decode cX5_put 20 = .ok (.aload_n 0, 1) := by decide +kernel
theorem dX5_put_21 : decode cX5_put 21 = .ok (.getfield 15, 3) := by decide +kernel
theorem dX5_put_24 : decode cX5_put 24 = .ok (.iload_n 1, 1) := by decide +kernel
theorem dX5_put_25 : decode cX5_put 25 = .ok (.iastore, 1) := by decide +kernel
theorem dX5_put_26 : decode cX5_put 26 = .ok (.aload_n 0, 1) := by decide +kernel
theorem dX5_put_27 : decode cX5_put 27 = .ok (.dup, 1) := by decide +kernel
theorem dX5_put_28 : decode cX5_put 28 = .ok (.getfield 15, 3) := by decide +kernel
theorem dX5_put_31 : decode cX5_put 31 = .ok (.iconst 1, 1) := by decide +kernel
theorem dX5_put_32 : decode cX5_put 32 = .ok (.iadd, 1) := by decide +kernel
theorem dX5_put_33 : decode cX5_put 33 = .ok (.putfield 15, 3) := by decide +kernel
theorem dX5_put_36 : decode cX5_put 36 = .ok (.return_, 1) := by decide +kernel
theorem dX5_putLesser_0 : decode cX5_putLesser 0 = .ok (.aload_n 0, 1) := by decide +kernel
theorem dX5_putLesser_1 : decode cX5_putLesser 1 = .ok (.iload_n 1, 1) := by decide +kernel
theorem dX5_putLesser_2 : decode cX5_putLesser 2 = .ok (.iconst (-1), 1) := by decide +kernel
theorem dX5_putLesser_3 : decode cX5_putLesser 3 = .ok (.if_icmp .ne 8, 3) := by decide +kernel
theorem dX5_putLesser_6 : decode cX5_putLesser 6 = .ok (.bipush 46, 2) := by decide +kernel
theorem dX5_putLesser_8 : decode cX5_putLesser 8 = .ok (.goto 7, 3) := by decide +kernel
theorem dX5_putLesser_11 : decode cX5_putLesser 11 = .ok (.bipush 97, 2) := by decide +kernel
theorem dX5_putLesser_13 : decode cX5_putLesser 13 = .ok (.iload_n 1, 1) := by decide +kernel
theorem dX5_putLesser_14 : decode cX5_putLesser 14 = .ok (.iadd, 1) := by decide +kernel
theorem dX5_putLesser_15 : decode cX5_putLesser 15 = .ok (.invokevirtual 19, 3) := by decide +kernel
theorem dX5_putLesser_18 : decode cX5_putLesser 18 = .ok (.return_, 1) := by decide +kernel
theorem dX5_codeAt_0 : decode cX5_codeAt 0 = .ok (.iload_n 1, 1) := by decide +kernel
theorem dX5_codeAt_1 : decode cX5_codeAt 1 = .ok (.ifCond .lt 26, 3) := by decide +kernel
theorem dX5_codeAt_4 : decode cX5_codeAt 4 = .ok (.iload_n 1, 1) := by decide +kernel
theorem dX5_codeAt_5 : decode cX5_codeAt 5 = .ok (.aload_n 0, 1) := by decide +kernel
theorem dX5_codeAt_6 : decode cX5_codeAt 6 = .ok (.getfield 15, 3) := by decide +kernel
theorem dX5_codeAt_9 : decode cX5_codeAt 9 = .ok (.if_icmp .ge 18, 3) := by decide +kernel
theorem dX5_codeAt_12 : decode cX5_codeAt 12 = .ok (.iload_n 1, 1) := by decide +kernel
theorem dX5_codeAt_13 : decode cX5_codeAt 13 = .ok (.bipush 14, 2) := by decide +kernel
theorem dX5_codeAt_15 : decode cX5_codeAt 15 = .ok (.if_icmp .ge 12, 3) := by decide +kernel
theorem dX5_codeAt_18 : decode cX5_codeAt 18 = .ok (.aload_n 0, 1) := by decide +kernel
theorem dX5_codeAt_19 : decode cX5_codeAt 19 = .ok (.getfield 9, 3) := by decide +kernel
theorem dX5_codeAt_22 : decode cX5_codeAt 22 = .ok (.iload_n 1, 1) := by decide +kernel
theorem dX5_codeAt_23 : decode cX5_codeAt 23 = .ok (.iaload, 1) := by decide +kernel
theorem dX5_codeAt_24 : decode cX5_codeAt 24 = .ok (.goto 4, 3) := by decide +kernel
theorem dX5_codeAt_27 : decode cX5_codeAt 27 = .ok (.iconst 0, 1) := by decide +kernel
theorem dX5_codeAt_28 : decode cX5_codeAt 28 = .ok (.ireturn, 1) := by decide +kernel
theorem dX5_lesserAt_0 : decode cX5_lesserAt 0 = .ok (.aload_n 0, 1) := by decide +kernel
theorem dX5_lesserAt_1 : decode cX5_lesserAt 1 = .ok (.iload_n 1, 1) := by decide +kernel
theorem dX5_lesserAt_2 : decode cX5_lesserAt 2 = .ok (.invokevirtual 23, 3) := by decide +kernel
theorem dX5_lesserAt_5 : decode cX5_lesserAt 5 = .ok (.istore_n 2, 1) := by decide +kernel
theorem dX5_lesserAt_6 : decode cX5_lesserAt 6 = .ok (.iload_n 2, 1) := by decide +kernel
theorem dX5_lesserAt_7 : decode cX5_lesserAt 7 = .ok (.bipush 46, 2) := by decide +kernel
theorem dX5_lesserAt_9 : decode cX5_lesserAt 9 = .ok (.if_icmp .ne 5, 3) := by decide +kernel
theorem dX5_lesserAt_12 : decode cX5_lesserAt 12 = .ok (.iconst (-1), 1) := by decide +kernel
theorem dX5_lesserAt_13 : decode cX5_lesserAt 13 = .ok (.ireturn, 1) := by decide +kernel
theorem dX5_lesserAt_14 : decode cX5_lesserAt 14 = .ok (.iload_n 2, 1) := by decide +kernel
theorem dX5_lesserAt_15 : decode cX5_lesserAt 15 = .ok (.bipush 97, 2) := by decide +kernel
theorem dX5_lesserAt_17 : decode cX5_lesserAt 17 = .ok (.isub, 1) := by decide +kernel
theorem dX5_lesserAt_18 : decode cX5_lesserAt 18 = .ok (.istore_n 3, 1) := by decide +kernel
theorem dX5_lesserAt_19 : decode cX5_lesserAt 19 = .ok (.iload_n 3, 1) := by decide +kernel
theorem dX5_lesserAt_20 : decode cX5_lesserAt 20 = .ok (.ifCond .lt 12, 3) := by decide +kernel
theorem dX5_lesserAt_23 : decode cX5_lesserAt 23 = .ok (.iload_n 3, 1) := by decide +kernel
theorem dX5_lesserAt_24 : decode cX5_lesserAt 24 = .ok (.iload_n 1, 1) := by decide +kernel
theorem dX5_lesserAt_25 : decode cX5_lesserAt 25 = .ok (.if_icmp .ge 7, 3) := by decide +kernel
theorem dX5_lesserAt_28 : decode cX5_lesserAt 28 = .ok (.iload_n 3, 1) := by decide +kernel
theorem dX5_lesserAt_29 : decode cX5_lesserAt 29 = .ok (.goto 5, 3) := by decide +kernel
theorem dX5_lesserAt_32 : decode cX5_lesserAt 32 = .ok (.bipush (-2), 2) := by decide +kernel
theorem dX5_lesserAt_34 : decode cX5_lesserAt 34 = .ok (.ireturn, 1) := by decide +kernel
theorem dX5_firstWrong_0 : decode cX5_firstWrong 0 = .ok (.iconst 0, 1) := by decide +kernel
theorem dX5_firstWrong_1 : decode cX5_firstWrong 1 = .ok (.istore_n 1, 1) := by decide +kernel
theorem dX5_firstWrong_2 : decode cX5_firstWrong 2 = .ok (.iload_n 1, 1) := by decide +kernel
theorem dX5_firstWrong_3 : decode cX5_firstWrong 3 = .ok (.aload_n 0, 1) := by decide +kernel
theorem dX5_firstWrong_4 : decode cX5_firstWrong 4 = .ok (.getfield 15, 3) := by decide +kernel
theorem dX5_firstWrong_7 : decode cX5_firstWrong 7 = .ok (.if_icmp .ge 21, 3) := by decide +kernel
theorem dX5_firstWrong_10 : decode cX5_firstWrong 10 = .ok (.aload_n 0, 1) := by decide +kernel
theorem dX5_firstWrong_11 : decode cX5_firstWrong 11 = .ok (.iload_n 1, 1) := by decide +kernel
theorem dX5_firstWrong_12 : decode cX5_firstWrong 12 = .ok (.invokevirtual 27, 3) := by decide +kernel
theorem dX5_firstWrong_15 : decode cX5_firstWrong 15 = .ok (.bipush (-2), 2) := by decide +kernel
theorem dX5_firstWrong_17 : decode cX5_firstWrong 17 = .ok (.if_icmp .ne 5, 3) := by decide +kernel
theorem dX5_firstWrong_20 : decode cX5_firstWrong 20 = .ok (.iload_n 1, 1) := by decide +kernel
theorem dX5_firstWrong_21 : decode cX5_firstWrong 21 = .ok (.ireturn, 1) := by decide +kernel
theorem dX5_firstWrong_22 : decode cX5_firstWrong 22 = .ok (.iinc 1 1, 3) := by decide +kernel
theorem dX5_firstWrong_25 : decode cX5_firstWrong 25 = .ok (.goto (-23), 3) := by decide +kernel
theorem dX5_firstWrong_28 : decode cX5_firstWrong 28 = .ok (.aload_n 0, 1) := by decide +kernel
theorem dX5_firstWrong_29 : decode cX5_firstWrong 29 = .ok (.getfield 15, 3) := by decide +kernel
theorem dX5_firstWrong_32 : decode cX5_firstWrong 32 = .ok (.ireturn, 1) := by decide +kernel
theorem dX6_init_0 : decode cX6_init 0 = .ok (.aload_n 0, 1) := by decide +kernel
theorem dX6_init_1 : decode cX6_init 1 = .ok (.invokespecial 1, 3) := by decide +kernel
theorem dX6_init_4 : decode cX6_init 4 = .ok (.aload_n 0, 1) := by decide +kernel
theorem dX6_init_5 : decode cX6_init 5 = .ok (.new 7, 3) := by decide +kernel
theorem dX6_init_8 : decode cX6_init 8 = .ok (.dup, 1) := by decide +kernel
theorem dX6_init_9 : decode cX6_init 9 = .ok (.invokespecial 9, 3) := by decide +kernel
theorem dX6_init_12 : decode cX6_init 12 = .ok (.putfield 10, 3) := by decide +kernel
theorem dX6_init_15 : decode cX6_init 15 = .ok (.aload_n 0, 1) := by decide +kernel
theorem dX6_init_16 : decode cX6_init 16 = .ok (.iconst 2, 1) := by decide +kernel
theorem dX6_init_17 : decode cX6_init 17 = .ok (.anewarray 7, 3) := by decide +kernel
theorem dX6_init_20 : decode cX6_init 20 = .ok (.putfield 16, 3) := by decide +kernel
theorem dX6_init_23 : decode cX6_init 23 = .ok (.aload_n 0, 1) := by decide +kernel
theorem dX6_init_24 : decode cX6_init 24 = .ok (.iconst 2, 1) := by decide +kernel
theorem dX6_init_25 : decode cX6_init 25 = .ok (.newarray .boolean, 2) := by decide +kernel
theorem dX6_init_27 : decode cX6_init 27 = .ok (.putfield 20, 3) := by decide +kernel
theorem dX6_init_30 : decode cX6_init 30 = .ok (.aload_n 0, 1) := by decide +kernel
theorem dX6_init_31 : decode cX6_init 31 = .ok (.new 24, 3) := by decide +kernel
theorem dX6_init_34 : decode cX6_init 34 = .ok (.dup, 1) := by decide +kernel
theorem dX6_init_35 : decode cX6_init 35 = .ok (.invokespecial 26, 3) := by decide +kernel
theorem dX6_init_38 : decode cX6_init 38 = .ok (.putfield 27, 3) := by decide +kernel
theorem dX6_init_41 : decode cX6_init 41 = .ok (.aload_n 0, 1) := by decide +kernel
theorem dX6_init_42 : decode cX6_init 42 = .ok (.new 31, 3) := by decide +kernel
theorem dX6_init_45 : decode cX6_init 45 = .ok (.dup, 1) := by decide +kernel
theorem dX6_init_46 : decode cX6_init 46 = .ok (.invokespecial 33, 3) := by decide +kernel
theorem dX6_init_49 : decode cX6_init 49 = .ok (.putfield 34, 3) := by decide +kernel
theorem dX6_init_52 : decode cX6_init 52 = .ok (.aload_n 0, 1) := by decide +kernel
theorem dX6_init_53 : decode cX6_init 53 = .ok (.new 38, 3) := by decide +kernel
theorem dX6_init_56 : decode cX6_init 56 = .ok (.dup, 1) := by decide +kernel
theorem dX6_init_57 : decode cX6_init 57 = .ok (.invokespecial 40, 3) := by decide +kernel
theorem dX6_init_60 : decode cX6_init 60 = .ok (.putfield 41, 3) := by decide +kernel
theorem dX6_init_63 : decode cX6_init 63 = .ok (.aload_n 0, 1) := by decide +kernel
theorem dX6_init_64 : decode cX6_init 64 = .ok (.new 45, 3) := by decide +kernel
theorem dX6_init_67 : decode cX6_init 67 = .ok (.dup, 1) := by decide +kernel
theorem dX6_init_68 : decode cX6_init 68 = .ok (.invokespecial 47, 3) := by decide +kernel
theorem dX6_init_71 : decode cX6_init 71 = .ok (.putfield 48, 3) := by decide +kernel
theorem dX6_init_74 : decode cX6_init 74 = .ok (.aload_n 0, 1) := by decide +kernel
theorem dX6_init_75 : decode cX6_init 75 = .ok (.new 45, 3) := by decide +kernel
theorem dX6_init_78 : decode cX6_init 78 = .ok (.dup, 1) := by decide +kernel
theorem dX6_init_79 : decode cX6_init 79 = .ok (.invokespecial 47, 3) := by decide +kernel
theorem dX6_init_82 : decode cX6_init 82 = .ok (.putfield 52, 3) := by decide +kernel
theorem dX6_init_85 : decode cX6_init 85 = .ok (.aload_n 0, 1) := by decide +kernel
theorem dX6_init_86 : decode cX6_init 86 = .ok (.new 55, 3) := by decide +kernel
theorem dX6_init_89 : decode cX6_init 89 = .ok (.dup, 1) := by decide +kernel
theorem dX6_init_90 : decode cX6_init 90 = .ok (.invokespecial 57, 3) := by decide +kernel
theorem dX6_init_93 : decode cX6_init 93 = .ok (.putfield 58, 3) := by decide +kernel
theorem dX6_init_96 : decode cX6_init 96 = .ok (.iconst 0, 1) := by decide +kernel
theorem dX6_init_97 : decode cX6_init 97 = .ok (.istore_n 1, 1) := by decide +kernel
theorem dX6_init_98 : decode cX6_init 98 = .ok (.iload_n 1, 1) := by decide +kernel
theorem dX6_init_99 : decode cX6_init 99 = .ok (.iconst 2, 1) := by decide +kernel
theorem dX6_init_100 : decode cX6_init 100 = .ok (.if_icmp .ge 22, 3) := by decide +kernel
theorem dX6_init_103 : decode cX6_init 103 = .ok (.aload_n 0, 1) := by decide +kernel
theorem dX6_init_104 : decode cX6_init 104 = .ok (.getfield 16, 3) := by decide +kernel
theorem dX6_init_107 : decode cX6_init 107 = .ok (.iload_n 1, 1) := by decide +kernel
theorem dX6_init_108 : decode cX6_init 108 = .ok (.new 7, 3) := by decide +kernel
theorem dX6_init_111 : decode cX6_init 111 = .ok (.dup, 1) := by decide +kernel
theorem dX6_init_112 : decode cX6_init 112 = .ok (.invokespecial 9, 3) := by decide +kernel
theorem dX6_init_115 : decode cX6_init 115 = .ok (.aastore, 1) := by decide +kernel
theorem dX6_init_116 : decode cX6_init 116 = .ok (.iinc 1 1, 3) := by decide +kernel
theorem dX6_init_119 : decode cX6_init 119 = .ok (.goto (-21), 3) := by decide +kernel
theorem dX6_init_122 : decode cX6_init 122 = .ok (.return_, 1) := by decide +kernel
theorem dX6_node_0 : decode cX6_node 0 = .ok (.iload_n 1, 1) := by decide +kernel
theorem dX6_node_1 : decode cX6_node 1 = .ok (.iconst (-1), 1) := by decide +kernel
theorem dX6_node_2 : decode cX6_node 2 = .ok (.if_icmp .eq 8, 3) := by decide +kernel
theorem dX6_node_5 : decode cX6_node 5 = .ok (.aload_n 0, 1) := by decide +kernel
theorem dX6_node_6 : decode cX6_node 6 = .ok (.iload_n 1, 1) := by decide +kernel
theorem dX6_node_7 : decode cX6_node 7 = .ok (.invokevirtual 62, 3) := by decide +kernel
theorem dX6_node_10 : decode cX6_node 10 = .ok (.aload_n 0, 1) := by decide +kernel
theorem dX6_node_11 : decode cX6_node 11 = .ok (.getfield 10, 3) := by decide +kernel
theorem dX6_node_14 : decode cX6_node 14 = .ok (.getfield 66, 3) := by decide +kernel
theorem dX6_node_17 : decode cX6_node 17 = .ok (.bipush 14, 2) := by decide +kernel
theorem dX6_node_19 : decode cX6_node 19 = .ok (.if_icmp .lt 13, 3) := by decide +kernel
theorem dX6_node_22 : decode cX6_node 22 = .ok (.new 70, 3) := by decide +kernel
theorem dX6_node_25 : decode cX6_node 25 = .ok (.dup, 1) := by decide +kernel
theorem dX6_node_26 : decode cX6_node 26 = .ok (.ldc 72, 2) := by decide +kernel
theorem dX6_node_28 : decode cX6_node 28 = .ok (.invokespecial 74, 3) := by decide +kernel
theorem dX6_node_31 : decode cX6_node 31 = .ok (.athrow, 1) := by decide +kernel
theorem dX6_node_32 : decode cX6_node 32 = .ok (.iload_n 1, 1) := by decide +kernel
theorem dX6_node_33 : decode cX6_node 33 = .ok (.iconst (-1), 1) := by decide +kernel
theorem dX6_node_34 : decode cX6_node 34 = .ok (.if_icmp .eq 8, 3) := by decide +kernel
theorem dX6_node_37 : decode cX6_node 37 = .ok (.aload_n 0, 1) := by decide +kernel
theorem dX6_node_38 : decode cX6_node 38 = .ok (.iload_n 1, 1) := by decide +kernel
theorem dX6_node_39 : decode cX6_node 39 = .ok (.invokevirtual 77, 3) := by decide +kernel
theorem dX6_node_42 : decode cX6_node 42 = .ok (.aload_n 0, 1) := by decide +kernel
theorem dX6_node_43 : decode cX6_node 43 = .ok (.getfield 27, 3) := by decide +kernel
theorem dX6_node_46 : decode cX6_node 46 = .ok (.aload_n 0, 1) := by decide +kernel
theorem dX6_node_47 : decode cX6_node 47 = .ok (.getfield 10, 3) := by decide +kernel
theorem dX6_node_50 : decode cX6_node 50 = .ok (.invokevirtual 80, 3) := by decide +kernel
theorem dX6_node_53 : decode cX6_node 53 = .ok (.aload_n 0, 1) := by decide +kernel
theorem dX6_node_54 : decode cX6_node 54 = .ok (.getfield 10, 3) := by decide +kernel
theorem dX6_node_57 : decode cX6_node 57 = .ok (.iload_n 1, 1) := by decide +kernel
theorem dX6_node_58 : decode cX6_node 58 = .ok (.invokevirtual 84, 3) := by decide +kernel
theorem dX6_node_61 : decode cX6_node 61 = .ok (.aload_n 0, 1) := by decide +kernel
theorem dX6_node_62 : decode cX6_node 62 = .ok (.getfield 10, 3) := by decide +kernel
theorem dX6_node_65 : decode cX6_node 65 = .ok (.getfield 66, 3) := by decide +kernel
theorem dX6_node_68 : decode cX6_node 68 = .ok (.iconst 1, 1) := by decide +kernel
theorem dX6_node_69 : decode cX6_node 69 = .ok (.isub, 1) := by decide +kernel
theorem dX6_node_70 : decode cX6_node 70 = .ok (.ireturn, 1) := by decide +kernel
theorem dX6_join_0 : decode cX6_join 0 = .ok (.aload_n 0, 1) := by decide +kernel
theorem dX6_join_1 : decode cX6_join 1 = .ok (.iload_n 1, 1) := by decide +kernel
theorem dX6_join_2 : decode cX6_join 2 = .ok (.invokevirtual 62, 3) := by decide +kernel
theorem dX6_join_5 : decode cX6_join 5 = .ok (.aload_n 0, 1) := by decide +kernel
theorem dX6_join_6 : decode cX6_join 6 = .ok (.iload_n 2, 1) := by decide +kernel
theorem dX6_join_7 : decode cX6_join 7 = .ok (.invokevirtual 62, 3) := by decide +kernel
theorem dX6_join_10 : decode cX6_join 10 = .ok (.aload_n 0, 1) := by decide +kernel
theorem dX6_join_11 : decode cX6_join 11 = .ok (.getfield 10, 3) := by decide +kernel
theorem dX6_join_14 : decode cX6_join 14 = .ok (.iload_n 1, 1) := by decide +kernel
theorem dX6_join_15 : decode cX6_join 15 = .ok (.iload_n 2, 1) := by decide +kernel
theorem dX6_join_16 : decode cX6_join 16 = .ok (.invokevirtual 87, 3) := by decide +kernel
theorem dX6_join_19 : decode cX6_join 19 = .ok (.ifCond .ne 13, 3) := by decide +kernel
theorem dX6_join_22 : decode cX6_join 22 = .ok (.new 70, 3) := by decide +kernel
theorem dX6_join_25 : decode cX6_join 25 = .ok (.dup, 1) := by decide +kernel
theorem dX6_join_26 : decode cX6_join 26 = .ok (.ldc 91, 2) := by decide +kernel
theorem dX6_join_28 : decode cX6_join 28 = .ok (.invokespecial 74, 3) := by decide +kernel
theorem dX6_join_31 : decode cX6_join 31 = .ok (.athrow, 1) := by decide +kernel
theorem dX6_join_32 : decode cX6_join 32 = .ok (.aload_n 0, 1) := by decide +kernel
theorem dX6_join_33 : decode cX6_join 33 = .ok (.getfield 27, 3) := by decide +kernel
theorem dX6_join_36 : decode cX6_join 36 = .ok (.aload_n 0, 1) := by decide +kernel
theorem dX6_join_37 : decode cX6_join 37 = .ok (.getfield 10, 3) := by decide +kernel
theorem dX6_join_40 : decode cX6_join 40 = .ok (.invokevirtual 80, 3) := by decide +kernel
theorem dX6_join_43 : decode cX6_join 43 = .ok (.aload_n 0, 1) := by decide +kernel
theorem dX6_join_44 : decode cX6_join 44 = .ok (.getfield 10, 3) := by decide +kernel
theorem dX6_join_47 : decode cX6_join 47 = .ok (.getfield 93, 3) := by decide +kernel
theorem dX6_join_50 : decode cX6_join 50 = .ok (.iload_n 1, 1) := by decide +kernel
theorem dX6_join_51 : decode cX6_join 51 = .ok (.iload_n 2, 1) := by decide +kernel
theorem dX6_join_52 : decode cX6_join 52 = .ok (.invokevirtual 96, 3) := by decide +kernel
theorem dX6_join_55 : decode cX6_join 55 = .ok (.aload_n 0, 1) := by decide +kernel
theorem dX6_join_56 : decode cX6_join 56 = .ok (.getfield 10, 3) := by decide +kernel
theorem dX6_join_59 : decode cX6_join 59 = .ok (.invokevirtual 100, 3) := by decide +kernel
theorem dX6_join_62 : decode cX6_join 62 = .ok (.ireturn, 1) := by decide +kernel
theorem dX6_cut_0 : decode cX6_cut 0 = .ok (.aload_n 0, 1) := by decide +kernel
theorem dX6_cut_1 : decode cX6_cut 1 = .ok (.iload_n 1, 1) := by decide +kernel
theorem dX6_cut_2 : decode cX6_cut 2 = .ok (.invokevirtual 62, 3) := by decide +kernel
theorem dX6_cut_5 : decode cX6_cut 5 = .ok (.aload_n 0, 1) := by decide +kernel
theorem dX6_cut_6 : decode cX6_cut 6 = .ok (.iload_n 2, 1) := by decide +kernel
theorem dX6_cut_7 : decode cX6_cut 7 = .ok (.invokevirtual 62, 3) := by decide +kernel
theorem dX6_cut_10 : decode cX6_cut 10 = .ok (.aload_n 0, 1) := by decide +kernel
theorem dX6_cut_11 : decode cX6_cut 11 = .ok (.getfield 10, 3) := by decide +kernel
theorem dX6_cut_14 : decode cX6_cut 14 = .ok (.iload_n 1, 1) := by decide +kernel
theorem dX6_cut_15 : decode cX6_cut 15 = .ok (.iload_n 2, 1) := by decide +kernel
theorem dX6_cut_16 : decode cX6_cut 16 = .ok (.invokevirtual 104, 3) := by decide +kernel
theorem dX6_cut_19 : decode cX6_cut 19 = .ok (.ifCond .ne 13, 3) := by decide +kernel
theorem dX6_cut_22 : decode cX6_cut 22 = .ok (.new 70, 3) := by decide +kernel
theorem dX6_cut_25 : decode cX6_cut 25 = .ok (.dup, 1) := by decide +kernel
theorem dX6_cut_26 : decode cX6_cut 26 = .ok (.ldc 107, 2) := by decide +kernel
theorem dX6_cut_28 : decode cX6_cut 28 = .ok (.invokespecial 74, 3) := by decide +kernel
theorem dX6_cut_31 : decode cX6_cut 31 = .ok (.athrow, 1) := by decide +kernel
theorem dX6_cut_32 : decode cX6_cut 32 = .ok (.aload_n 0, 1) := by decide +kernel
theorem dX6_cut_33 : decode cX6_cut 33 = .ok (.iload_n 1, 1) := by decide +kernel
theorem dX6_cut_34 : decode cX6_cut 34 = .ok (.iload_n 2, 1) := by decide +kernel
theorem dX6_cut_35 : decode cX6_cut 35 = .ok (.invokevirtual 109, 3) := by decide +kernel
theorem dX6_cut_38 : decode cX6_cut 38 = .ok (.ifCond .eq 7, 3) := by decide +kernel
theorem dX6_cut_41 : decode cX6_cut 41 = .ok (.iconst 1, 1) := by decide +kernel
theorem dX6_cut_42 : decode cX6_cut 42 = .ok (.goto 4, 3) := by decide +kernel
theorem dX6_cut_45 : decode cX6_cut 45 = .ok (.iconst 0, 1) := by decide +kernel
theorem dX6_cut_46 : decode cX6_cut 46 = .ok (.istore_n 3, 1) := by decide +kernel
theorem dX6_cut_47 : decode cX6_cut 47 = .ok (.aload_n 0, 1) := by decide +kernel
theorem dX6_cut_48 : decode cX6_cut 48 = .ok (.getfield 27, 3) := by decide +kernel
theorem dX6_cut_51 : decode cX6_cut 51 = .ok (.aload_n 0, 1) := by decide +kernel
theorem dX6_cut_52 : decode cX6_cut 52 = .ok (.getfield 10, 3) := by decide +kernel
theorem dX6_cut_55 : decode cX6_cut 55 = .ok (.invokevirtual 80, 3) := by decide +kernel
theorem dX6_cut_58 : decode cX6_cut 58 = .ok (.aload_n 0, 1) := by decide +kernel
theorem dX6_cut_59 : decode cX6_cut 59 = .ok (.getfield 10, 3) := by decide +kernel
theorem dX6_cut_62 : decode cX6_cut 62 = .ok (.getfield 93, 3) := by decide +kernel
theorem dX6_cut_65 : decode cX6_cut 65 = .ok (.iload_n 1, 1) := by decide +kernel
theorem dX6_cut_66 : decode cX6_cut 66 = .ok (.iload_n 2, 1) := by decide +kernel
theorem dX6_cut_67 : decode cX6_cut 67 = .ok (.invokevirtual 112, 3) := by decide +kernel
theorem dX6_cut_70 : decode cX6_cut 70 = .ok (.iload_n 3, 1) := by decide +kernel
theorem dX6_cut_71 : decode cX6_cut 71 = .ok (.ireturn, 1) := by decide +kernel
theorem dX6_take_0 : decode cX6_take 0 = .ok (.aload_n 0, 1) := by decide +kernel
theorem dX6_take_1 : decode cX6_take 1 = .ok (.iload_n 1, 1) := by decide +kernel
theorem dX6_take_2 : decode cX6_take 2 = .ok (.invokevirtual 62, 3) := by decide +kernel
theorem dX6_take_5 : decode cX6_take 5 = .ok (.aload_n 0, 1) := by decide +kernel
theorem dX6_take_6 : decode cX6_take 6 = .ok (.iload_n 1, 1) := by decide +kernel
theorem dX6_take_7 : decode cX6_take 7 = .ok (.invokevirtual 77, 3) := by decide +kernel
theorem dX6_take_10 : decode cX6_take 10 = .ok (.aload_n 0, 1) := by decide +kernel
theorem dX6_take_11 : decode cX6_take 11 = .ok (.getfield 27, 3) := by decide +kernel
theorem dX6_take_14 : decode cX6_take 14 = .ok (.aload_n 0, 1) := by decide +kernel
theorem dX6_take_15 : decode cX6_take 15 = .ok (.getfield 10, 3) := by decide +kernel
theorem dX6_take_18 : decode cX6_take 18 = .ok (.invokevirtual 80, 3) := by decide +kernel
theorem dX6_take_21 : decode cX6_take 21 = .ok (.aload_n 0, 1) := by decide +kernel
theorem dX6_take_22 : decode cX6_take 22 = .ok (.getfield 10, 3) := by decide +kernel
theorem dX6_take_25 : decode cX6_take 25 = .ok (.iload_n 1, 1) := by decide +kernel
theorem dX6_take_26 : decode cX6_take 26 = .ok (.invokevirtual 115, 3) := by decide +kernel
theorem dX6_take_29 : decode cX6_take 29 = .ok (.ireturn, 1) := by decide +kernel
theorem dX6_reply_0 : decode cX6_reply 0 = .ok (.aload_n 0, 1) := by decide +kernel
theorem dX6_reply_1 : decode cX6_reply 1 = .ok (.getfield 10, 3) := by decide +kernel
theorem dX6_reply_4 : decode cX6_reply 4 = .ok (.getfield 119, 3) := by decide +kernel
theorem dX6_reply_7 : decode cX6_reply 7 = .ok (.ifCond .ne 13, 3) := by decide +kernel
theorem dX6_reply_10 : decode cX6_reply 10 = .ok (.new 70, 3) := by decide +kernel
theorem dX6_reply_13 : decode cX6_reply 13 = .ok (.dup, 1) := by decide +kernel
theorem dX6_reply_14 : decode cX6_reply 14 = .ok (.ldc 122, 2) := by decide +kernel
theorem dX6_reply_16 : decode cX6_reply 16 = .ok (.invokespecial 74, 3) := by decide +kernel
theorem dX6_reply_19 : decode cX6_reply 19 = .ok (.athrow, 1) := by decide +kernel
theorem dX6_reply_20 : decode cX6_reply 20 = .ok (.aload_n 0, 1) := by decide +kernel
theorem dX6_reply_21 : decode cX6_reply 21 = .ok (.invokevirtual 124, 3) := by decide +kernel
theorem dX6_reply_24 : decode cX6_reply 24 = .ok (.istore_n 1, 1) := by decide +kernel
theorem dX6_reply_25 : decode cX6_reply 25 = .ok (.iload_n 1, 1) := by decide +kernel
theorem dX6_reply_26 : decode cX6_reply 26 = .ok (.iconst (-1), 1) := by decide +kernel
theorem dX6_reply_27 : decode cX6_reply 27 = .ok (.if_icmp .ne 16, 3) := by decide +kernel
theorem dX6_reply_30 : decode cX6_reply 30 = .ok (.aload_n 0, 1) := by decide +kernel
theorem dX6_reply_31 : decode cX6_reply 31 = .ok (.getfield 10, 3) := by decide +kernel
theorem dX6_reply_34 : decode cX6_reply 34 = .ok (.getfield 119, 3) := by decide +kernel
theorem dX6_reply_37 : decode cX6_reply 37 = .ok (.invokestatic 127, 3) := by decide +kernel
theorem dX6_reply_40 : decode cX6_reply 40 = .ok (.goto 4, 3) := by decide +kernel
theorem dX6_reply_43 : decode cX6_reply 43 = .ok (.iload_n 1, 1) := by decide +kernel
theorem dX6_reply_44 : decode cX6_reply 44 = .ok (.istore_n 2, 1) := by decide +kernel
theorem dX6_reply_45 : decode cX6_reply 45 = .ok (.aload_n 0, 1) := by decide +kernel
theorem dX6_reply_46 : decode cX6_reply 46 = .ok (.getfield 27, 3) := by decide +kernel
theorem dX6_reply_49 : decode cX6_reply 49 = .ok (.aload_n 0, 1) := by decide +kernel
theorem dX6_reply_50 : decode cX6_reply 50 = .ok (.getfield 10, 3) := by decide +kernel
theorem dX6_reply_53 : decode cX6_reply 53 = .ok (.invokevirtual 80, 3) := by decide +kernel
theorem dX6_reply_56 : decode cX6_reply 56 = .ok (.aload_n 0, 1) := by decide +kernel
theorem dX6_reply_57 : decode cX6_reply 57 = .ok (.getfield 10, 3) := by decide +kernel
theorem dX6_reply_60 : decode cX6_reply 60 = .ok (.iload_n 2, 1) := by decide +kernel
theorem dX6_reply_61 : decode cX6_reply 61 = .ok (.invokevirtual 115, 3) := by decide +kernel
theorem dX6_reply_64 : decode cX6_reply 64 = .ok (.pop, 1) := by decide +kernel
theorem dX6_reply_65 : decode cX6_reply 65 = .ok (.iload_n 2, 1) := by decide +kernel
theorem dX6_reply_66 : decode cX6_reply 66 = .ok (.ireturn, 1) := by decide +kernel
theorem dX6_again_0 : decode cX6_again 0 = .ok (.aload_n 0, 1) := by decide +kernel
theorem dX6_again_1 : decode cX6_again 1 = .ok (.getfield 10, 3) := by decide +kernel
theorem dX6_again_4 : decode cX6_again 4 = .ok (.getfield 66, 3) := by decide +kernel
theorem dX6_again_7 : decode cX6_again 7 = .ok (.aload_n 0, 1) := by decide +kernel
theorem dX6_again_8 : decode cX6_again 8 = .ok (.getfield 10, 3) := by decide +kernel
theorem dX6_again_11 : decode cX6_again 11 = .ok (.getfield 119, 3) := by decide +kernel
theorem dX6_again_14 : decode cX6_again 14 = .ok (.invokestatic 132, 3) := by decide +kernel
theorem dX6_again_17 : decode cX6_again 17 = .ok (.isub, 1) := by decide +kernel
theorem dX6_again_18 : decode cX6_again 18 = .ok (.istore_n 1, 1) := by decide +kernel
theorem dX6_again_19 : decode cX6_again 19 = .ok (.aload_n 0, 1) := by decide +kernel
theorem dX6_again_20 : decode cX6_again 20 = .ok (.getfield 27, 3) := by decide +kernel
theorem dX6_again_23 : decode cX6_again 23 = .ok (.aload_n 0, 1) := by decide +kernel
theorem dX6_again_24 : decode cX6_again 24 = .ok (.getfield 10, 3) := by decide +kernel
theorem dX6_again_27 : decode cX6_again 27 = .ok (.invokevirtual 80, 3) := by decide +kernel
theorem dX6_again_30 : decode cX6_again 30 = .ok (.aload_n 0, 1) := by decide +kernel
theorem dX6_again_31 : decode cX6_again 31 = .ok (.getfield 10, 3) := by decide +kernel
theorem dX6_again_34 : decode cX6_again 34 = .ok (.invokevirtual 135, 3) := by decide +kernel
theorem dX6_again_37 : decode cX6_again 37 = .ok (.iload_n 1, 1) := by decide +kernel
theorem dX6_again_38 : decode cX6_again 38 = .ok (.ireturn, 1) := by decide +kernel
theorem dX6_append_0 : decode cX6_append 0 = .ok (.iload_n 1, 1) := by decide +kernel
theorem dX6_append_1 : decode cX6_append 1 = .ok (.bipush 33, 2) := by decide +kernel
theorem dX6_append_3 : decode cX6_append 3 = .ok (.if_icmp .lt 9, 3) := by decide +kernel
theorem dX6_append_6 : decode cX6_append 6 = .ok (.iload_n 1, 1) := by decide +kernel
theorem dX6_append_7 : decode cX6_append 7 = .ok (.bipush 126, 2) := by decide +kernel
theorem dX6_append_9 : decode cX6_append 9 = .ok (.if_icmp .le 13, 3) := by decide +kernel
theorem dX6_append_12 : decode cX6_append 12 = .ok (.new 138, 3) := by decide +kernel
theorem dX6_append_15 : decode cX6_append 15 = .ok (.dup, 1) := by decide +kernel
theorem dX6_append_16 : decode cX6_append 16 = .ok (.ldc 140, 2) := by decide +kernel
theorem dX6_append_18 : decode cX6_append 18 = .ok (.invokespecial 142, 3) := by decide +kernel
theorem dX6_append_21 : decode cX6_append 21 = .ok (.athrow, 1) := by decide +kernel
theorem dX6_append_22 : decode cX6_append 22 = .ok (.aload_n 0, 1) := by decide +kernel
theorem dX6_append_23 : decode cX6_append 23 = .ok (.getfield 34, 3) := by decide +kernel
theorem dX6_append_26 : decode cX6_append 26 = .ok (.getfield 143, 3) := by decide +kernel
theorem dX6_append_29 : decode cX6_append 29 = .ok (.bipush 14, 2) := by decide +kernel
theorem dX6_append_31 : decode cX6_append 31 = .ok (.if_icmp .lt 13, 3) := by decide +kernel
theorem dX6_append_34 : decode cX6_append 34 = .ok (.new 70, 3) := by decide +kernel
theorem dX6_append_37 : decode cX6_append 37 = .ok (.dup, 1) := by decide +kernel
theorem dX6_append_38 : decode cX6_append 38 = .ok (.ldc 146, 2) := by decide +kernel
theorem dX6_append_40 : decode cX6_append 40 = .ok (.invokespecial 74, 3) := by decide +kernel
theorem dX6_append_43 : decode cX6_append 43 = .ok (.athrow, 1) := by decide +kernel
theorem dX6_append_44 : decode cX6_append 44 = .ok (.aload_n 0, 1) := by decide +kernel
theorem dX6_append_45 : decode cX6_append 45 = .ok (.getfield 34, 3) := by decide +kernel
theorem dX6_append_48 : decode cX6_append 48 = .ok (.iload_n 1, 1) := by decide +kernel
theorem dX6_append_49 : decode cX6_append 49 = .ok (.invokevirtual 148, 3) := by decide +kernel
theorem dX6_append_52 : decode cX6_append 52 = .ok (.aload_n 0, 1) := by decide +kernel
theorem dX6_append_53 : decode cX6_append 53 = .ok (.getfield 34, 3) := by decide +kernel
theorem dX6_append_56 : decode cX6_append 56 = .ok (.getfield 143, 3) := by decide +kernel
theorem dX6_append_59 : decode cX6_append 59 = .ok (.ireturn, 1) := by decide +kernel
theorem dX6_clearBuffer_0 : decode cX6_clearBuffer 0 = .ok (.aload_n 0, 1) := by decide +kernel
theorem dX6_clearBuffer_1 : decode cX6_clearBuffer 1 = .ok (.getfield 34, 3) := by decide +kernel
theorem dX6_clearBuffer_4 : decode cX6_clearBuffer 4 = .ok (.getfield 143, 3) := by decide +kernel
theorem dX6_clearBuffer_7 : decode cX6_clearBuffer 7 = .ok (.istore_n 1, 1) := by decide +kernel
theorem dX6_clearBuffer_8 : decode cX6_clearBuffer 8 = .ok (.aload_n 0, 1) := by decide +kernel
theorem dX6_clearBuffer_9 : decode cX6_clearBuffer 9 = .ok (.getfield 34, 3) := by decide +kernel
theorem dX6_clearBuffer_12 : decode cX6_clearBuffer 12 = .ok (.invokevirtual 151, 3) := by decide +kernel
theorem dX6_clearBuffer_15 : decode cX6_clearBuffer 15 = .ok (.iload_n 1, 1) := by decide +kernel
theorem dX6_clearBuffer_16 : decode cX6_clearBuffer 16 = .ok (.ireturn, 1) := by decide +kernel
theorem dX6_firstError_0 : decode cX6_firstError 0 = .ok (.aload_n 0, 1) := by decide +kernel
theorem dX6_firstError_1 : decode cX6_firstError 1 = .ok (.getfield 34, 3) := by decide +kernel
theorem dX6_firstError_4 : decode cX6_firstError 4 = .ok (.invokevirtual 154, 3) := by decide +kernel
theorem dX6_firstError_7 : decode cX6_firstError 7 = .ok (.ireturn, 1) := by decide +kernel
theorem dX6_load_0 : decode cX6_load 0 = .ok (.aload_n 0, 1) := by decide +kernel
theorem dX6_load_1 : decode cX6_load 1 = .ok (.getfield 34, 3) := by decide +kernel
theorem dX6_load_4 : decode cX6_load 4 = .ok (.invokevirtual 154, 3) := by decide +kernel
theorem dX6_load_7 : decode cX6_load 7 = .ok (.aload_n 0, 1) := by decide +kernel
theorem dX6_load_8 : decode cX6_load 8 = .ok (.getfield 34, 3) := by decide +kernel
theorem dX6_load_11 : decode cX6_load 11 = .ok (.getfield 143, 3) := by decide +kernel
theorem dX6_load_14 : decode cX6_load 14 = .ok (.if_icmp .ge 13, 3) := by decide +kernel
theorem dX6_load_17 : decode cX6_load 17 = .ok (.new 138, 3) := by decide +kernel
theorem dX6_load_20 : decode cX6_load 20 = .ok (.dup, 1) := by decide +kernel
theorem dX6_load_21 : decode cX6_load 21 = .ok (.ldc 157, 2) := by decide +kernel
theorem dX6_load_23 : decode cX6_load 23 = .ok (.invokespecial 142, 3) := by decide +kernel
theorem dX6_load_26 : decode cX6_load 26 = .ok (.athrow, 1) := by decide +kernel
theorem dX6_load_27 : decode cX6_load 27 = .ok (.aload_n 0, 1) := by decide +kernel
theorem dX6_load_28 : decode cX6_load 28 = .ok (.getfield 27, 3) := by decide +kernel
theorem dX6_load_31 : decode cX6_load 31 = .ok (.aload_n 0, 1) := by decide +kernel
theorem dX6_load_32 : decode cX6_load 32 = .ok (.getfield 10, 3) := by decide +kernel
theorem dX6_load_35 : decode cX6_load 35 = .ok (.invokevirtual 80, 3) := by decide +kernel
theorem dX6_load_38 : decode cX6_load 38 = .ok (.aload_n 0, 1) := by decide +kernel
theorem dX6_load_39 : decode cX6_load 39 = .ok (.getfield 10, 3) := by decide +kernel
theorem dX6_load_42 : decode cX6_load 42 = .ok (.invokevirtual 159, 3) := by decide +kernel
theorem dX6_load_45 : decode cX6_load 45 = .ok (.iconst 0, 1) := by decide +kernel
theorem dX6_load_46 : decode cX6_load 46 = .ok (.istore_n 1, 1) := by decide +kernel
theorem dX6_load_47 : decode cX6_load 47 = .ok (.iload_n 1, 1) := by decide +kernel
theorem dX6_load_48 : decode cX6_load 48 = .ok (.aload_n 0, 1) := by decide +kernel
theorem dX6_load_49 : decode cX6_load 49 = .ok (.getfield 34, 3) := by decide +kernel
theorem dX6_load_52 : decode cX6_load 52 = .ok (.getfield 143, 3) := by decide +kernel
theorem dX6_load_55 : decode cX6_load 55 = .ok (.if_icmp .ge 24, 3) := by decide +kernel
theorem dX6_load_58 : decode cX6_load 58 = .ok (.aload_n 0, 1) := by decide +kernel
theorem dX6_load_59 : decode cX6_load 59 = .ok (.getfield 10, 3) := by decide +kernel
theorem dX6_load_62 : decode cX6_load 62 = .ok (.aload_n 0, 1) := by decide +kernel
theorem dX6_load_63 : decode cX6_load 63 = .ok (.getfield 34, 3) := by decide +kernel
theorem dX6_load_66 : decode cX6_load 66 = .ok (.iload_n 1, 1) := by decide +kernel
theorem dX6_load_67 : decode cX6_load 67 = .ok (.invokevirtual 160, 3) := by decide +kernel
theorem dX6_load_70 : decode cX6_load 70 = .ok (.invokevirtual 84, 3) := by decide +kernel
theorem dX6_load_73 : decode cX6_load 73 = .ok (.iinc 1 1, 3) := by decide +kernel
theorem dX6_load_76 : decode cX6_load 76 = .ok (.goto (-29), 3) := by decide +kernel
theorem dX6_load_79 : decode cX6_load 79 = .ok (.aload_n 0, 1) := by decide +kernel
theorem dX6_load_80 : decode cX6_load 80 = .ok (.getfield 34, 3) := by decide +kernel
theorem dX6_load_83 : decode cX6_load 83 = .ok (.invokevirtual 151, 3) := by decide +kernel
theorem dX6_load_86 : decode cX6_load 86 = .ok (.aload_n 0, 1) := by decide +kernel
theorem dX6_load_87 : decode cX6_load 87 = .ok (.getfield 10, 3) := by decide +kernel
theorem dX6_load_90 : decode cX6_load 90 = .ok (.getfield 66, 3) := by decide +kernel
theorem dX6_load_93 : decode cX6_load 93 = .ok (.ireturn, 1) := by decide +kernel
theorem dX6_write_0 : decode cX6_write 0 = .ok (.aload_n 0, 1) := by decide +kernel
theorem dX6_write_1 : decode cX6_write 1 = .ok (.getfield 10, 3) := by decide +kernel
theorem dX6_write_4 : decode cX6_write 4 = .ok (.invokevirtual 163, 3) := by decide +kernel
theorem dX6_write_7 : decode cX6_write 7 = .ok (.ifCond .ne 5, 3) := by decide +kernel
theorem dX6_write_10 : decode cX6_write 10 = .ok (.iconst (-1), 1) := by decide +kernel
theorem dX6_write_11 : decode cX6_write 11 = .ok (.ireturn, 1) := by decide +kernel
theorem dX6_write_12 : decode cX6_write 12 = .ok (.aload_n 0, 1) := by decide +kernel
theorem dX6_write_13 : decode cX6_write 13 = .ok (.getfield 34, 3) := by decide +kernel
theorem dX6_write_16 : decode cX6_write 16 = .ok (.invokevirtual 151, 3) := by decide +kernel
theorem dX6_write_19 : decode cX6_write 19 = .ok (.iconst 0, 1) := by decide +kernel
theorem dX6_write_20 : decode cX6_write 20 = .ok (.istore_n 1, 1) := by decide +kernel
theorem dX6_write_21 : decode cX6_write 21 = .ok (.iload_n 1, 1) := by decide +kernel
theorem dX6_write_22 : decode cX6_write 22 = .ok (.aload_n 0, 1) := by decide +kernel
theorem dX6_write_23 : decode cX6_write 23 = .ok (.getfield 10, 3) := by decide +kernel
theorem dX6_write_26 : decode cX6_write 26 = .ok (.getfield 66, 3) := by decide +kernel
theorem dX6_write_29 : decode cX6_write 29 = .ok (.if_icmp .ge 24, 3) := by decide +kernel
theorem dX6_write_32 : decode cX6_write 32 = .ok (.aload_n 0, 1) := by decide +kernel
theorem dX6_write_33 : decode cX6_write 33 = .ok (.getfield 34, 3) := by decide +kernel
theorem dX6_write_36 : decode cX6_write 36 = .ok (.aload_n 0, 1) := by decide +kernel
theorem dX6_write_37 : decode cX6_write 37 = .ok (.getfield 10, 3) := by decide +kernel
theorem dX6_write_40 : decode cX6_write 40 = .ok (.iload_n 1, 1) := by decide +kernel
theorem dX6_write_41 : decode cX6_write 41 = .ok (.invokevirtual 167, 3) := by decide +kernel
theorem dX6_write_44 : decode cX6_write 44 = .ok (.invokevirtual 170, 3) := by decide +kernel
theorem dX6_write_47 : decode cX6_write 47 = .ok (.iinc 1 1, 3) := by decide +kernel
theorem dX6_write_50 : decode cX6_write 50 = .ok (.goto (-29), 3) := by decide +kernel
theorem dX6_write_53 : decode cX6_write 53 = .ok (.aload_n 0, 1) := by decide +kernel
theorem dX6_write_54 : decode cX6_write 54 = .ok (.getfield 34, 3) := by decide +kernel
theorem dX6_write_57 : decode cX6_write 57 = .ok (.getfield 143, 3) := by decide +kernel
theorem dX6_write_60 : decode cX6_write 60 = .ok (.ireturn, 1) := by decide +kernel
theorem dX6_keep_0 : decode cX6_keep 0 = .ok (.iload_n 1, 1) := by decide +kernel
theorem dX6_keep_1 : decode cX6_keep 1 = .ok (.invokestatic 173, 3) := by decide +kernel
theorem dX6_keep_4 : decode cX6_keep 4 = .ok (.aload_n 0, 1) := by decide +kernel
theorem dX6_keep_5 : decode cX6_keep 5 = .ok (.getfield 16, 3) := by decide +kernel
theorem dX6_keep_8 : decode cX6_keep 8 = .ok (.iload_n 1, 1) := by decide +kernel
theorem dX6_keep_9 : decode cX6_keep 9 = .ok (.aaload, 1) := by decide +kernel
theorem dX6_keep_10 : decode cX6_keep 10 = .ok (.astore_n 2, 1) := by decide +kernel
theorem dX6_keep_11 : decode cX6_keep 11 = .ok (.aload_n 2, 1) := by decide +kernel
theorem dX6_keep_12 : decode cX6_keep 12 = .ok (.ifnull 18, 3) := by decide +kernel
theorem dX6_keep_15 : decode cX6_keep 15 = .ok (.aload_n 2, 1) := by decide +kernel
theorem dX6_keep_16 : decode cX6_keep 16 = .ok (.aload_n 0, 1) := by decide +kernel
theorem dX6_keep_17 : decode cX6_keep 17 = .ok (.getfield 10, 3) := by decide +kernel
theorem dX6_keep_20 : decode cX6_keep 20 = .ok (.invokevirtual 176, 3) := by decide +kernel
theorem dX6_keep_23 : decode cX6_keep 23 = .ok (.aload_n 0, 1) := by decide +kernel
theorem dX6_keep_24 : decode cX6_keep 24 = .ok (.getfield 20, 3) := by decide +kernel
theorem dX6_keep_27 : decode cX6_keep 27 = .ok (.iload_n 1, 1) := by decide +kernel
theorem dX6_keep_28 : decode cX6_keep 28 = .ok (.iconst 1, 1) := by decide +kernel
theorem dX6_keep_29 : decode cX6_keep 29 = .ok (.bastore, 1) := by decide +kernel
theorem dX6_keep_30 : decode cX6_keep 30 = .ok (.aload_n 0, 1) := by decide +kernel
theorem dX6_keep_31 : decode cX6_keep 31 = .ok (.getfield 10, 3) := by decide +kernel
theorem dX6_keep_34 : decode cX6_keep 34 = .ok (.getfield 119, 3) := by decide +kernel
theorem dX6_keep_37 : decode cX6_keep 37 = .ok (.invokestatic 132, 3) := by decide +kernel
theorem dX6_keep_40 : decode cX6_keep 40 = .ok (.ireturn, 1) := by decide +kernel
theorem dX6_goBack_0 : decode cX6_goBack 0 = .ok (.iload_n 1, 1) := by decide +kernel
theorem dX6_goBack_1 : decode cX6_goBack 1 = .ok (.invokestatic 173, 3) := by decide +kernel
theorem dX6_goBack_4 : decode cX6_goBack 4 = .ok (.aload_n 0, 1) := by decide +kernel
theorem dX6_goBack_5 : decode cX6_goBack 5 = .ok (.getfield 16, 3) := by decide +kernel
theorem dX6_goBack_8 : decode cX6_goBack 8 = .ok (.iload_n 1, 1) := by decide +kernel
theorem dX6_goBack_9 : decode cX6_goBack 9 = .ok (.aaload, 1) := by decide +kernel
theorem dX6_goBack_10 : decode cX6_goBack 10 = .ok (.astore_n 2, 1) := by decide +kernel
theorem dX6_goBack_11 : decode cX6_goBack 11 = .ok (.aload_n 2, 1) := by decide +kernel
theorem dX6_goBack_12 : decode cX6_goBack 12 = .ok (.ifnull 12, 3) := by decide +kernel
theorem dX6_goBack_15 : decode cX6_goBack 15 = .ok (.aload_n 0, 1) := by decide +kernel
theorem dX6_goBack_16 : decode cX6_goBack 16 = .ok (.getfield 20, 3) := by decide +kernel
theorem dX6_goBack_19 : decode cX6_goBack 19 = .ok (.iload_n 1, 1) := by decide +kernel
theorem dX6_goBack_20 : decode cX6_goBack 20 = .ok (.baload, 1) := by decide +kernel
theorem dX6_goBack_21 : decode cX6_goBack 21 = .ok (.ifCond .ne 13, 3) := by decide +kernel
theorem dX6_goBack_24 : decode cX6_goBack 24 = .ok (.new 70, 3) := by decide +kernel
theorem dX6_goBack_27 : decode cX6_goBack 27 = .ok (.dup, 1) := by decide +kernel
theorem dX6_goBack_28 : decode cX6_goBack 28 = .ok (.ldc 179, 2) := by decide +kernel
theorem dX6_goBack_30 : decode cX6_goBack 30 = .ok (.invokespecial 74, 3) := by decide +kernel
theorem dX6_goBack_33 : decode cX6_goBack 33 = .ok (.athrow, 1) := by decide +kernel
theorem dX6_goBack_34 : decode cX6_goBack 34 = .ok (.aload_n 0, 1) := by decide +kernel
theorem dX6_goBack_35 : decode cX6_goBack 35 = .ok (.getfield 27, 3) := by decide +kernel
theorem dX6_goBack_38 : decode cX6_goBack 38 = .ok (.aload_n 0, 1) := by decide +kernel
theorem dX6_goBack_39 : decode cX6_goBack 39 = .ok (.getfield 10, 3) := by decide +kernel
theorem dX6_goBack_42 : decode cX6_goBack 42 = .ok (.invokevirtual 80, 3) := by decide +kernel
theorem dX6_goBack_45 : decode cX6_goBack 45 = .ok (.aload_n 0, 1) := by decide +kernel
theorem dX6_goBack_46 : decode cX6_goBack 46 = .ok (.getfield 10, 3) := by decide +kernel
theorem dX6_goBack_49 : decode cX6_goBack 49 = .ok (.aload_n 2, 1) := by decide +kernel
theorem dX6_goBack_50 : decode cX6_goBack 50 = .ok (.invokevirtual 176, 3) := by decide +kernel
theorem dX6_goBack_53 : decode cX6_goBack 53 = .ok (.aload_n 0, 1) := by decide +kernel
theorem dX6_goBack_54 : decode cX6_goBack 54 = .ok (.getfield 10, 3) := by decide +kernel
theorem dX6_goBack_57 : decode cX6_goBack 57 = .ok (.getfield 119, 3) := by decide +kernel
theorem dX6_goBack_60 : decode cX6_goBack 60 = .ok (.invokestatic 132, 3) := by decide +kernel
theorem dX6_goBack_63 : decode cX6_goBack 63 = .ok (.ireturn, 1) := by decide +kernel
theorem dX6_undo_0 : decode cX6_undo 0 = .ok (.aload_n 0, 1) := by decide +kernel
theorem dX6_undo_1 : decode cX6_undo 1 = .ok (.getfield 27, 3) := by decide +kernel
theorem dX6_undo_4 : decode cX6_undo 4 = .ok (.getfield 181, 3) := by decide +kernel
theorem dX6_undo_7 : decode cX6_undo 7 = .ok (.ifCond .ne 13, 3) := by decide +kernel
theorem dX6_undo_10 : decode cX6_undo 10 = .ok (.new 70, 3) := by decide +kernel
theorem dX6_undo_13 : decode cX6_undo 13 = .ok (.dup, 1) := by decide +kernel
theorem dX6_undo_14 : decode cX6_undo 14 = .ok (.ldc 182, 2) := by decide +kernel
theorem dX6_undo_16 : decode cX6_undo 16 = .ok (.invokespecial 74, 3) := by decide +kernel
theorem dX6_undo_19 : decode cX6_undo 19 = .ok (.athrow, 1) := by decide +kernel
theorem dX6_undo_20 : decode cX6_undo 20 = .ok (.aload_n 0, 1) := by decide +kernel
theorem dX6_undo_21 : decode cX6_undo 21 = .ok (.getfield 27, 3) := by decide +kernel
theorem dX6_undo_24 : decode cX6_undo 24 = .ok (.aload_n 0, 1) := by decide +kernel
theorem dX6_undo_25 : decode cX6_undo 25 = .ok (.getfield 10, 3) := by decide +kernel
theorem dX6_undo_28 : decode cX6_undo 28 = .ok (.invokevirtual 184, 3) := by decide +kernel
theorem dX6_undo_31 : decode cX6_undo 31 = .ok (.aload_n 0, 1) := by decide +kernel
theorem dX6_undo_32 : decode cX6_undo 32 = .ok (.getfield 27, 3) := by decide +kernel
theorem dX6_undo_35 : decode cX6_undo 35 = .ok (.getfield 181, 3) := by decide +kernel
theorem dX6_undo_38 : decode cX6_undo 38 = .ok (.ireturn, 1) := by decide +kernel
theorem dX6_nodeOf_0 : decode cX6_nodeOf 0 = .ok (.aload_n 0, 1) := by decide +kernel
theorem dX6_nodeOf_1 : decode cX6_nodeOf 1 = .ok (.iload_n 1, 1) := by decide +kernel
theorem dX6_nodeOf_2 : decode cX6_nodeOf 2 = .ok (.invokevirtual 62, 3) := by decide +kernel
theorem dX6_nodeOf_5 : decode cX6_nodeOf 5 = .ok (.iload_n 2, 1) := by decide +kernel
theorem dX6_nodeOf_6 : decode cX6_nodeOf 6 = .ok (.bipush 6, 2) := by decide +kernel
theorem dX6_nodeOf_8 : decode cX6_nodeOf 8 = .ok (.invokestatic 187, 3) := by decide +kernel
theorem dX6_nodeOf_11 : decode cX6_nodeOf 11 = .ok (.aload_n 0, 1) := by decide +kernel
theorem dX6_nodeOf_12 : decode cX6_nodeOf 12 = .ok (.getfield 10, 3) := by decide +kernel
theorem dX6_nodeOf_15 : decode cX6_nodeOf 15 = .ok (.iload_n 1, 1) := by decide +kernel
theorem dX6_nodeOf_16 : decode cX6_nodeOf 16 = .ok (.invokevirtual 190, 3) := by decide +kernel
theorem dX6_nodeOf_19 : decode cX6_nodeOf 19 = .ok (.ifCond .ne 14, 3) := by decide +kernel
theorem dX6_nodeOf_22 : decode cX6_nodeOf 22 = .ok (.iload_n 2, 1) := by decide +kernel
theorem dX6_nodeOf_23 : decode cX6_nodeOf 23 = .ok (.iconst 2, 1) := by decide +kernel
theorem dX6_nodeOf_24 : decode cX6_nodeOf 24 = .ok (.if_icmp .ge 7, 3) := by decide +kernel
theorem dX6_nodeOf_27 : decode cX6_nodeOf 27 = .ok (.iconst 0, 1) := by decide +kernel
theorem dX6_nodeOf_28 : decode cX6_nodeOf 28 = .ok (.goto 4, 3) := by decide +kernel
theorem dX6_nodeOf_31 : decode cX6_nodeOf 31 = .ok (.iconst (-1), 1) := by decide +kernel
theorem dX6_nodeOf_32 : decode cX6_nodeOf 32 = .ok (.ireturn, 1) := by decide +kernel
theorem dX6_nodeOf_33 : decode cX6_nodeOf 33 = .ok (.iload_n 2, 1) := by decide +kernel
theorem dX6_nodeOf_34 : decode cX6_nodeOf 34 = .ok (.tableswitch 95 0 4 #[34, 36, 56, 65, 81], 34) := by decide +kernel
theorem dX6_nodeOf_68 : decode cX6_nodeOf 68 = .ok (.iconst 1, 1) := by decide +kernel
theorem dX6_nodeOf_69 : decode cX6_nodeOf 69 = .ok (.ireturn, 1) := by decide +kernel
theorem dX6_nodeOf_70 : decode cX6_nodeOf 70 = .ok (.aload_n 0, 1) := by decide +kernel
theorem dX6_nodeOf_71 : decode cX6_nodeOf 71 = .ok (.getfield 10, 3) := by decide +kernel
theorem dX6_nodeOf_74 : decode cX6_nodeOf 74 = .ok (.getfield 93, 3) := by decide +kernel
theorem dX6_nodeOf_77 : decode cX6_nodeOf 77 = .ok (.iload_n 1, 1) := by decide +kernel
theorem dX6_nodeOf_78 : decode cX6_nodeOf 78 = .ok (.invokevirtual 194, 3) := by decide +kernel
theorem dX6_nodeOf_81 : decode cX6_nodeOf 81 = .ok (.aload_n 0, 1) := by decide +kernel
theorem dX6_nodeOf_82 : decode cX6_nodeOf 82 = .ok (.getfield 10, 3) := by decide +kernel
theorem dX6_nodeOf_85 : decode cX6_nodeOf 85 = .ok (.getfield 119, 3) := by decide +kernel
theorem dX6_nodeOf_88 : decode cX6_nodeOf 88 = .ok (.iand, 1) := by decide +kernel
theorem dX6_nodeOf_89 : decode cX6_nodeOf 89 = .ok (.ireturn, 1) := by decide +kernel
theorem dX6_nodeOf_90 : decode cX6_nodeOf 90 = .ok (.aload_n 0, 1) := by decide +kernel
theorem dX6_nodeOf_91 : decode cX6_nodeOf 91 = .ok (.getfield 10, 3) := by decide +kernel
theorem dX6_nodeOf_94 : decode cX6_nodeOf 94 = .ok (.iload_n 1, 1) := by decide +kernel
theorem dX6_nodeOf_95 : decode cX6_nodeOf 95 = .ok (.invokevirtual 197, 3) := by decide +kernel
theorem dX6_nodeOf_98 : decode cX6_nodeOf 98 = .ok (.ireturn, 1) := by decide +kernel
theorem dX6_nodeOf_99 : decode cX6_nodeOf 99 = .ok (.aload_n 0, 1) := by decide +kernel
theorem dX6_nodeOf_100 : decode cX6_nodeOf 100 = .ok (.invokevirtual 200, 3) := by decide +kernel
theorem dX6_nodeOf_103 : decode cX6_nodeOf 103 = .ok (.aload_n 0, 1) := by decide +kernel
theorem dX6_nodeOf_104 : decode cX6_nodeOf 104 = .ok (.getfield 10, 3) := by decide +kernel
theorem dX6_nodeOf_107 : decode cX6_nodeOf 107 = .ok (.iload_n 1, 1) := by decide +kernel
theorem dX6_nodeOf_108 : decode cX6_nodeOf 108 = .ok (.invokevirtual 204, 3) := by decide +kernel
theorem dX6_nodeOf_111 : decode cX6_nodeOf 111 = .ok (.invokevirtual 207, 3) := by decide +kernel
theorem dX6_nodeOf_114 : decode cX6_nodeOf 114 = .ok (.ireturn, 1) := by decide +kernel
theorem dX6_nodeOf_115 : decode cX6_nodeOf 115 = .ok (.aload_n 0, 1) := by decide +kernel
theorem dX6_nodeOf_116 : decode cX6_nodeOf 116 = .ok (.iload_n 1, 1) := by decide +kernel
theorem dX6_nodeOf_117 : decode cX6_nodeOf 117 = .ok (.invokevirtual 210, 3) := by decide +kernel
theorem dX6_nodeOf_120 : decode cX6_nodeOf 120 = .ok (.ifCond .eq 7, 3) := by decide +kernel
theorem dX6_nodeOf_123 : decode cX6_nodeOf 123 = .ok (.iconst 1, 1) := by decide +kernel
theorem dX6_nodeOf_124 : decode cX6_nodeOf 124 = .ok (.goto 4, 3) := by decide +kernel
theorem dX6_nodeOf_127 : decode cX6_nodeOf 127 = .ok (.iconst 0, 1) := by decide +kernel
theorem dX6_nodeOf_128 : decode cX6_nodeOf 128 = .ok (.ireturn, 1) := by decide +kernel
theorem dX6_nodeOf_129 : decode cX6_nodeOf 129 = .ok (.aload_n 0, 1) := by decide +kernel
theorem dX6_nodeOf_130 : decode cX6_nodeOf 130 = .ok (.invokevirtual 200, 3) := by decide +kernel
theorem dX6_nodeOf_133 : decode cX6_nodeOf 133 = .ok (.aload_n 0, 1) := by decide +kernel
theorem dX6_nodeOf_134 : decode cX6_nodeOf 134 = .ok (.getfield 10, 3) := by decide +kernel
theorem dX6_nodeOf_137 : decode cX6_nodeOf 137 = .ok (.iload_n 1, 1) := by decide +kernel
theorem dX6_nodeOf_138 : decode cX6_nodeOf 138 = .ok (.invokevirtual 204, 3) := by decide +kernel
theorem dX6_nodeOf_141 : decode cX6_nodeOf 141 = .ok (.invokevirtual 213, 3) := by decide +kernel
theorem dX6_nodeOf_144 : decode cX6_nodeOf 144 = .ok (.ifCond .eq 7, 3) := by decide +kernel
theorem dX6_nodeOf_147 : decode cX6_nodeOf 147 = .ok (.iconst 0, 1) := by decide +kernel
theorem dX6_nodeOf_148 : decode cX6_nodeOf 148 = .ok (.goto 4, 3) := by decide +kernel
theorem dX6_nodeOf_151 : decode cX6_nodeOf 151 = .ok (.iconst 1, 1) := by decide +kernel
theorem dX6_nodeOf_152 : decode cX6_nodeOf 152 = .ok (.ireturn, 1) := by decide +kernel
theorem dX6_tree_0 : decode cX6_tree 0 = .ok (.aload_n 0, 1) := by decide +kernel
theorem dX6_tree_1 : decode cX6_tree 1 = .ok (.getfield 10, 3) := by decide +kernel
theorem dX6_tree_4 : decode cX6_tree 4 = .ok (.iload_n 1, 1) := by decide +kernel
theorem dX6_tree_5 : decode cX6_tree 5 = .ok (.invokevirtual 216, 3) := by decide +kernel
theorem dX6_tree_8 : decode cX6_tree 8 = .ok (.istore_n 3, 1) := by decide +kernel
theorem dX6_tree_9 : decode cX6_tree 9 = .ok (.iload_n 3, 1) := by decide +kernel
theorem dX6_tree_10 : decode cX6_tree 10 = .ok (.ifCond .ne 13, 3) := by decide +kernel
theorem dX6_tree_13 : decode cX6_tree 13 = .ok (.new 219, 3) := by decide +kernel
theorem dX6_tree_16 : decode cX6_tree 16 = .ok (.dup, 1) := by decide +kernel
theorem dX6_tree_17 : decode cX6_tree 17 = .ok (.ldc 221, 2) := by decide +kernel
theorem dX6_tree_19 : decode cX6_tree 19 = .ok (.invokespecial 223, 3) := by decide +kernel
theorem dX6_tree_22 : decode cX6_tree 22 = .ok (.athrow, 1) := by decide +kernel
theorem dX6_tree_23 : decode cX6_tree 23 = .ok (.iload_n 2, 1) := by decide +kernel
theorem dX6_tree_24 : decode cX6_tree 24 = .ok (.bipush 6, 2) := by decide +kernel
theorem dX6_tree_26 : decode cX6_tree 26 = .ok (.invokestatic 187, 3) := by decide +kernel
theorem dX6_tree_29 : decode cX6_tree 29 = .ok (.iload_n 2, 1) := by decide +kernel
theorem dX6_tree_30 : decode cX6_tree 30 = .ok (.tableswitch 62 0 4 #[34, 36, 41, 50, 56], 34) := by decide +kernel
theorem dX6_tree_64 : decode cX6_tree 64 = .ok (.iload_n 3, 1) := by decide +kernel
theorem dX6_tree_65 : decode cX6_tree 65 = .ok (.ireturn, 1) := by decide +kernel
theorem dX6_tree_66 : decode cX6_tree 66 = .ok (.iload_n 3, 1) := by decide +kernel
theorem dX6_tree_67 : decode cX6_tree 67 = .ok (.invokestatic 132, 3) := by decide +kernel
theorem dX6_tree_70 : decode cX6_tree 70 = .ok (.ireturn, 1) := by decide +kernel
theorem dX6_tree_71 : decode cX6_tree 71 = .ok (.aload_n 0, 1) := by decide +kernel
theorem dX6_tree_72 : decode cX6_tree 72 = .ok (.invokevirtual 200, 3) := by decide +kernel
theorem dX6_tree_75 : decode cX6_tree 75 = .ok (.iload_n 3, 1) := by decide +kernel
theorem dX6_tree_76 : decode cX6_tree 76 = .ok (.invokevirtual 207, 3) := by decide +kernel
theorem dX6_tree_79 : decode cX6_tree 79 = .ok (.ireturn, 1) := by decide +kernel
theorem dX6_tree_80 : decode cX6_tree 80 = .ok (.aload_n 0, 1) := by decide +kernel
theorem dX6_tree_81 : decode cX6_tree 81 = .ok (.iload_n 1, 1) := by decide +kernel
theorem dX6_tree_82 : decode cX6_tree 82 = .ok (.invokevirtual 224, 3) := by decide +kernel
theorem dX6_tree_85 : decode cX6_tree 85 = .ok (.ireturn, 1) := by decide +kernel
theorem dX6_tree_86 : decode cX6_tree 86 = .ok (.aload_n 0, 1) := by decide +kernel
theorem dX6_tree_87 : decode cX6_tree 87 = .ok (.iload_n 3, 1) := by decide +kernel
theorem dX6_tree_88 : decode cX6_tree 88 = .ok (.invokevirtual 227, 3) := by decide +kernel
theorem dX6_tree_91 : decode cX6_tree 91 = .ok (.ireturn, 1) := by decide +kernel
theorem dX6_tree_92 : decode cX6_tree 92 = .ok (.aload_n 0, 1) := by decide +kernel
theorem dX6_tree_93 : decode cX6_tree 93 = .ok (.getfield 10, 3) := by decide +kernel
theorem dX6_tree_96 : decode cX6_tree 96 = .ok (.getfield 93, 3) := by decide +kernel
theorem dX6_tree_99 : decode cX6_tree 99 = .ok (.iload_n 3, 1) := by decide +kernel
theorem dX6_tree_100 : decode cX6_tree 100 = .ok (.invokevirtual 230, 3) := by decide +kernel
theorem dX6_tree_103 : decode cX6_tree 103 = .ok (.ireturn, 1) := by decide +kernel
theorem dX6_count_0 : decode cX6_count 0 = .ok (.iload_n 1, 1) := by decide +kernel
theorem dX6_count_1 : decode cX6_count 1 = .ok (.bipush 12, 2) := by decide +kernel
theorem dX6_count_3 : decode cX6_count 3 = .ok (.invokestatic 187, 3) := by decide +kernel
theorem dX6_count_6 : decode cX6_count 6 = .ok (.iload_n 1, 1) := by decide +kernel
theorem dX6_count_7 : decode cX6_count 7 = .ok (.tableswitch 173 0 10 #[57, 65, 76, 94, 102, 107, 122, 127, 150, 160, 168], 57) := by decide +kernel
theorem dX6_count_64 : decode cX6_count 64 = .ok (.aload_n 0, 1) := by decide +kernel
theorem dX6_count_65 : decode cX6_count 65 = .ok (.getfield 10, 3) := by decide +kernel
theorem dX6_count_68 : decode cX6_count 68 = .ok (.getfield 66, 3) := by decide +kernel
theorem dX6_count_71 : decode cX6_count 71 = .ok (.ireturn, 1) := by decide +kernel
theorem dX6_count_72 : decode cX6_count 72 = .ok (.aload_n 0, 1) := by decide +kernel
theorem dX6_count_73 : decode cX6_count 73 = .ok (.getfield 10, 3) := by decide +kernel
theorem dX6_count_76 : decode cX6_count 76 = .ok (.getfield 119, 3) := by decide +kernel
theorem dX6_count_79 : decode cX6_count 79 = .ok (.invokestatic 132, 3) := by decide +kernel
theorem dX6_count_82 : decode cX6_count 82 = .ok (.ireturn, 1) := by decide +kernel
theorem dX6_count_83 : decode cX6_count 83 = .ok (.aload_n 0, 1) := by decide +kernel
theorem dX6_count_84 : decode cX6_count 84 = .ok (.getfield 10, 3) := by decide +kernel
theorem dX6_count_87 : decode cX6_count 87 = .ok (.getfield 93, 3) := by decide +kernel
theorem dX6_count_90 : decode cX6_count 90 = .ok (.aload_n 0, 1) := by decide +kernel
theorem dX6_count_91 : decode cX6_count 91 = .ok (.getfield 10, 3) := by decide +kernel
theorem dX6_count_94 : decode cX6_count 94 = .ok (.getfield 119, 3) := by decide +kernel
theorem dX6_count_97 : decode cX6_count 97 = .ok (.invokevirtual 233, 3) := by decide +kernel
theorem dX6_count_100 : decode cX6_count 100 = .ok (.ireturn, 1) := by decide +kernel
theorem dX6_count_101 : decode cX6_count 101 = .ok (.aload_n 0, 1) := by decide +kernel
theorem dX6_count_102 : decode cX6_count 102 = .ok (.getfield 10, 3) := by decide +kernel
theorem dX6_count_105 : decode cX6_count 105 = .ok (.invokevirtual 100, 3) := by decide +kernel
theorem dX6_count_108 : decode cX6_count 108 = .ok (.ireturn, 1) := by decide +kernel
theorem dX6_count_109 : decode cX6_count 109 = .ok (.aload_n 0, 1) := by decide +kernel
theorem dX6_count_110 : decode cX6_count 110 = .ok (.invokevirtual 236, 3) := by decide +kernel
theorem dX6_count_113 : decode cX6_count 113 = .ok (.ireturn, 1) := by decide +kernel
theorem dX6_count_114 : decode cX6_count 114 = .ok (.aload_n 0, 1) := by decide +kernel
theorem dX6_count_115 : decode cX6_count 115 = .ok (.invokevirtual 200, 3) := by decide +kernel
theorem dX6_count_118 : decode cX6_count 118 = .ok (.aload_n 0, 1) := by decide +kernel
theorem dX6_count_119 : decode cX6_count 119 = .ok (.getfield 10, 3) := by decide +kernel
theorem dX6_count_122 : decode cX6_count 122 = .ok (.getfield 119, 3) := by decide +kernel
theorem dX6_count_125 : decode cX6_count 125 = .ok (.invokevirtual 207, 3) := by decide +kernel
theorem dX6_count_128 : decode cX6_count 128 = .ok (.ireturn, 1) := by decide +kernel
theorem dX6_count_129 : decode cX6_count 129 = .ok (.aload_n 0, 1) := by decide +kernel
theorem dX6_count_130 : decode cX6_count 130 = .ok (.invokevirtual 239, 3) := by decide +kernel
theorem dX6_count_133 : decode cX6_count 133 = .ok (.ireturn, 1) := by decide +kernel
theorem dX6_count_134 : decode cX6_count 134 = .ok (.aload_n 0, 1) := by decide +kernel
theorem dX6_count_135 : decode cX6_count 135 = .ok (.invokevirtual 200, 3) := by decide +kernel
theorem dX6_count_138 : decode cX6_count 138 = .ok (.aload_n 0, 1) := by decide +kernel
theorem dX6_count_139 : decode cX6_count 139 = .ok (.getfield 10, 3) := by decide +kernel
theorem dX6_count_142 : decode cX6_count 142 = .ok (.getfield 119, 3) := by decide +kernel
theorem dX6_count_145 : decode cX6_count 145 = .ok (.invokevirtual 213, 3) := by decide +kernel
theorem dX6_count_148 : decode cX6_count 148 = .ok (.ifCond .eq 7, 3) := by decide +kernel
theorem dX6_count_151 : decode cX6_count 151 = .ok (.iconst 1, 1) := by decide +kernel
theorem dX6_count_152 : decode cX6_count 152 = .ok (.goto 4, 3) := by decide +kernel
theorem dX6_count_155 : decode cX6_count 155 = .ok (.iconst 0, 1) := by decide +kernel
theorem dX6_count_156 : decode cX6_count 156 = .ok (.ireturn, 1) := by decide +kernel
theorem dX6_count_157 : decode cX6_count 157 = .ok (.aload_n 0, 1) := by decide +kernel
theorem dX6_count_158 : decode cX6_count 158 = .ok (.getfield 10, 3) := by decide +kernel
theorem dX6_count_161 : decode cX6_count 161 = .ok (.getfield 242, 3) := by decide +kernel
theorem dX6_count_164 : decode cX6_count 164 = .ok (.iconst 1, 1) := by decide +kernel
theorem dX6_count_165 : decode cX6_count 165 = .ok (.iand, 1) := by decide +kernel
theorem dX6_count_166 : decode cX6_count 166 = .ok (.ireturn, 1) := by decide +kernel
theorem dX6_count_167 : decode cX6_count 167 = .ok (.aload_n 0, 1) := by decide +kernel
theorem dX6_count_168 : decode cX6_count 168 = .ok (.getfield 10, 3) := by decide +kernel
theorem dX6_count_171 : decode cX6_count 171 = .ok (.getfield 242, 3) := by decide +kernel
theorem dX6_count_174 : decode cX6_count 174 = .ok (.ireturn, 1) := by decide +kernel
theorem dX6_count_175 : decode cX6_count 175 = .ok (.aload_n 0, 1) := by decide +kernel
theorem dX6_count_176 : decode cX6_count 176 = .ok (.invokevirtual 245, 3) := by decide +kernel
theorem dX6_count_179 : decode cX6_count 179 = .ok (.ireturn, 1) := by decide +kernel
theorem dX6_count_180 : decode cX6_count 180 = .ok (.aload_n 0, 1) := by decide +kernel
theorem dX6_count_181 : decode cX6_count 181 = .ok (.getfield 27, 3) := by decide +kernel
theorem dX6_count_184 : decode cX6_count 184 = .ok (.getfield 181, 3) := by decide +kernel
theorem dX6_count_187 : decode cX6_count 187 = .ok (.ireturn, 1) := by decide +kernel
theorem dX6_best_0 : decode cX6_best 0 = .ok (.aload_n 0, 1) := by decide +kernel
theorem dX6_best_1 : decode cX6_best 1 = .ok (.invokevirtual 124, 3) := by decide +kernel
theorem dX6_best_4 : decode cX6_best 4 = .ok (.ireturn, 1) := by decide +kernel
theorem dX6_length_0 : decode cX6_length 0 = .ok (.iload_n 1, 1) := by decide +kernel
theorem dX6_length_1 : decode cX6_length 1 = .ok (.ifCond .eq 20, 3) := by decide +kernel
theorem dX6_length_4 : decode cX6_length 4 = .ok (.aload_n 0, 1) := by decide +kernel
theorem dX6_length_5 : decode cX6_length 5 = .ok (.invokevirtual 200, 3) := by decide +kernel
theorem dX6_length_8 : decode cX6_length 8 = .ok (.aload_n 0, 1) := by decide +kernel
theorem dX6_length_9 : decode cX6_length 9 = .ok (.getfield 10, 3) := by decide +kernel
theorem dX6_length_12 : decode cX6_length 12 = .ok (.getfield 119, 3) := by decide +kernel
theorem dX6_length_15 : decode cX6_length 15 = .ok (.invokevirtual 248, 3) := by decide +kernel
theorem dX6_length_18 : decode cX6_length 18 = .ok (.goto 17, 3) := by decide +kernel
theorem dX6_length_21 : decode cX6_length 21 = .ok (.aload_n 0, 1) := by decide +kernel
theorem dX6_length_22 : decode cX6_length 22 = .ok (.invokevirtual 200, 3) := by decide +kernel
theorem dX6_length_25 : decode cX6_length 25 = .ok (.aload_n 0, 1) := by decide +kernel
theorem dX6_length_26 : decode cX6_length 26 = .ok (.getfield 10, 3) := by decide +kernel
theorem dX6_length_29 : decode cX6_length 29 = .ok (.getfield 119, 3) := by decide +kernel
theorem dX6_length_32 : decode cX6_length 32 = .ok (.invokevirtual 251, 3) := by decide +kernel
theorem dX6_length_35 : decode cX6_length 35 = .ok (.ireturn, 1) := by decide +kernel
theorem dX6_mirror_0 : decode cX6_mirror 0 = .ok (.iload_n 1, 1) := by decide +kernel
theorem dX6_mirror_1 : decode cX6_mirror 1 = .ok (.ifCond .ge 13, 3) := by decide +kernel
theorem dX6_mirror_4 : decode cX6_mirror 4 = .ok (.new 138, 3) := by decide +kernel
theorem dX6_mirror_7 : decode cX6_mirror 7 = .ok (.dup, 1) := by decide +kernel
theorem dX6_mirror_8 : decode cX6_mirror 8 = .ok (.ldc 254, 2) := by decide +kernel
theorem dX6_mirror_10 : decode cX6_mirror 10 = .ok (.invokespecial 142, 3) := by decide +kernel
theorem dX6_mirror_13 : decode cX6_mirror 13 = .ok (.athrow, 1) := by decide +kernel
theorem dX6_mirror_14 : decode cX6_mirror 14 = .ok (.iconst 0, 1) := by decide +kernel
theorem dX6_mirror_15 : decode cX6_mirror 15 = .ok (.istore_n 2, 1) := by decide +kernel
theorem dX6_mirror_16 : decode cX6_mirror 16 = .ok (.iconst 0, 1) := by decide +kernel
theorem dX6_mirror_17 : decode cX6_mirror 17 = .ok (.istore_n 3, 1) := by decide +kernel
theorem dX6_mirror_18 : decode cX6_mirror 18 = .ok (.iload_n 3, 1) := by decide +kernel
theorem dX6_mirror_19 : decode cX6_mirror 19 = .ok (.aload_n 0, 1) := by decide +kernel
theorem dX6_mirror_20 : decode cX6_mirror 20 = .ok (.getfield 10, 3) := by decide +kernel
theorem dX6_mirror_23 : decode cX6_mirror 23 = .ok (.getfield 66, 3) := by decide +kernel
theorem dX6_mirror_26 : decode cX6_mirror 26 = .ok (.if_icmp .ge 58, 3) := by decide +kernel
theorem dX6_mirror_29 : decode cX6_mirror 29 = .ok (.iload_n 3, 1) := by decide +kernel
theorem dX6_mirror_30 : decode cX6_mirror 30 = .ok (.iconst 1, 1) := by decide +kernel
theorem dX6_mirror_31 : decode cX6_mirror 31 = .ok (.iadd, 1) := by decide +kernel
theorem dX6_mirror_32 : decode cX6_mirror 32 = .ok (.istore 4, 2) := by decide +kernel
theorem dX6_mirror_34 : decode cX6_mirror 34 = .ok (.iload 4, 2) := by decide +kernel
theorem dX6_mirror_36 : decode cX6_mirror 36 = .ok (.aload_n 0, 1) := by decide +kernel
theorem dX6_mirror_37 : decode cX6_mirror 37 = .ok (.getfield 10, 3) := by decide +kernel
theorem dX6_mirror_40 : decode cX6_mirror 40 = .ok (.getfield 66, 3) := by decide +kernel
theorem dX6_mirror_43 : decode cX6_mirror 43 = .ok (.if_icmp .ge 35, 3) := by decide +kernel
theorem dX6_mirror_46 : decode cX6_mirror 46 = .ok (.aload_n 0, 1) := by decide +kernel
theorem dX6_mirror_47 : decode cX6_mirror 47 = .ok (.iload_n 3, 1) := by decide +kernel
theorem dX6_mirror_48 : decode cX6_mirror 48 = .ok (.iload 4, 2) := by decide +kernel
theorem dX6_mirror_50 : decode cX6_mirror 50 = .ok (.invokevirtual 109, 3) := by decide +kernel
theorem dX6_mirror_53 : decode cX6_mirror 53 = .ok (.ifCond .eq 19, 3) := by decide +kernel
theorem dX6_mirror_56 : decode cX6_mirror 56 = .ok (.iload_n 2, 1) := by decide +kernel
theorem dX6_mirror_57 : decode cX6_mirror 57 = .ok (.iload_n 1, 1) := by decide +kernel
theorem dX6_mirror_58 : decode cX6_mirror 58 = .ok (.if_icmp .ne 11, 3) := by decide +kernel
theorem dX6_mirror_61 : decode cX6_mirror 61 = .ok (.bipush 100, 2) := by decide +kernel
theorem dX6_mirror_63 : decode cX6_mirror 63 = .ok (.iload_n 3, 1) := by decide +kernel
theorem dX6_mirror_64 : decode cX6_mirror 64 = .ok (.imul, 1) := by decide +kernel
theorem dX6_mirror_65 : decode cX6_mirror 65 = .ok (.iload 4, 2) := by decide +kernel
theorem dX6_mirror_67 : decode cX6_mirror 67 = .ok (.iadd, 1) := by decide +kernel
theorem dX6_mirror_68 : decode cX6_mirror 68 = .ok (.ireturn, 1) := by decide +kernel
theorem dX6_mirror_69 : decode cX6_mirror 69 = .ok (.iinc 2 1, 3) := by decide +kernel
theorem dX6_mirror_72 : decode cX6_mirror 72 = .ok (.iinc 4 1, 3) := by decide +kernel
theorem dX6_mirror_75 : decode cX6_mirror 75 = .ok (.goto (-41), 3) := by decide +kernel
theorem dX6_mirror_78 : decode cX6_mirror 78 = .ok (.iinc 3 1, 3) := by decide +kernel
theorem dX6_mirror_81 : decode cX6_mirror 81 = .ok (.goto (-63), 3) := by decide +kernel
theorem dX6_mirror_84 : decode cX6_mirror 84 = .ok (.iconst (-1), 1) := by decide +kernel
theorem dX6_mirror_85 : decode cX6_mirror 85 = .ok (.ireturn, 1) := by decide +kernel
theorem dX6_ifJoined_0 : decode cX6_ifJoined 0 = .ok (.aload_n 0, 1) := by decide +kernel
theorem dX6_ifJoined_1 : decode cX6_ifJoined 1 = .ok (.iload_n 1, 1) := by decide +kernel
theorem dX6_ifJoined_2 : decode cX6_ifJoined 2 = .ok (.invokevirtual 62, 3) := by decide +kernel
theorem dX6_ifJoined_5 : decode cX6_ifJoined 5 = .ok (.aload_n 0, 1) := by decide +kernel
theorem dX6_ifJoined_6 : decode cX6_ifJoined 6 = .ok (.iload_n 2, 1) := by decide +kernel
theorem dX6_ifJoined_7 : decode cX6_ifJoined 7 = .ok (.invokevirtual 62, 3) := by decide +kernel
theorem dX6_ifJoined_10 : decode cX6_ifJoined 10 = .ok (.aload_n 0, 1) := by decide +kernel
theorem dX6_ifJoined_11 : decode cX6_ifJoined 11 = .ok (.getfield 10, 3) := by decide +kernel
theorem dX6_ifJoined_14 : decode cX6_ifJoined 14 = .ok (.iload_n 1, 1) := by decide +kernel
theorem dX6_ifJoined_15 : decode cX6_ifJoined 15 = .ok (.iload_n 2, 1) := by decide +kernel
theorem dX6_ifJoined_16 : decode cX6_ifJoined 16 = .ok (.invokevirtual 87, 3) := by decide +kernel
theorem dX6_ifJoined_19 : decode cX6_ifJoined 19 = .ok (.ifCond .ne 5, 3) := by decide +kernel
theorem dX6_ifJoined_22 : decode cX6_ifJoined 22 = .ok (.iconst (-1), 1) := by decide +kernel
theorem dX6_ifJoined_23 : decode cX6_ifJoined 23 = .ok (.ireturn, 1) := by decide +kernel
theorem dX6_ifJoined_24 : decode cX6_ifJoined 24 = .ok (.aload_n 0, 1) := by decide +kernel
theorem dX6_ifJoined_25 : decode cX6_ifJoined 25 = .ok (.getfield 58, 3) := by decide +kernel
theorem dX6_ifJoined_28 : decode cX6_ifJoined 28 = .ok (.aload_n 0, 1) := by decide +kernel
theorem dX6_ifJoined_29 : decode cX6_ifJoined 29 = .ok (.getfield 10, 3) := by decide +kernel
theorem dX6_ifJoined_32 : decode cX6_ifJoined 32 = .ok (.getfield 93, 3) := by decide +kernel
theorem dX6_ifJoined_35 : decode cX6_ifJoined 35 = .ok (.invokevirtual 256, 3) := by decide +kernel
theorem dX6_ifJoined_38 : decode cX6_ifJoined 38 = .ok (.aload_n 0, 1) := by decide +kernel
theorem dX6_ifJoined_39 : decode cX6_ifJoined 39 = .ok (.getfield 58, 3) := by decide +kernel
theorem dX6_ifJoined_42 : decode cX6_ifJoined 42 = .ok (.iload_n 1, 1) := by decide +kernel
theorem dX6_ifJoined_43 : decode cX6_ifJoined 43 = .ok (.iload_n 2, 1) := by decide +kernel
theorem dX6_ifJoined_44 : decode cX6_ifJoined 44 = .ok (.invokevirtual 96, 3) := by decide +kernel
theorem dX6_ifJoined_47 : decode cX6_ifJoined 47 = .ok (.aload_n 0, 1) := by decide +kernel
theorem dX6_ifJoined_48 : decode cX6_ifJoined 48 = .ok (.getfield 52, 3) := by decide +kernel
theorem dX6_ifJoined_51 : decode cX6_ifJoined 51 = .ok (.aload_n 0, 1) := by decide +kernel
theorem dX6_ifJoined_52 : decode cX6_ifJoined 52 = .ok (.getfield 58, 3) := by decide +kernel
theorem dX6_ifJoined_55 : decode cX6_ifJoined 55 = .ok (.invokevirtual 259, 3) := by decide +kernel
theorem dX6_ifJoined_58 : decode cX6_ifJoined 58 = .ok (.aload_n 0, 1) := by decide +kernel
theorem dX6_ifJoined_59 : decode cX6_ifJoined 59 = .ok (.getfield 52, 3) := by decide +kernel
theorem dX6_ifJoined_62 : decode cX6_ifJoined 62 = .ok (.aload_n 0, 1) := by decide +kernel
theorem dX6_ifJoined_63 : decode cX6_ifJoined 63 = .ok (.getfield 10, 3) := by decide +kernel
theorem dX6_ifJoined_66 : decode cX6_ifJoined 66 = .ok (.getfield 119, 3) := by decide +kernel
theorem dX6_ifJoined_69 : decode cX6_ifJoined 69 = .ok (.invokevirtual 207, 3) := by decide +kernel
theorem dX6_ifJoined_72 : decode cX6_ifJoined 72 = .ok (.ireturn, 1) := by decide +kernel
theorem dX6_value_0 : decode cX6_value 0 = .ok (.iload_n 1, 1) := by decide +kernel
theorem dX6_value_1 : decode cX6_value 1 = .ok (.aload_n 0, 1) := by decide +kernel
theorem dX6_value_2 : decode cX6_value 2 = .ok (.getfield 10, 3) := by decide +kernel
theorem dX6_value_5 : decode cX6_value 5 = .ok (.getfield 119, 3) := by decide +kernel
theorem dX6_value_8 : decode cX6_value 8 = .ok (.iconst (-1), 1) := by decide +kernel
theorem dX6_value_9 : decode cX6_value 9 = .ok (.ixor, 1) := by decide +kernel
theorem dX6_value_10 : decode cX6_value 10 = .ok (.iand, 1) := by decide +kernel
theorem dX6_value_11 : decode cX6_value 11 = .ok (.ifCond .eq 14, 3) := by decide +kernel
theorem dX6_value_14 : decode cX6_value 14 = .ok (.new 138, 3) := by decide +kernel
theorem dX6_value_17 : decode cX6_value 17 = .ok (.dup, 1) := by decide +kernel
theorem dX6_value_18 : decode cX6_value 18 = .ok (.ldc_w 262, 3) := by decide +kernel
theorem dX6_value_21 : decode cX6_value 21 = .ok (.invokespecial 142, 3) := by decide +kernel
theorem dX6_value_24 : decode cX6_value 24 = .ok (.athrow, 1) := by decide +kernel
theorem dX6_value_25 : decode cX6_value 25 = .ok (.aload_n 0, 1) := by decide +kernel
theorem dX6_value_26 : decode cX6_value 26 = .ok (.invokevirtual 200, 3) := by decide +kernel
theorem dX6_value_29 : decode cX6_value 29 = .ok (.iload_n 1, 1) := by decide +kernel
theorem dX6_value_30 : decode cX6_value 30 = .ok (.invokevirtual 207, 3) := by decide +kernel
theorem dX6_value_33 : decode cX6_value 33 = .ok (.ireturn, 1) := by decide +kernel
theorem dX6_openingShare_0 : decode cX6_openingShare 0 = .ok (.aload_n 0, 1) := by decide +kernel
theorem dX6_openingShare_1 : decode cX6_openingShare 1 = .ok (.getfield 10, 3) := by decide +kernel
theorem dX6_openingShare_4 : decode cX6_openingShare 4 = .ok (.getfield 119, 3) := by decide +kernel
theorem dX6_openingShare_7 : decode cX6_openingShare 7 = .ok (.invokestatic 132, 3) := by decide +kernel
theorem dX6_openingShare_10 : decode cX6_openingShare 10 = .ok (.istore_n 1, 1) := by decide +kernel
theorem dX6_openingShare_11 : decode cX6_openingShare 11 = .ok (.iload_n 1, 1) := by decide +kernel
theorem dX6_openingShare_12 : decode cX6_openingShare 12 = .ok (.ifCond .ne 7, 3) := by decide +kernel
theorem dX6_openingShare_15 : decode cX6_openingShare 15 = .ok (.dconst 0, 1) := by decide +kernel
theorem dX6_openingShare_16 : decode cX6_openingShare 16 = .ok (.goto 11, 3) := by decide +kernel
theorem dX6_openingShare_19 : decode cX6_openingShare 19 = .ok (.aload_n 0, 1) := by decide +kernel
theorem dX6_openingShare_20 : decode cX6_openingShare 20 = .ok (.invokevirtual 245, 3) := by decide +kernel
theorem dX6_openingShare_23 : decode cX6_openingShare 23 = .ok (.i2d, 1) := by decide +kernel
theorem dX6_openingShare_24 : decode cX6_openingShare 24 = .ok (.iload_n 1, 1) := by decide +kernel
theorem dX6_openingShare_25 : decode cX6_openingShare 25 = .ok (.i2d, 1) := by decide +kernel
theorem dX6_openingShare_26 : decode cX6_openingShare 26 = .ok (.ddiv, 1) := by decide +kernel
theorem dX6_openingShare_27 : decode cX6_openingShare 27 = .ok (.dreturn, 1) := by decide +kernel
theorem dX6_digest_0 : decode cX6_digest 0 = .ok (.ldc2_w 264, 3) := by decide +kernel
theorem dX6_digest_3 : decode cX6_digest 3 = .ok (.lstore_n 1, 1) := by decide +kernel
theorem dX6_digest_4 : decode cX6_digest 4 = .ok (.iconst 0, 1) := by decide +kernel
theorem dX6_digest_5 : decode cX6_digest 5 = .ok (.istore_n 3, 1) := by decide +kernel
theorem dX6_digest_6 : decode cX6_digest 6 = .ok (.iload_n 3, 1) := by decide +kernel
theorem dX6_digest_7 : decode cX6_digest 7 = .ok (.bipush 12, 2) := by decide +kernel
theorem dX6_digest_9 : decode cX6_digest 9 = .ok (.if_icmp .ge 22, 3) := by decide +kernel
theorem dX6_digest_12 : decode cX6_digest 12 = .ok (.ldc2_w 266, 3) := by decide +kernel
theorem dX6_digest_15 : decode cX6_digest 15 = .ok (.lload_n 1, 1) := by decide +kernel
theorem dX6_digest_16 : decode cX6_digest 16 = .ok (.lmul, 1) := by decide +kernel
theorem dX6_digest_17 : decode cX6_digest 17 = .ok (.aload_n 0, 1) := by decide +kernel
theorem dX6_digest_18 : decode cX6_digest 18 = .ok (.iload_n 3, 1) := by decide +kernel
theorem dX6_digest_19 : decode cX6_digest 19 = .ok (.invokevirtual 268, 3) := by decide +kernel
theorem dX6_digest_22 : decode cX6_digest 22 = .ok (.i2l, 1) := by decide +kernel
theorem dX6_digest_23 : decode cX6_digest 23 = .ok (.ladd, 1) := by decide +kernel
theorem dX6_digest_24 : decode cX6_digest 24 = .ok (.lstore_n 1, 1) := by decide +kernel
theorem dX6_digest_25 : decode cX6_digest 25 = .ok (.iinc 3 1, 3) := by decide +kernel
theorem dX6_digest_28 : decode cX6_digest 28 = .ok (.goto (-22), 3) := by decide +kernel
theorem dX6_digest_31 : decode cX6_digest 31 = .ok (.iconst 0, 1) := by decide +kernel
theorem dX6_digest_32 : decode cX6_digest 32 = .ok (.istore_n 3, 1) := by decide +kernel
theorem dX6_digest_33 : decode cX6_digest 33 = .ok (.iload_n 3, 1) := by decide +kernel
theorem dX6_digest_34 : decode cX6_digest 34 = .ok (.aload_n 0, 1) := by decide +kernel
theorem dX6_digest_35 : decode cX6_digest 35 = .ok (.getfield 10, 3) := by decide +kernel
theorem dX6_digest_38 : decode cX6_digest 38 = .ok (.getfield 66, 3) := by decide +kernel
theorem dX6_digest_41 : decode cX6_digest 41 = .ok (.if_icmp .ge 40, 3) := by decide +kernel
theorem dX6_digest_44 : decode cX6_digest 44 = .ok (.iconst 0, 1) := by decide +kernel
theorem dX6_digest_45 : decode cX6_digest 45 = .ok (.istore 4, 2) := by decide +kernel
theorem dX6_digest_47 : decode cX6_digest 47 = .ok (.iload 4, 2) := by decide +kernel
theorem dX6_digest_49 : decode cX6_digest 49 = .ok (.bipush 6, 2) := by decide +kernel
theorem dX6_digest_51 : decode cX6_digest 51 = .ok (.if_icmp .ge 24, 3) := by decide +kernel
theorem dX6_digest_54 : decode cX6_digest 54 = .ok (.ldc2_w 266, 3) := by decide +kernel
theorem dX6_digest_57 : decode cX6_digest 57 = .ok (.lload_n 1, 1) := by decide +kernel
theorem dX6_digest_58 : decode cX6_digest 58 = .ok (.lmul, 1) := by decide +kernel
theorem dX6_digest_59 : decode cX6_digest 59 = .ok (.aload_n 0, 1) := by decide +kernel
theorem dX6_digest_60 : decode cX6_digest 60 = .ok (.iload_n 3, 1) := by decide +kernel
theorem dX6_digest_61 : decode cX6_digest 61 = .ok (.iload 4, 2) := by decide +kernel
theorem dX6_digest_63 : decode cX6_digest 63 = .ok (.invokevirtual 271, 3) := by decide +kernel
theorem dX6_digest_66 : decode cX6_digest 66 = .ok (.i2l, 1) := by decide +kernel
theorem dX6_digest_67 : decode cX6_digest 67 = .ok (.ladd, 1) := by decide +kernel
theorem dX6_digest_68 : decode cX6_digest 68 = .ok (.lstore_n 1, 1) := by decide +kernel
theorem dX6_digest_69 : decode cX6_digest 69 = .ok (.iinc 4 1, 3) := by decide +kernel
theorem dX6_digest_72 : decode cX6_digest 72 = .ok (.goto (-25), 3) := by decide +kernel
theorem dX6_digest_75 : decode cX6_digest 75 = .ok (.iinc 3 1, 3) := by decide +kernel
theorem dX6_digest_78 : decode cX6_digest 78 = .ok (.goto (-45), 3) := by decide +kernel
theorem dX6_digest_81 : decode cX6_digest 81 = .ok (.aload_n 0, 1) := by decide +kernel
theorem dX6_digest_82 : decode cX6_digest 82 = .ok (.getfield 10, 3) := by decide +kernel
theorem dX6_digest_85 : decode cX6_digest 85 = .ok (.invokevirtual 100, 3) := by decide +kernel
theorem dX6_digest_88 : decode cX6_digest 88 = .ok (.istore_n 3, 1) := by decide +kernel
theorem dX6_digest_89 : decode cX6_digest 89 = .ok (.iconst 0, 1) := by decide +kernel
theorem dX6_digest_90 : decode cX6_digest 90 = .ok (.istore 4, 2) := by decide +kernel
theorem dX6_digest_92 : decode cX6_digest 92 = .ok (.iload 4, 2) := by decide +kernel
theorem dX6_digest_94 : decode cX6_digest 94 = .ok (.iload_n 3, 1) := by decide +kernel
theorem dX6_digest_95 : decode cX6_digest 95 = .ok (.if_icmp .ge 41, 3) := by decide +kernel
theorem dX6_digest_98 : decode cX6_digest 98 = .ok (.iconst 0, 1) := by decide +kernel
theorem dX6_digest_99 : decode cX6_digest 99 = .ok (.istore 5, 2) := by decide +kernel
theorem dX6_digest_101 : decode cX6_digest 101 = .ok (.iload 5, 2) := by decide +kernel
theorem dX6_digest_103 : decode cX6_digest 103 = .ok (.bipush 6, 2) := by decide +kernel
theorem dX6_digest_105 : decode cX6_digest 105 = .ok (.if_icmp .ge 25, 3) := by decide +kernel
theorem dX6_digest_108 : decode cX6_digest 108 = .ok (.ldc2_w 266, 3) := by decide +kernel
theorem dX6_digest_111 : decode cX6_digest 111 = .ok (.lload_n 1, 1) := by decide +kernel
theorem dX6_digest_112 : decode cX6_digest 112 = .ok (.lmul, 1) := by decide +kernel
theorem dX6_digest_113 : decode cX6_digest 113 = .ok (.aload_n 0, 1) := by decide +kernel
theorem dX6_digest_114 : decode cX6_digest 114 = .ok (.iload 4, 2) := by decide +kernel
theorem dX6_digest_116 : decode cX6_digest 116 = .ok (.iload 5, 2) := by decide +kernel
theorem dX6_digest_118 : decode cX6_digest 118 = .ok (.invokevirtual 275, 3) := by decide +kernel
theorem dX6_digest_121 : decode cX6_digest 121 = .ok (.i2l, 1) := by decide +kernel
theorem dX6_digest_122 : decode cX6_digest 122 = .ok (.ladd, 1) := by decide +kernel
theorem dX6_digest_123 : decode cX6_digest 123 = .ok (.lstore_n 1, 1) := by decide +kernel
theorem dX6_digest_124 : decode cX6_digest 124 = .ok (.iinc 5 1, 3) := by decide +kernel
theorem dX6_digest_127 : decode cX6_digest 127 = .ok (.goto (-26), 3) := by decide +kernel
theorem dX6_digest_130 : decode cX6_digest 130 = .ok (.iinc 4 1, 3) := by decide +kernel
theorem dX6_digest_133 : decode cX6_digest 133 = .ok (.goto (-41), 3) := by decide +kernel
theorem dX6_digest_136 : decode cX6_digest 136 = .ok (.ldc2_w 266, 3) := by decide +kernel
theorem dX6_digest_139 : decode cX6_digest 139 = .ok (.lload_n 1, 1) := by decide +kernel
theorem dX6_digest_140 : decode cX6_digest 140 = .ok (.lmul, 1) := by decide +kernel
theorem dX6_digest_141 : decode cX6_digest 141 = .ok (.aload_n 0, 1) := by decide +kernel
theorem dX6_digest_142 : decode cX6_digest 142 = .ok (.invokevirtual 278, 3) := by decide +kernel
theorem dX6_digest_145 : decode cX6_digest 145 = .ok (.i2l, 1) := by decide +kernel
theorem dX6_digest_146 : decode cX6_digest 146 = .ok (.ladd, 1) := by decide +kernel
theorem dX6_digest_147 : decode cX6_digest 147 = .ok (.lstore_n 1, 1) := by decide +kernel
theorem dX6_digest_148 : decode cX6_digest 148 = .ok (.ldc2_w 266, 3) := by decide +kernel
theorem dX6_digest_151 : decode cX6_digest 151 = .ok (.lload_n 1, 1) := by decide +kernel
theorem dX6_digest_152 : decode cX6_digest 152 = .ok (.lmul, 1) := by decide +kernel
theorem dX6_digest_153 : decode cX6_digest 153 = .ok (.aload_n 0, 1) := by decide +kernel
theorem dX6_digest_154 : decode cX6_digest 154 = .ok (.iconst 1, 1) := by decide +kernel
theorem dX6_digest_155 : decode cX6_digest 155 = .ok (.invokevirtual 281, 3) := by decide +kernel
theorem dX6_digest_158 : decode cX6_digest 158 = .ok (.i2l, 1) := by decide +kernel
theorem dX6_digest_159 : decode cX6_digest 159 = .ok (.ladd, 1) := by decide +kernel
theorem dX6_digest_160 : decode cX6_digest 160 = .ok (.lstore_n 1, 1) := by decide +kernel
theorem dX6_digest_161 : decode cX6_digest 161 = .ok (.ldc2_w 266, 3) := by decide +kernel
theorem dX6_digest_164 : decode cX6_digest 164 = .ok (.lload_n 1, 1) := by decide +kernel
theorem dX6_digest_165 : decode cX6_digest 165 = .ok (.lmul, 1) := by decide +kernel
theorem dX6_digest_166 : decode cX6_digest 166 = .ok (.aload_n 0, 1) := by decide +kernel
theorem dX6_digest_167 : decode cX6_digest 167 = .ok (.iconst 0, 1) := by decide +kernel
theorem dX6_digest_168 : decode cX6_digest 168 = .ok (.invokevirtual 281, 3) := by decide +kernel
theorem dX6_digest_171 : decode cX6_digest 171 = .ok (.i2l, 1) := by decide +kernel
theorem dX6_digest_172 : decode cX6_digest 172 = .ok (.ladd, 1) := by decide +kernel
theorem dX6_digest_173 : decode cX6_digest 173 = .ok (.lstore_n 1, 1) := by decide +kernel
theorem dX6_digest_174 : decode cX6_digest 174 = .ok (.iconst 0, 1) := by decide +kernel
theorem dX6_digest_175 : decode cX6_digest 175 = .ok (.istore 4, 2) := by decide +kernel
theorem dX6_digest_177 : decode cX6_digest 177 = .ok (.iload 4, 2) := by decide +kernel
theorem dX6_digest_179 : decode cX6_digest 179 = .ok (.iconst 4, 1) := by decide +kernel
theorem dX6_digest_180 : decode cX6_digest 180 = .ok (.if_icmp .ge 23, 3) := by decide +kernel
theorem dX6_digest_183 : decode cX6_digest 183 = .ok (.ldc2_w 266, 3) := by decide +kernel
theorem dX6_digest_186 : decode cX6_digest 186 = .ok (.lload_n 1, 1) := by decide +kernel
theorem dX6_digest_187 : decode cX6_digest 187 = .ok (.lmul, 1) := by decide +kernel
theorem dX6_digest_188 : decode cX6_digest 188 = .ok (.aload_n 0, 1) := by decide +kernel
theorem dX6_digest_189 : decode cX6_digest 189 = .ok (.iload 4, 2) := by decide +kernel
theorem dX6_digest_191 : decode cX6_digest 191 = .ok (.invokevirtual 285, 3) := by decide +kernel
theorem dX6_digest_194 : decode cX6_digest 194 = .ok (.i2l, 1) := by decide +kernel
theorem dX6_digest_195 : decode cX6_digest 195 = .ok (.ladd, 1) := by decide +kernel
theorem dX6_digest_196 : decode cX6_digest 196 = .ok (.lstore_n 1, 1) := by decide +kernel
theorem dX6_digest_197 : decode cX6_digest 197 = .ok (.iinc 4 1, 3) := by decide +kernel
theorem dX6_digest_200 : decode cX6_digest 200 = .ok (.goto (-23), 3) := by decide +kernel
theorem dX6_digest_203 : decode cX6_digest 203 = .ok (.aload_n 0, 1) := by decide +kernel
theorem dX6_digest_204 : decode cX6_digest 204 = .ok (.getfield 10, 3) := by decide +kernel
theorem dX6_digest_207 : decode cX6_digest 207 = .ok (.getfield 66, 3) := by decide +kernel
theorem dX6_digest_210 : decode cX6_digest 210 = .ok (.ifCond .le 25, 3) := by decide +kernel
theorem dX6_digest_213 : decode cX6_digest 213 = .ok (.ldc2_w 266, 3) := by decide +kernel
theorem dX6_digest_216 : decode cX6_digest 216 = .ok (.lload_n 1, 1) := by decide +kernel
theorem dX6_digest_217 : decode cX6_digest 217 = .ok (.lmul, 1) := by decide +kernel
theorem dX6_digest_218 : decode cX6_digest 218 = .ok (.aload_n 0, 1) := by decide +kernel
theorem dX6_digest_219 : decode cX6_digest 219 = .ok (.iconst 0, 1) := by decide +kernel
theorem dX6_digest_220 : decode cX6_digest 220 = .ok (.aload_n 0, 1) := by decide +kernel
theorem dX6_digest_221 : decode cX6_digest 221 = .ok (.getfield 10, 3) := by decide +kernel
theorem dX6_digest_224 : decode cX6_digest 224 = .ok (.getfield 66, 3) := by decide +kernel
theorem dX6_digest_227 : decode cX6_digest 227 = .ok (.iconst 1, 1) := by decide +kernel
theorem dX6_digest_228 : decode cX6_digest 228 = .ok (.isub, 1) := by decide +kernel
theorem dX6_digest_229 : decode cX6_digest 229 = .ok (.invokevirtual 288, 3) := by decide +kernel
theorem dX6_digest_232 : decode cX6_digest 232 = .ok (.i2l, 1) := by decide +kernel
theorem dX6_digest_233 : decode cX6_digest 233 = .ok (.ladd, 1) := by decide +kernel
theorem dX6_digest_234 : decode cX6_digest 234 = .ok (.lstore_n 1, 1) := by decide +kernel
theorem dX6_digest_235 : decode cX6_digest 235 = .ok (.ldc2_w 266, 3) := by decide +kernel
theorem dX6_digest_238 : decode cX6_digest 238 = .ok (.lload_n 1, 1) := by decide +kernel
theorem dX6_digest_239 : decode cX6_digest 239 = .ok (.lmul, 1) := by decide +kernel
theorem dX6_digest_240 : decode cX6_digest 240 = .ok (.aload_n 0, 1) := by decide +kernel
theorem dX6_digest_241 : decode cX6_digest 241 = .ok (.invokevirtual 291, 3) := by decide +kernel
theorem dX6_digest_244 : decode cX6_digest 244 = .ok (.invokestatic 295, 3) := by decide +kernel
theorem dX6_digest_247 : decode cX6_digest 247 = .ok (.ladd, 1) := by decide +kernel
theorem dX6_digest_248 : decode cX6_digest 248 = .ok (.lstore_n 1, 1) := by decide +kernel
theorem dX6_digest_249 : decode cX6_digest 249 = .ok (.iconst 0, 1) := by decide +kernel
theorem dX6_digest_250 : decode cX6_digest 250 = .ok (.istore 4, 2) := by decide +kernel
theorem dX6_digest_252 : decode cX6_digest 252 = .ok (.iload 4, 2) := by decide +kernel
theorem dX6_digest_254 : decode cX6_digest 254 = .ok (.iconst 2, 1) := by decide +kernel
theorem dX6_digest_255 : decode cX6_digest 255 = .ok (.if_icmp .ge 32, 3) := by decide +kernel
theorem dX6_digest_258 : decode cX6_digest 258 = .ok (.ldc2_w 266, 3) := by decide +kernel
theorem dX6_digest_261 : decode cX6_digest 261 = .ok (.lload_n 1, 1) := by decide +kernel
theorem dX6_digest_262 : decode cX6_digest 262 = .ok (.lmul, 1) := by decide +kernel
theorem dX6_digest_263 : decode cX6_digest 263 = .ok (.aload_n 0, 1) := by decide +kernel
theorem dX6_digest_264 : decode cX6_digest 264 = .ok (.getfield 20, 3) := by decide +kernel
theorem dX6_digest_267 : decode cX6_digest 267 = .ok (.iload 4, 2) := by decide +kernel
theorem dX6_digest_269 : decode cX6_digest 269 = .ok (.baload, 1) := by decide +kernel
theorem dX6_digest_270 : decode cX6_digest 270 = .ok (.ifCond .eq 7, 3) := by decide +kernel
theorem dX6_digest_273 : decode cX6_digest 273 = .ok (.iconst 1, 1) := by decide +kernel
theorem dX6_digest_274 : decode cX6_digest 274 = .ok (.goto 4, 3) := by decide +kernel
theorem dX6_digest_277 : decode cX6_digest 277 = .ok (.iconst 0, 1) := by decide +kernel
theorem dX6_digest_278 : decode cX6_digest 278 = .ok (.i2l, 1) := by decide +kernel
theorem dX6_digest_279 : decode cX6_digest 279 = .ok (.ladd, 1) := by decide +kernel
theorem dX6_digest_280 : decode cX6_digest 280 = .ok (.lstore_n 1, 1) := by decide +kernel
theorem dX6_digest_281 : decode cX6_digest 281 = .ok (.iinc 4 1, 3) := by decide +kernel
theorem dX6_digest_284 : decode cX6_digest 284 = .ok (.goto (-32), 3) := by decide +kernel
theorem dX6_digest_287 : decode cX6_digest 287 = .ok (.ldc2_w 266, 3) := by decide +kernel
theorem dX6_digest_290 : decode cX6_digest 290 = .ok (.lload_n 1, 1) := by decide +kernel
theorem dX6_digest_291 : decode cX6_digest 291 = .ok (.lmul, 1) := by decide +kernel
theorem dX6_digest_292 : decode cX6_digest 292 = .ok (.aload_n 0, 1) := by decide +kernel
theorem dX6_digest_293 : decode cX6_digest 293 = .ok (.getfield 34, 3) := by decide +kernel
theorem dX6_digest_296 : decode cX6_digest 296 = .ok (.getfield 143, 3) := by decide +kernel
theorem dX6_digest_299 : decode cX6_digest 299 = .ok (.i2l, 1) := by decide +kernel
theorem dX6_digest_300 : decode cX6_digest 300 = .ok (.ladd, 1) := by decide +kernel
theorem dX6_digest_301 : decode cX6_digest 301 = .ok (.lstore_n 1, 1) := by decide +kernel
theorem dX6_digest_302 : decode cX6_digest 302 = .ok (.iconst 0, 1) := by decide +kernel
theorem dX6_digest_303 : decode cX6_digest 303 = .ok (.istore 4, 2) := by decide +kernel
theorem dX6_digest_305 : decode cX6_digest 305 = .ok (.iload 4, 2) := by decide +kernel
theorem dX6_digest_307 : decode cX6_digest 307 = .ok (.aload_n 0, 1) := by decide +kernel
theorem dX6_digest_308 : decode cX6_digest 308 = .ok (.getfield 34, 3) := by decide +kernel
theorem dX6_digest_311 : decode cX6_digest 311 = .ok (.getfield 143, 3) := by decide +kernel
theorem dX6_digest_314 : decode cX6_digest 314 = .ok (.if_icmp .ge 26, 3) := by decide +kernel
theorem dX6_digest_317 : decode cX6_digest 317 = .ok (.ldc2_w 266, 3) := by decide +kernel
theorem dX6_digest_320 : decode cX6_digest 320 = .ok (.lload_n 1, 1) := by decide +kernel
theorem dX6_digest_321 : decode cX6_digest 321 = .ok (.lmul, 1) := by decide +kernel
theorem dX6_digest_322 : decode cX6_digest 322 = .ok (.aload_n 0, 1) := by decide +kernel
theorem dX6_digest_323 : decode cX6_digest 323 = .ok (.getfield 34, 3) := by decide +kernel
theorem dX6_digest_326 : decode cX6_digest 326 = .ok (.iload 4, 2) := by decide +kernel
theorem dX6_digest_328 : decode cX6_digest 328 = .ok (.invokevirtual 299, 3) := by decide +kernel
theorem dX6_digest_331 : decode cX6_digest 331 = .ok (.i2l, 1) := by decide +kernel
theorem dX6_digest_332 : decode cX6_digest 332 = .ok (.ladd, 1) := by decide +kernel
theorem dX6_digest_333 : decode cX6_digest 333 = .ok (.lstore_n 1, 1) := by decide +kernel
theorem dX6_digest_334 : decode cX6_digest 334 = .ok (.iinc 4 1, 3) := by decide +kernel
theorem dX6_digest_337 : decode cX6_digest 337 = .ok (.goto (-32), 3) := by decide +kernel
theorem dX6_digest_340 : decode cX6_digest 340 = .ok (.lload_n 1, 1) := by decide +kernel
theorem dX6_digest_341 : decode cX6_digest 341 = .ok (.lreturn, 1) := by decide +kernel
theorem dX6_requireNode_0 : decode cX6_requireNode 0 = .ok (.iload_n 1, 1) := by decide +kernel
theorem dX6_requireNode_1 : decode cX6_requireNode 1 = .ok (.ifCond .lt 14, 3) := by decide +kernel
theorem dX6_requireNode_4 : decode cX6_requireNode 4 = .ok (.iload_n 1, 1) := by decide +kernel
theorem dX6_requireNode_5 : decode cX6_requireNode 5 = .ok (.aload_n 0, 1) := by decide +kernel
theorem dX6_requireNode_6 : decode cX6_requireNode 6 = .ok (.getfield 10, 3) := by decide +kernel
theorem dX6_requireNode_9 : decode cX6_requireNode 9 = .ok (.getfield 66, 3) := by decide +kernel
theorem dX6_requireNode_12 : decode cX6_requireNode 12 = .ok (.if_icmp .lt 14, 3) := by decide +kernel
theorem dX6_requireNode_15 : decode cX6_requireNode 15 = .ok (.new 219, 3) := by decide +kernel
theorem dX6_requireNode_18 : decode cX6_requireNode 18 = .ok (.dup, 1) := by decide +kernel
theorem dX6_requireNode_19 : decode cX6_requireNode 19 = .ok (.ldc_w 302, 3) := by decide +kernel
theorem dX6_requireNode_22 : decode cX6_requireNode 22 = .ok (.invokespecial 223, 3) := by decide +kernel
theorem dX6_requireNode_25 : decode cX6_requireNode 25 = .ok (.athrow, 1) := by decide +kernel
theorem dX6_requireNode_26 : decode cX6_requireNode 26 = .ok (.return_, 1) := by decide +kernel
theorem dX6_requireThere_0 : decode cX6_requireThere 0 = .ok (.aload_n 0, 1) := by decide +kernel
theorem dX6_requireThere_1 : decode cX6_requireThere 1 = .ok (.getfield 10, 3) := by decide +kernel
theorem dX6_requireThere_4 : decode cX6_requireThere 4 = .ok (.iload_n 1, 1) := by decide +kernel
theorem dX6_requireThere_5 : decode cX6_requireThere 5 = .ok (.invokevirtual 190, 3) := by decide +kernel
theorem dX6_requireThere_8 : decode cX6_requireThere 8 = .ok (.ifCond .ne 14, 3) := by decide +kernel
theorem dX6_requireThere_11 : decode cX6_requireThere 11 = .ok (.new 70, 3) := by decide +kernel
theorem dX6_requireThere_14 : decode cX6_requireThere 14 = .ok (.dup, 1) := by decide +kernel
theorem dX6_requireThere_15 : decode cX6_requireThere 15 = .ok (.ldc_w 304, 3) := by decide +kernel
theorem dX6_requireThere_18 : decode cX6_requireThere 18 = .ok (.invokespecial 74, 3) := by decide +kernel
theorem dX6_requireThere_21 : decode cX6_requireThere 21 = .ok (.athrow, 1) := by decide +kernel
theorem dX6_requireThere_22 : decode cX6_requireThere 22 = .ok (.return_, 1) := by decide +kernel
theorem dX6_requireSlot_0 : decode cX6_requireSlot 0 = .ok (.iload_n 0, 1) := by decide +kernel
theorem dX6_requireSlot_1 : decode cX6_requireSlot 1 = .ok (.ifCond .lt 8, 3) := by decide +kernel
theorem dX6_requireSlot_4 : decode cX6_requireSlot 4 = .ok (.iload_n 0, 1) := by decide +kernel
theorem dX6_requireSlot_5 : decode cX6_requireSlot 5 = .ok (.iconst 2, 1) := by decide +kernel
theorem dX6_requireSlot_6 : decode cX6_requireSlot 6 = .ok (.if_icmp .lt 14, 3) := by decide +kernel
theorem dX6_requireSlot_9 : decode cX6_requireSlot 9 = .ok (.new 138, 3) := by decide +kernel
theorem dX6_requireSlot_12 : decode cX6_requireSlot 12 = .ok (.dup, 1) := by decide +kernel
theorem dX6_requireSlot_13 : decode cX6_requireSlot 13 = .ok (.ldc_w 306, 3) := by decide +kernel
theorem dX6_requireSlot_16 : decode cX6_requireSlot 16 = .ok (.invokespecial 142, 3) := by decide +kernel
theorem dX6_requireSlot_19 : decode cX6_requireSlot 19 = .ok (.athrow, 1) := by decide +kernel
theorem dX6_requireSlot_20 : decode cX6_requireSlot 20 = .ok (.return_, 1) := by decide +kernel
theorem dX6_requireBelow_0 : decode cX6_requireBelow 0 = .ok (.iload_n 0, 1) := by decide +kernel
theorem dX6_requireBelow_1 : decode cX6_requireBelow 1 = .ok (.ifCond .lt 8, 3) := by decide +kernel
theorem dX6_requireBelow_4 : decode cX6_requireBelow 4 = .ok (.iload_n 0, 1) := by decide +kernel
theorem dX6_requireBelow_5 : decode cX6_requireBelow 5 = .ok (.iload_n 1, 1) := by decide +kernel
theorem dX6_requireBelow_6 : decode cX6_requireBelow 6 = .ok (.if_icmp .lt 14, 3) := by decide +kernel
theorem dX6_requireBelow_9 : decode cX6_requireBelow 9 = .ok (.new 138, 3) := by decide +kernel
theorem dX6_requireBelow_12 : decode cX6_requireBelow 12 = .ok (.dup, 1) := by decide +kernel
theorem dX6_requireBelow_13 : decode cX6_requireBelow 13 = .ok (.ldc_w 308, 3) := by decide +kernel
theorem dX6_requireBelow_16 : decode cX6_requireBelow 16 = .ok (.invokespecial 142, 3) := by decide +kernel
theorem dX6_requireBelow_19 : decode cX6_requireBelow 19 = .ok (.athrow, 1) := by decide +kernel
theorem dX6_requireBelow_20 : decode cX6_requireBelow 20 = .ok (.return_, 1) := by decide +kernel
theorem dX6_outcomesNow_0 : decode cX6_outcomesNow 0 = .ok (.aload_n 0, 1) := by decide +kernel
theorem dX6_outcomesNow_1 : decode cX6_outcomesNow 1 = .ok (.getfield 48, 3) := by decide +kernel
theorem dX6_outcomesNow_4 : decode cX6_outcomesNow 4 = .ok (.aload_n 0, 1) := by decide +kernel
theorem dX6_outcomesNow_5 : decode cX6_outcomesNow 5 = .ok (.getfield 10, 3) := by decide +kernel
theorem dX6_outcomesNow_8 : decode cX6_outcomesNow 8 = .ok (.getfield 93, 3) := by decide +kernel
theorem dX6_outcomesNow_11 : decode cX6_outcomesNow 11 = .ok (.invokevirtual 259, 3) := by decide +kernel
theorem dX6_outcomesNow_14 : decode cX6_outcomesNow 14 = .ok (.aload_n 0, 1) := by decide +kernel
theorem dX6_outcomesNow_15 : decode cX6_outcomesNow 15 = .ok (.getfield 48, 3) := by decide +kernel
theorem dX6_outcomesNow_18 : decode cX6_outcomesNow 18 = .ok (.areturn, 1) := by decide +kernel
theorem dX6_isWinning_0 : decode cX6_isWinning 0 = .ok (.aload_n 0, 1) := by decide +kernel
theorem dX6_isWinning_1 : decode cX6_isWinning 1 = .ok (.getfield 10, 3) := by decide +kernel
theorem dX6_isWinning_4 : decode cX6_isWinning 4 = .ok (.iload_n 1, 1) := by decide +kernel
theorem dX6_isWinning_5 : decode cX6_isWinning 5 = .ok (.invokevirtual 190, 3) := by decide +kernel
theorem dX6_isWinning_8 : decode cX6_isWinning 8 = .ok (.ifCond .eq 25, 3) := by decide +kernel
theorem dX6_isWinning_11 : decode cX6_isWinning 11 = .ok (.aload_n 0, 1) := by decide +kernel
theorem dX6_isWinning_12 : decode cX6_isWinning 12 = .ok (.invokevirtual 200, 3) := by decide +kernel
theorem dX6_isWinning_15 : decode cX6_isWinning 15 = .ok (.aload_n 0, 1) := by decide +kernel
theorem dX6_isWinning_16 : decode cX6_isWinning 16 = .ok (.getfield 10, 3) := by decide +kernel
theorem dX6_isWinning_19 : decode cX6_isWinning 19 = .ok (.iload_n 1, 1) := by decide +kernel
theorem dX6_isWinning_20 : decode cX6_isWinning 20 = .ok (.invokevirtual 204, 3) := by decide +kernel
theorem dX6_isWinning_23 : decode cX6_isWinning 23 = .ok (.invokevirtual 207, 3) := by decide +kernel
theorem dX6_isWinning_26 : decode cX6_isWinning 26 = .ok (.ifCond .ne 7, 3) := by decide +kernel
theorem dX6_isWinning_29 : decode cX6_isWinning 29 = .ok (.iconst 1, 1) := by decide +kernel
theorem dX6_isWinning_30 : decode cX6_isWinning 30 = .ok (.goto 4, 3) := by decide +kernel
theorem dX6_isWinning_33 : decode cX6_isWinning 33 = .ok (.iconst 0, 1) := by decide +kernel
theorem dX6_isWinning_34 : decode cX6_isWinning 34 = .ok (.ireturn, 1) := by decide +kernel
theorem dX6_lowestWinning_0 : decode cX6_lowestWinning 0 = .ok (.iconst 0, 1) := by decide +kernel
theorem dX6_lowestWinning_1 : decode cX6_lowestWinning 1 = .ok (.istore_n 1, 1) := by decide +kernel
theorem dX6_lowestWinning_2 : decode cX6_lowestWinning 2 = .ok (.iload_n 1, 1) := by decide +kernel
theorem dX6_lowestWinning_3 : decode cX6_lowestWinning 3 = .ok (.aload_n 0, 1) := by decide +kernel
theorem dX6_lowestWinning_4 : decode cX6_lowestWinning 4 = .ok (.getfield 10, 3) := by decide +kernel
theorem dX6_lowestWinning_7 : decode cX6_lowestWinning 7 = .ok (.getfield 66, 3) := by decide +kernel
theorem dX6_lowestWinning_10 : decode cX6_lowestWinning 10 = .ok (.if_icmp .ge 19, 3) := by decide +kernel
theorem dX6_lowestWinning_13 : decode cX6_lowestWinning 13 = .ok (.aload_n 0, 1) := by decide +kernel
theorem dX6_lowestWinning_14 : decode cX6_lowestWinning 14 = .ok (.iload_n 1, 1) := by decide +kernel
theorem dX6_lowestWinning_15 : decode cX6_lowestWinning 15 = .ok (.invokevirtual 210, 3) := by decide +kernel
theorem dX6_lowestWinning_18 : decode cX6_lowestWinning 18 = .ok (.ifCond .eq 5, 3) := by decide +kernel
theorem dX6_lowestWinning_21 : decode cX6_lowestWinning 21 = .ok (.iload_n 1, 1) := by decide +kernel
theorem dX6_lowestWinning_22 : decode cX6_lowestWinning 22 = .ok (.ireturn, 1) := by decide +kernel
theorem dX6_lowestWinning_23 : decode cX6_lowestWinning 23 = .ok (.iinc 1 1, 3) := by decide +kernel
theorem dX6_lowestWinning_26 : decode cX6_lowestWinning 26 = .ok (.goto (-24), 3) := by decide +kernel
theorem dX6_lowestWinning_29 : decode cX6_lowestWinning 29 = .ok (.iconst (-1), 1) := by decide +kernel
theorem dX6_lowestWinning_30 : decode cX6_lowestWinning 30 = .ok (.ireturn, 1) := by decide +kernel
theorem dX6_winningCount_0 : decode cX6_winningCount 0 = .ok (.iconst 0, 1) := by decide +kernel
theorem dX6_winningCount_1 : decode cX6_winningCount 1 = .ok (.istore_n 1, 1) := by decide +kernel
theorem dX6_winningCount_2 : decode cX6_winningCount 2 = .ok (.iconst 0, 1) := by decide +kernel
theorem dX6_winningCount_3 : decode cX6_winningCount 3 = .ok (.istore_n 2, 1) := by decide +kernel
theorem dX6_winningCount_4 : decode cX6_winningCount 4 = .ok (.iload_n 2, 1) := by decide +kernel
theorem dX6_winningCount_5 : decode cX6_winningCount 5 = .ok (.aload_n 0, 1) := by decide +kernel
theorem dX6_winningCount_6 : decode cX6_winningCount 6 = .ok (.getfield 10, 3) := by decide +kernel
theorem dX6_winningCount_9 : decode cX6_winningCount 9 = .ok (.getfield 66, 3) := by decide +kernel
theorem dX6_winningCount_12 : decode cX6_winningCount 12 = .ok (.if_icmp .ge 20, 3) := by decide +kernel
theorem dX6_winningCount_15 : decode cX6_winningCount 15 = .ok (.aload_n 0, 1) := by decide +kernel
theorem dX6_winningCount_16 : decode cX6_winningCount 16 = .ok (.iload_n 2, 1) := by decide +kernel
theorem dX6_winningCount_17 : decode cX6_winningCount 17 = .ok (.invokevirtual 210, 3) := by decide +kernel
theorem dX6_winningCount_20 : decode cX6_winningCount 20 = .ok (.ifCond .eq 6, 3) := by decide +kernel
theorem dX6_winningCount_23 : decode cX6_winningCount 23 = .ok (.iinc 1 1, 3) := by decide +kernel
theorem dX6_winningCount_26 : decode cX6_winningCount 26 = .ok (.iinc 2 1, 3) := by decide +kernel
theorem dX6_winningCount_29 : decode cX6_winningCount 29 = .ok (.goto (-25), 3) := by decide +kernel
theorem dX6_winningCount_32 : decode cX6_winningCount 32 = .ok (.iload_n 1, 1) := by decide +kernel
theorem dX6_winningCount_33 : decode cX6_winningCount 33 = .ok (.ireturn, 1) := by decide +kernel
theorem dX6_sumOfTrees_0 : decode cX6_sumOfTrees 0 = .ok (.iconst 0, 1) := by decide +kernel
theorem dX6_sumOfTrees_1 : decode cX6_sumOfTrees 1 = .ok (.istore_n 1, 1) := by decide +kernel
theorem dX6_sumOfTrees_2 : decode cX6_sumOfTrees 2 = .ok (.aload_n 0, 1) := by decide +kernel
theorem dX6_sumOfTrees_3 : decode cX6_sumOfTrees 3 = .ok (.getfield 10, 3) := by decide +kernel
theorem dX6_sumOfTrees_6 : decode cX6_sumOfTrees 6 = .ok (.invokevirtual 100, 3) := by decide +kernel
theorem dX6_sumOfTrees_9 : decode cX6_sumOfTrees 9 = .ok (.istore_n 2, 1) := by decide +kernel
theorem dX6_sumOfTrees_10 : decode cX6_sumOfTrees 10 = .ok (.iconst 0, 1) := by decide +kernel
theorem dX6_sumOfTrees_11 : decode cX6_sumOfTrees 11 = .ok (.istore_n 3, 1) := by decide +kernel
theorem dX6_sumOfTrees_12 : decode cX6_sumOfTrees 12 = .ok (.iload_n 3, 1) := by decide +kernel
theorem dX6_sumOfTrees_13 : decode cX6_sumOfTrees 13 = .ok (.iload_n 2, 1) := by decide +kernel
theorem dX6_sumOfTrees_14 : decode cX6_sumOfTrees 14 = .ok (.if_icmp .ge 27, 3) := by decide +kernel
theorem dX6_sumOfTrees_17 : decode cX6_sumOfTrees 17 = .ok (.iload_n 1, 1) := by decide +kernel
theorem dX6_sumOfTrees_18 : decode cX6_sumOfTrees 18 = .ok (.aload_n 0, 1) := by decide +kernel
theorem dX6_sumOfTrees_19 : decode cX6_sumOfTrees 19 = .ok (.invokevirtual 200, 3) := by decide +kernel
theorem dX6_sumOfTrees_22 : decode cX6_sumOfTrees 22 = .ok (.aload_n 0, 1) := by decide +kernel
theorem dX6_sumOfTrees_23 : decode cX6_sumOfTrees 23 = .ok (.getfield 10, 3) := by decide +kernel
theorem dX6_sumOfTrees_26 : decode cX6_sumOfTrees 26 = .ok (.iload_n 3, 1) := by decide +kernel
theorem dX6_sumOfTrees_27 : decode cX6_sumOfTrees 27 = .ok (.invokevirtual 216, 3) := by decide +kernel
theorem dX6_sumOfTrees_30 : decode cX6_sumOfTrees 30 = .ok (.invokevirtual 207, 3) := by decide +kernel
theorem dX6_sumOfTrees_33 : decode cX6_sumOfTrees 33 = .ok (.ixor, 1) := by decide +kernel
theorem dX6_sumOfTrees_34 : decode cX6_sumOfTrees 34 = .ok (.istore_n 1, 1) := by decide +kernel
theorem dX6_sumOfTrees_35 : decode cX6_sumOfTrees 35 = .ok (.iinc 3 1, 3) := by decide +kernel
theorem dX6_sumOfTrees_38 : decode cX6_sumOfTrees 38 = .ok (.goto (-26), 3) := by decide +kernel
theorem dX6_sumOfTrees_41 : decode cX6_sumOfTrees 41 = .ok (.iload_n 1, 1) := by decide +kernel
theorem dX6_sumOfTrees_42 : decode cX6_sumOfTrees 42 = .ok (.ireturn, 1) := by decide +kernel
theorem dX6_lowestAlike_0 : decode cX6_lowestAlike 0 = .ok (.aload_n 0, 1) := by decide +kernel
theorem dX6_lowestAlike_1 : decode cX6_lowestAlike 1 = .ok (.getfield 41, 3) := by decide +kernel
theorem dX6_lowestAlike_4 : decode cX6_lowestAlike 4 = .ok (.aload_n 0, 1) := by decide +kernel
theorem dX6_lowestAlike_5 : decode cX6_lowestAlike 5 = .ok (.getfield 10, 3) := by decide +kernel
theorem dX6_lowestAlike_8 : decode cX6_lowestAlike 8 = .ok (.getfield 93, 3) := by decide +kernel
theorem dX6_lowestAlike_11 : decode cX6_lowestAlike 11 = .ok (.aload_n 0, 1) := by decide +kernel
theorem dX6_lowestAlike_12 : decode cX6_lowestAlike 12 = .ok (.getfield 10, 3) := by decide +kernel
theorem dX6_lowestAlike_15 : decode cX6_lowestAlike 15 = .ok (.iload_n 1, 1) := by decide +kernel
theorem dX6_lowestAlike_16 : decode cX6_lowestAlike 16 = .ok (.invokevirtual 216, 3) := by decide +kernel
theorem dX6_lowestAlike_19 : decode cX6_lowestAlike 19 = .ok (.invokevirtual 310, 3) := by decide +kernel
theorem dX6_lowestAlike_22 : decode cX6_lowestAlike 22 = .ok (.istore_n 2, 1) := by decide +kernel
theorem dX6_lowestAlike_23 : decode cX6_lowestAlike 23 = .ok (.iconst 0, 1) := by decide +kernel
theorem dX6_lowestAlike_24 : decode cX6_lowestAlike 24 = .ok (.istore_n 3, 1) := by decide +kernel
theorem dX6_lowestAlike_25 : decode cX6_lowestAlike 25 = .ok (.iload_n 3, 1) := by decide +kernel
theorem dX6_lowestAlike_26 : decode cX6_lowestAlike 26 = .ok (.iload_n 1, 1) := by decide +kernel
theorem dX6_lowestAlike_27 : decode cX6_lowestAlike 27 = .ok (.if_icmp .ge 37, 3) := by decide +kernel
theorem dX6_lowestAlike_30 : decode cX6_lowestAlike 30 = .ok (.aload_n 0, 1) := by decide +kernel
theorem dX6_lowestAlike_31 : decode cX6_lowestAlike 31 = .ok (.getfield 41, 3) := by decide +kernel
theorem dX6_lowestAlike_34 : decode cX6_lowestAlike 34 = .ok (.aload_n 0, 1) := by decide +kernel
theorem dX6_lowestAlike_35 : decode cX6_lowestAlike 35 = .ok (.getfield 10, 3) := by decide +kernel
theorem dX6_lowestAlike_38 : decode cX6_lowestAlike 38 = .ok (.getfield 93, 3) := by decide +kernel
theorem dX6_lowestAlike_41 : decode cX6_lowestAlike 41 = .ok (.aload_n 0, 1) := by decide +kernel
theorem dX6_lowestAlike_42 : decode cX6_lowestAlike 42 = .ok (.getfield 10, 3) := by decide +kernel
theorem dX6_lowestAlike_45 : decode cX6_lowestAlike 45 = .ok (.iload_n 3, 1) := by decide +kernel
theorem dX6_lowestAlike_46 : decode cX6_lowestAlike 46 = .ok (.invokevirtual 216, 3) := by decide +kernel
theorem dX6_lowestAlike_49 : decode cX6_lowestAlike 49 = .ok (.invokevirtual 310, 3) := by decide +kernel
theorem dX6_lowestAlike_52 : decode cX6_lowestAlike 52 = .ok (.iload_n 2, 1) := by decide +kernel
theorem dX6_lowestAlike_53 : decode cX6_lowestAlike 53 = .ok (.if_icmp .ne 5, 3) := by decide +kernel
theorem dX6_lowestAlike_56 : decode cX6_lowestAlike 56 = .ok (.iload_n 3, 1) := by decide +kernel
theorem dX6_lowestAlike_57 : decode cX6_lowestAlike 57 = .ok (.ireturn, 1) := by decide +kernel
theorem dX6_lowestAlike_58 : decode cX6_lowestAlike 58 = .ok (.iinc 3 1, 3) := by decide +kernel
theorem dX6_lowestAlike_61 : decode cX6_lowestAlike 61 = .ok (.goto (-36), 3) := by decide +kernel
theorem dX6_lowestAlike_64 : decode cX6_lowestAlike 64 = .ok (.iload_n 1, 1) := by decide +kernel
theorem dX6_lowestAlike_65 : decode cX6_lowestAlike 65 = .ok (.ireturn, 1) := by decide +kernel
theorem dX6_classCount_0 : decode cX6_classCount 0 = .ok (.iconst 0, 1) := by decide +kernel
theorem dX6_classCount_1 : decode cX6_classCount 1 = .ok (.istore_n 1, 1) := by decide +kernel
theorem dX6_classCount_2 : decode cX6_classCount 2 = .ok (.aload_n 0, 1) := by decide +kernel
theorem dX6_classCount_3 : decode cX6_classCount 3 = .ok (.getfield 10, 3) := by decide +kernel
theorem dX6_classCount_6 : decode cX6_classCount 6 = .ok (.invokevirtual 100, 3) := by decide +kernel
theorem dX6_classCount_9 : decode cX6_classCount 9 = .ok (.istore_n 2, 1) := by decide +kernel
theorem dX6_classCount_10 : decode cX6_classCount 10 = .ok (.iconst 0, 1) := by decide +kernel
theorem dX6_classCount_11 : decode cX6_classCount 11 = .ok (.istore_n 3, 1) := by decide +kernel
theorem dX6_classCount_12 : decode cX6_classCount 12 = .ok (.iload_n 3, 1) := by decide +kernel
theorem dX6_classCount_13 : decode cX6_classCount 13 = .ok (.iload_n 2, 1) := by decide +kernel
theorem dX6_classCount_14 : decode cX6_classCount 14 = .ok (.if_icmp .ge 21, 3) := by decide +kernel
theorem dX6_classCount_17 : decode cX6_classCount 17 = .ok (.aload_n 0, 1) := by decide +kernel
theorem dX6_classCount_18 : decode cX6_classCount 18 = .ok (.iload_n 3, 1) := by decide +kernel
theorem dX6_classCount_19 : decode cX6_classCount 19 = .ok (.invokevirtual 224, 3) := by decide +kernel
theorem dX6_classCount_22 : decode cX6_classCount 22 = .ok (.iload_n 3, 1) := by decide +kernel
theorem dX6_classCount_23 : decode cX6_classCount 23 = .ok (.if_icmp .ne 6, 3) := by decide +kernel
theorem dX6_classCount_26 : decode cX6_classCount 26 = .ok (.iinc 1 1, 3) := by decide +kernel
theorem dX6_classCount_29 : decode cX6_classCount 29 = .ok (.iinc 3 1, 3) := by decide +kernel
theorem dX6_classCount_32 : decode cX6_classCount 32 = .ok (.goto (-20), 3) := by decide +kernel
theorem dX6_classCount_35 : decode cX6_classCount 35 = .ok (.iload_n 1, 1) := by decide +kernel
theorem dX6_classCount_36 : decode cX6_classCount 36 = .ok (.ireturn, 1) := by decide +kernel
theorem dX6_isMirror_0 : decode cX6_isMirror 0 = .ok (.aload_n 0, 1) := by decide +kernel
theorem dX6_isMirror_1 : decode cX6_isMirror 1 = .ok (.getfield 10, 3) := by decide +kernel
theorem dX6_isMirror_4 : decode cX6_isMirror 4 = .ok (.iload_n 1, 1) := by decide +kernel
theorem dX6_isMirror_5 : decode cX6_isMirror 5 = .ok (.iload_n 2, 1) := by decide +kernel
theorem dX6_isMirror_6 : decode cX6_isMirror 6 = .ok (.invokevirtual 104, 3) := by decide +kernel
theorem dX6_isMirror_9 : decode cX6_isMirror 9 = .ok (.ifCond .ne 5, 3) := by decide +kernel
theorem dX6_isMirror_12 : decode cX6_isMirror 12 = .ok (.iconst 0, 1) := by decide +kernel
theorem dX6_isMirror_13 : decode cX6_isMirror 13 = .ok (.ireturn, 1) := by decide +kernel
theorem dX6_isMirror_14 : decode cX6_isMirror 14 = .ok (.aload_n 0, 1) := by decide +kernel
theorem dX6_isMirror_15 : decode cX6_isMirror 15 = .ok (.getfield 10, 3) := by decide +kernel
theorem dX6_isMirror_18 : decode cX6_isMirror 18 = .ok (.getfield 93, 3) := by decide +kernel
theorem dX6_isMirror_21 : decode cX6_isMirror 21 = .ok (.iload_n 1, 1) := by decide +kernel
theorem dX6_isMirror_22 : decode cX6_isMirror 22 = .ok (.aload_n 0, 1) := by decide +kernel
theorem dX6_isMirror_23 : decode cX6_isMirror 23 = .ok (.getfield 10, 3) := by decide +kernel
theorem dX6_isMirror_26 : decode cX6_isMirror 26 = .ok (.getfield 119, 3) := by decide +kernel
theorem dX6_isMirror_29 : decode cX6_isMirror 29 = .ok (.iload_n 2, 1) := by decide +kernel
theorem dX6_isMirror_30 : decode cX6_isMirror 30 = .ok (.invokestatic 314, 3) := by decide +kernel
theorem dX6_isMirror_33 : decode cX6_isMirror 33 = .ok (.iconst (-1), 1) := by decide +kernel
theorem dX6_isMirror_34 : decode cX6_isMirror 34 = .ok (.ixor, 1) := by decide +kernel
theorem dX6_isMirror_35 : decode cX6_isMirror 35 = .ok (.iand, 1) := by decide +kernel
theorem dX6_isMirror_36 : decode cX6_isMirror 36 = .ok (.invokevirtual 317, 3) := by decide +kernel
theorem dX6_isMirror_39 : decode cX6_isMirror 39 = .ok (.istore_n 3, 1) := by decide +kernel
theorem dX6_isMirror_40 : decode cX6_isMirror 40 = .ok (.aload_n 0, 1) := by decide +kernel
theorem dX6_isMirror_41 : decode cX6_isMirror 41 = .ok (.getfield 10, 3) := by decide +kernel
theorem dX6_isMirror_44 : decode cX6_isMirror 44 = .ok (.getfield 93, 3) := by decide +kernel
theorem dX6_isMirror_47 : decode cX6_isMirror 47 = .ok (.iload_n 2, 1) := by decide +kernel
theorem dX6_isMirror_48 : decode cX6_isMirror 48 = .ok (.aload_n 0, 1) := by decide +kernel
theorem dX6_isMirror_49 : decode cX6_isMirror 49 = .ok (.getfield 10, 3) := by decide +kernel
theorem dX6_isMirror_52 : decode cX6_isMirror 52 = .ok (.getfield 119, 3) := by decide +kernel
theorem dX6_isMirror_55 : decode cX6_isMirror 55 = .ok (.iload_n 1, 1) := by decide +kernel
theorem dX6_isMirror_56 : decode cX6_isMirror 56 = .ok (.invokestatic 314, 3) := by decide +kernel
theorem dX6_isMirror_59 : decode cX6_isMirror 59 = .ok (.iconst (-1), 1) := by decide +kernel
theorem dX6_isMirror_60 : decode cX6_isMirror 60 = .ok (.ixor, 1) := by decide +kernel
theorem dX6_isMirror_61 : decode cX6_isMirror 61 = .ok (.iand, 1) := by decide +kernel
theorem dX6_isMirror_62 : decode cX6_isMirror 62 = .ok (.invokevirtual 317, 3) := by decide +kernel
theorem dX6_isMirror_65 : decode cX6_isMirror 65 = .ok (.istore 4, 2) := by decide +kernel
theorem dX6_isMirror_67 : decode cX6_isMirror 67 = .ok (.iload_n 3, 1) := by decide +kernel
theorem dX6_isMirror_68 : decode cX6_isMirror 68 = .ok (.invokestatic 132, 3) := by decide +kernel
theorem dX6_isMirror_71 : decode cX6_isMirror 71 = .ok (.iload 4, 2) := by decide +kernel
theorem dX6_isMirror_73 : decode cX6_isMirror 73 = .ok (.invokestatic 132, 3) := by decide +kernel
theorem dX6_isMirror_76 : decode cX6_isMirror 76 = .ok (.if_icmp .ne 41, 3) := by decide +kernel
theorem dX6_isMirror_79 : decode cX6_isMirror 79 = .ok (.aload_n 0, 1) := by decide +kernel
theorem dX6_isMirror_80 : decode cX6_isMirror 80 = .ok (.getfield 41, 3) := by decide +kernel
theorem dX6_isMirror_83 : decode cX6_isMirror 83 = .ok (.aload_n 0, 1) := by decide +kernel
theorem dX6_isMirror_84 : decode cX6_isMirror 84 = .ok (.getfield 10, 3) := by decide +kernel
theorem dX6_isMirror_87 : decode cX6_isMirror 87 = .ok (.getfield 93, 3) := by decide +kernel
theorem dX6_isMirror_90 : decode cX6_isMirror 90 = .ok (.iload_n 3, 1) := by decide +kernel
theorem dX6_isMirror_91 : decode cX6_isMirror 91 = .ok (.invokevirtual 310, 3) := by decide +kernel
theorem dX6_isMirror_94 : decode cX6_isMirror 94 = .ok (.aload_n 0, 1) := by decide +kernel
theorem dX6_isMirror_95 : decode cX6_isMirror 95 = .ok (.getfield 41, 3) := by decide +kernel
theorem dX6_isMirror_98 : decode cX6_isMirror 98 = .ok (.aload_n 0, 1) := by decide +kernel
theorem dX6_isMirror_99 : decode cX6_isMirror 99 = .ok (.getfield 10, 3) := by decide +kernel
theorem dX6_isMirror_102 : decode cX6_isMirror 102 = .ok (.getfield 93, 3) := by decide +kernel
theorem dX6_isMirror_105 : decode cX6_isMirror 105 = .ok (.iload 4, 2) := by decide +kernel
theorem dX6_isMirror_107 : decode cX6_isMirror 107 = .ok (.invokevirtual 310, 3) := by decide +kernel
theorem dX6_isMirror_110 : decode cX6_isMirror 110 = .ok (.if_icmp .ne 7, 3) := by decide +kernel
theorem dX6_isMirror_113 : decode cX6_isMirror 113 = .ok (.iconst 1, 1) := by decide +kernel
theorem dX6_isMirror_114 : decode cX6_isMirror 114 = .ok (.goto 4, 3) := by decide +kernel
theorem dX6_isMirror_117 : decode cX6_isMirror 117 = .ok (.iconst 0, 1) := by decide +kernel
theorem dX6_isMirror_118 : decode cX6_isMirror 118 = .ok (.ireturn, 1) := by decide +kernel
theorem dX6_mirrorsIn_0 : decode cX6_mirrorsIn 0 = .ok (.iconst 0, 1) := by decide +kernel
theorem dX6_mirrorsIn_1 : decode cX6_mirrorsIn 1 = .ok (.istore_n 2, 1) := by decide +kernel
theorem dX6_mirrorsIn_2 : decode cX6_mirrorsIn 2 = .ok (.iconst 0, 1) := by decide +kernel
theorem dX6_mirrorsIn_3 : decode cX6_mirrorsIn 3 = .ok (.istore_n 3, 1) := by decide +kernel
theorem dX6_mirrorsIn_4 : decode cX6_mirrorsIn 4 = .ok (.iload_n 3, 1) := by decide +kernel
theorem dX6_mirrorsIn_5 : decode cX6_mirrorsIn 5 = .ok (.bipush 14, 2) := by decide +kernel
theorem dX6_mirrorsIn_7 : decode cX6_mirrorsIn 7 = .ok (.if_icmp .ge 48, 3) := by decide +kernel
theorem dX6_mirrorsIn_10 : decode cX6_mirrorsIn 10 = .ok (.iload_n 3, 1) := by decide +kernel
theorem dX6_mirrorsIn_11 : decode cX6_mirrorsIn 11 = .ok (.iconst 1, 1) := by decide +kernel
theorem dX6_mirrorsIn_12 : decode cX6_mirrorsIn 12 = .ok (.iadd, 1) := by decide +kernel
theorem dX6_mirrorsIn_13 : decode cX6_mirrorsIn 13 = .ok (.istore 4, 2) := by decide +kernel
theorem dX6_mirrorsIn_15 : decode cX6_mirrorsIn 15 = .ok (.iload 4, 2) := by decide +kernel
theorem dX6_mirrorsIn_17 : decode cX6_mirrorsIn 17 = .ok (.bipush 14, 2) := by decide +kernel
theorem dX6_mirrorsIn_19 : decode cX6_mirrorsIn 19 = .ok (.if_icmp .ge 30, 3) := by decide +kernel
theorem dX6_mirrorsIn_22 : decode cX6_mirrorsIn 22 = .ok (.iload_n 1, 1) := by decide +kernel
theorem dX6_mirrorsIn_23 : decode cX6_mirrorsIn 23 = .ok (.iload_n 3, 1) := by decide +kernel
theorem dX6_mirrorsIn_24 : decode cX6_mirrorsIn 24 = .ok (.invokestatic 320, 3) := by decide +kernel
theorem dX6_mirrorsIn_27 : decode cX6_mirrorsIn 27 = .ok (.ifCond .eq 16, 3) := by decide +kernel
theorem dX6_mirrorsIn_30 : decode cX6_mirrorsIn 30 = .ok (.aload_n 0, 1) := by decide +kernel
theorem dX6_mirrorsIn_31 : decode cX6_mirrorsIn 31 = .ok (.iload_n 3, 1) := by decide +kernel
theorem dX6_mirrorsIn_32 : decode cX6_mirrorsIn 32 = .ok (.iload 4, 2) := by decide +kernel
theorem dX6_mirrorsIn_34 : decode cX6_mirrorsIn 34 = .ok (.invokevirtual 109, 3) := by decide +kernel
theorem dX6_mirrorsIn_37 : decode cX6_mirrorsIn 37 = .ok (.ifCond .eq 6, 3) := by decide +kernel
theorem dX6_mirrorsIn_40 : decode cX6_mirrorsIn 40 = .ok (.iinc 2 1, 3) := by decide +kernel
theorem dX6_mirrorsIn_43 : decode cX6_mirrorsIn 43 = .ok (.iinc 4 1, 3) := by decide +kernel
theorem dX6_mirrorsIn_46 : decode cX6_mirrorsIn 46 = .ok (.goto (-31), 3) := by decide +kernel
theorem dX6_mirrorsIn_49 : decode cX6_mirrorsIn 49 = .ok (.iinc 3 1, 3) := by decide +kernel
theorem dX6_mirrorsIn_52 : decode cX6_mirrorsIn 52 = .ok (.goto (-48), 3) := by decide +kernel
theorem dX6_mirrorsIn_55 : decode cX6_mirrorsIn 55 = .ok (.iload_n 2, 1) := by decide +kernel
theorem dX6_mirrorsIn_56 : decode cX6_mirrorsIn 56 = .ok (.ireturn, 1) := by decide +kernel
theorem dX6_bitsOfShare_0 : decode cX6_bitsOfShare 0 = .ok (.dload_n 0, 1) := by decide +kernel
theorem dX6_bitsOfShare_1 : decode cX6_bitsOfShare 1 = .ok (.dconst 0, 1) := by decide +kernel
theorem dX6_bitsOfShare_2 : decode cX6_bitsOfShare 2 = .ok (.dcmp .l, 1) := by decide +kernel
theorem dX6_bitsOfShare_3 : decode cX6_bitsOfShare 3 = .ok (.ifCond .gt 5, 3) := by decide +kernel
theorem dX6_bitsOfShare_6 : decode cX6_bitsOfShare 6 = .ok (.lconst 0, 1) := by decide +kernel
theorem dX6_bitsOfShare_7 : decode cX6_bitsOfShare 7 = .ok (.lreturn, 1) := by decide +kernel
theorem dX6_bitsOfShare_8 : decode cX6_bitsOfShare 8 = .ok (.dload_n 0, 1) := by decide +kernel
theorem dX6_bitsOfShare_9 : decode cX6_bitsOfShare 9 = .ok (.dstore_n 2, 1) := by decide +kernel
theorem dX6_bitsOfShare_10 : decode cX6_bitsOfShare 10 = .ok (.ldc2_w 323, 3) := by decide +kernel
theorem dX6_bitsOfShare_13 : decode cX6_bitsOfShare 13 = .ok (.lstore 4, 2) := by decide +kernel
theorem dX6_bitsOfShare_15 : decode cX6_bitsOfShare 15 = .ok (.iconst 0, 1) := by decide +kernel
theorem dX6_bitsOfShare_16 : decode cX6_bitsOfShare 16 = .ok (.istore 6, 2) := by decide +kernel
theorem dX6_bitsOfShare_18 : decode cX6_bitsOfShare 18 = .ok (.iload 6, 2) := by decide +kernel
theorem dX6_bitsOfShare_20 : decode cX6_bitsOfShare 20 = .ok (.bipush 14, 2) := by decide +kernel
theorem dX6_bitsOfShare_22 : decode cX6_bitsOfShare 22 = .ok (.if_icmp .ge 27, 3) := by decide +kernel
theorem dX6_bitsOfShare_25 : decode cX6_bitsOfShare 25 = .ok (.dload_n 2, 1) := by decide +kernel
theorem dX6_bitsOfShare_26 : decode cX6_bitsOfShare 26 = .ok (.dconst 1, 1) := by decide +kernel
theorem dX6_bitsOfShare_27 : decode cX6_bitsOfShare 27 = .ok (.dcmp .g, 1) := by decide +kernel
theorem dX6_bitsOfShare_28 : decode cX6_bitsOfShare 28 = .ok (.ifCond .ge 21, 3) := by decide +kernel
theorem dX6_bitsOfShare_31 : decode cX6_bitsOfShare 31 = .ok (.dload_n 2, 1) := by decide +kernel
theorem dX6_bitsOfShare_32 : decode cX6_bitsOfShare 32 = .ok (.ldc2_w 325, 3) := by decide +kernel
theorem dX6_bitsOfShare_35 : decode cX6_bitsOfShare 35 = .ok (.dmul, 1) := by decide +kernel
theorem dX6_bitsOfShare_36 : decode cX6_bitsOfShare 36 = .ok (.dstore_n 2, 1) := by decide +kernel
theorem dX6_bitsOfShare_37 : decode cX6_bitsOfShare 37 = .ok (.lload 4, 2) := by decide +kernel
theorem dX6_bitsOfShare_39 : decode cX6_bitsOfShare 39 = .ok (.lconst 1, 1) := by decide +kernel
theorem dX6_bitsOfShare_40 : decode cX6_bitsOfShare 40 = .ok (.lsub, 1) := by decide +kernel
theorem dX6_bitsOfShare_41 : decode cX6_bitsOfShare 41 = .ok (.lstore 4, 2) := by decide +kernel
theorem dX6_bitsOfShare_43 : decode cX6_bitsOfShare 43 = .ok (.iinc 6 1, 3) := by decide +kernel
theorem dX6_bitsOfShare_46 : decode cX6_bitsOfShare 46 = .ok (.goto (-28), 3) := by decide +kernel
theorem dX6_bitsOfShare_49 : decode cX6_bitsOfShare 49 = .ok (.lload 4, 2) := by decide +kernel
theorem dX6_bitsOfShare_51 : decode cX6_bitsOfShare 51 = .ok (.bipush 52, 2) := by decide +kernel
theorem dX6_bitsOfShare_53 : decode cX6_bitsOfShare 53 = .ok (.lshl, 1) := by decide +kernel
theorem dX6_bitsOfShare_54 : decode cX6_bitsOfShare 54 = .ok (.dload_n 2, 1) := by decide +kernel
theorem dX6_bitsOfShare_55 : decode cX6_bitsOfShare 55 = .ok (.dconst 1, 1) := by decide +kernel
theorem dX6_bitsOfShare_56 : decode cX6_bitsOfShare 56 = .ok (.dsub, 1) := by decide +kernel
theorem dX6_bitsOfShare_57 : decode cX6_bitsOfShare 57 = .ok (.ldc2_w 327, 3) := by decide +kernel
theorem dX6_bitsOfShare_60 : decode cX6_bitsOfShare 60 = .ok (.dmul, 1) := by decide +kernel
theorem dX6_bitsOfShare_61 : decode cX6_bitsOfShare 61 = .ok (.d2l, 1) := by decide +kernel
theorem dX6_bitsOfShare_62 : decode cX6_bitsOfShare 62 = .ok (.lor, 1) := by decide +kernel
theorem dX6_bitsOfShare_63 : decode cX6_bitsOfShare 63 = .ok (.lreturn, 1) := by decide +kernel
theorem dX6_bit_0 : decode cX6_bit 0 = .ok (.iload_n 0, 1) := by decide +kernel
theorem dX6_bit_1 : decode cX6_bit 1 = .ok (.ifCond .lt 15, 3) := by decide +kernel
theorem dX6_bit_4 : decode cX6_bit 4 = .ok (.iload_n 0, 1) := by decide +kernel
theorem dX6_bit_5 : decode cX6_bit 5 = .ok (.bipush 14, 2) := by decide +kernel
theorem dX6_bit_7 : decode cX6_bit 7 = .ok (.if_icmp .ge 9, 3) := by decide +kernel
theorem dX6_bit_10 : decode cX6_bit 10 = .ok (.iconst 1, 1) := by decide +kernel
theorem dX6_bit_11 : decode cX6_bit 11 = .ok (.iload_n 0, 1) := by decide +kernel
theorem dX6_bit_12 : decode cX6_bit 12 = .ok (.ishl, 1) := by decide +kernel
theorem dX6_bit_13 : decode cX6_bit 13 = .ok (.goto 4, 3) := by decide +kernel
theorem dX6_bit_16 : decode cX6_bit 16 = .ok (.iconst 0, 1) := by decide +kernel
theorem dX6_bit_17 : decode cX6_bit 17 = .ok (.ireturn, 1) := by decide +kernel
theorem dX6_has_0 : decode cX6_has 0 = .ok (.iload_n 1, 1) := by decide +kernel
theorem dX6_has_1 : decode cX6_has 1 = .ok (.ifCond .lt 22, 3) := by decide +kernel
theorem dX6_has_4 : decode cX6_has 4 = .ok (.iload_n 1, 1) := by decide +kernel
theorem dX6_has_5 : decode cX6_has 5 = .ok (.bipush 14, 2) := by decide +kernel
theorem dX6_has_7 : decode cX6_has 7 = .ok (.if_icmp .ge 16, 3) := by decide +kernel
theorem dX6_has_10 : decode cX6_has 10 = .ok (.iload_n 0, 1) := by decide +kernel
theorem dX6_has_11 : decode cX6_has 11 = .ok (.iload_n 1, 1) := by decide +kernel
theorem dX6_has_12 : decode cX6_has 12 = .ok (.ishr, 1) := by decide +kernel
theorem dX6_has_13 : decode cX6_has 13 = .ok (.iconst 1, 1) := by decide +kernel
theorem dX6_has_14 : decode cX6_has 14 = .ok (.iand, 1) := by decide +kernel
theorem dX6_has_15 : decode cX6_has 15 = .ok (.iconst 1, 1) := by decide +kernel
theorem dX6_has_16 : decode cX6_has 16 = .ok (.if_icmp .ne 7, 3) := by decide +kernel
theorem dX6_has_19 : decode cX6_has 19 = .ok (.iconst 1, 1) := by decide +kernel
theorem dX6_has_20 : decode cX6_has 20 = .ok (.goto 4, 3) := by decide +kernel
theorem dX6_has_23 : decode cX6_has 23 = .ok (.iconst 0, 1) := by decide +kernel
theorem dX6_has_24 : decode cX6_has 24 = .ok (.ireturn, 1) := by decide +kernel
theorem dX7_init_0 : decode cX7_init 0 = .ok (.aload_n 0, 1) := by decide +kernel
theorem dX7_init_1 : decode cX7_init 1 = .ok (.invokespecial 1, 3) := by decide +kernel
theorem dX7_init_4 : decode cX7_init 4 = .ok (.aload_n 0, 1) := by decide +kernel
theorem dX7_init_5 : decode cX7_init 5 = .ok (.sipush 162, 3) := by decide +kernel
theorem dX7_init_8 : decode cX7_init 8 = .ok (.newarray .int, 2) := by decide +kernel
theorem dX7_init_10 : decode cX7_init 10 = .ok (.putfield 7, 3) := by decide +kernel
theorem dX7_init_13 : decode cX7_init 13 = .ok (.aload_n 0, 1) := by decide +kernel
theorem dX7_init_14 : decode cX7_init 14 = .ok (.iconst 2, 1) := by decide +kernel
theorem dX7_init_15 : decode cX7_init 15 = .ok (.newarray .boolean, 2) := by decide +kernel
theorem dX7_init_17 : decode cX7_init 17 = .ok (.putfield 13, 3) := by decide +kernel
theorem dX7_init_20 : decode cX7_init 20 = .ok (.aload_n 0, 1) := by decide +kernel
theorem dX7_init_21 : decode cX7_init 21 = .ok (.bipush 14, 2) := by decide +kernel
theorem dX7_init_23 : decode cX7_init 23 = .ok (.newarray .char, 2) := by decide +kernel
theorem dX7_init_25 : decode cX7_init 25 = .ok (.putfield 17, 3) := by decide +kernel
theorem dX7_init_28 : decode cX7_init 28 = .ok (.aload_n 0, 1) := by decide +kernel
theorem dX7_init_29 : decode cX7_init 29 = .ok (.sipush 16384, 3) := by decide +kernel
theorem dX7_init_32 : decode cX7_init 32 = .ok (.newarray .int, 2) := by decide +kernel
theorem dX7_init_34 : decode cX7_init 34 = .ok (.putfield 21, 3) := by decide +kernel
theorem dX7_init_37 : decode cX7_init 37 = .ok (.aload_n 0, 1) := by decide +kernel
theorem dX7_init_38 : decode cX7_init 38 = .ok (.bipush 14, 2) := by decide +kernel
theorem dX7_init_40 : decode cX7_init 40 = .ok (.newarray .int, 2) := by decide +kernel
theorem dX7_init_42 : decode cX7_init 42 = .ok (.putfield 24, 3) := by decide +kernel
theorem dX7_init_45 : decode cX7_init 45 = .ok (.aload_n 0, 1) := by decide +kernel
theorem dX7_init_46 : decode cX7_init 46 = .ok (.bipush 14, 2) := by decide +kernel
theorem dX7_init_48 : decode cX7_init 48 = .ok (.newarray .int, 2) := by decide +kernel
theorem dX7_init_50 : decode cX7_init 50 = .ok (.putfield 27, 3) := by decide +kernel
theorem dX7_init_53 : decode cX7_init 53 = .ok (.aload_n 0, 1) := by decide +kernel
theorem dX7_init_54 : decode cX7_init 54 = .ok (.bipush 14, 2) := by decide +kernel
theorem dX7_init_56 : decode cX7_init 56 = .ok (.newarray .int, 2) := by decide +kernel
theorem dX7_init_58 : decode cX7_init 58 = .ok (.putfield 30, 3) := by decide +kernel
theorem dX7_init_61 : decode cX7_init 61 = .ok (.aload_n 0, 1) := by decide +kernel
theorem dX7_init_62 : decode cX7_init 62 = .ok (.bipush 14, 2) := by decide +kernel
theorem dX7_init_64 : decode cX7_init 64 = .ok (.newarray .int, 2) := by decide +kernel
theorem dX7_init_66 : decode cX7_init 66 = .ok (.putfield 33, 3) := by decide +kernel
theorem dX7_init_69 : decode cX7_init 69 = .ok (.aload_n 0, 1) := by decide +kernel
theorem dX7_init_70 : decode cX7_init 70 = .ok (.bipush 14, 2) := by decide +kernel
theorem dX7_init_72 : decode cX7_init 72 = .ok (.newarray .int, 2) := by decide +kernel
theorem dX7_init_74 : decode cX7_init 74 = .ok (.putfield 36, 3) := by decide +kernel
theorem dX7_init_77 : decode cX7_init 77 = .ok (.aload_n 0, 1) := by decide +kernel
theorem dX7_init_78 : decode cX7_init 78 = .ok (.bipush 14, 2) := by decide +kernel
theorem dX7_init_80 : decode cX7_init 80 = .ok (.newarray .long, 2) := by decide +kernel
theorem dX7_init_82 : decode cX7_init 82 = .ok (.putfield 39, 3) := by decide +kernel
theorem dX7_init_85 : decode cX7_init 85 = .ok (.return_, 1) := by decide +kernel
theorem dX7_thrown_0 : decode cX7_thrown 0 = .ok (.aload_n 0, 1) := by decide +kernel
theorem dX7_thrown_1 : decode cX7_thrown 1 = .ok (.getfield 43, 3) := by decide +kernel
theorem dX7_thrown_4 : decode cX7_thrown 4 = .ok (.ireturn, 1) := by decide +kernel
theorem dX7_in_0 : decode cX7_in 0 = .ok (.iload_n 0, 1) := by decide +kernel
theorem dX7_in_1 : decode cX7_in 1 = .ok (.iload_n 1, 1) := by decide +kernel
theorem dX7_in_2 : decode cX7_in 2 = .ok (.if_icmp .lt 12, 3) := by decide +kernel
theorem dX7_in_5 : decode cX7_in 5 = .ok (.iload_n 0, 1) := by decide +kernel
theorem dX7_in_6 : decode cX7_in 6 = .ok (.iload_n 2, 1) := by decide +kernel
theorem dX7_in_7 : decode cX7_in 7 = .ok (.if_icmp .gt 7, 3) := by decide +kernel
theorem dX7_in_10 : decode cX7_in 10 = .ok (.iconst 1, 1) := by decide +kernel
theorem dX7_in_11 : decode cX7_in 11 = .ok (.goto 4, 3) := by decide +kernel
theorem dX7_in_14 : decode cX7_in 14 = .ok (.iconst 0, 1) := by decide +kernel
theorem dX7_in_15 : decode cX7_in 15 = .ok (.ireturn, 1) := by decide +kernel
theorem dX7_goes_0 : decode cX7_goes 0 = .ok (.aload_n 0, 1) := by decide +kernel
theorem dX7_goes_1 : decode cX7_goes 1 = .ok (.iload_n 1, 1) := by decide +kernel
theorem dX7_goes_2 : decode cX7_goes 2 = .ok (.ifCond .ne 7, 3) := by decide +kernel
theorem dX7_goes_5 : decode cX7_goes 5 = .ok (.iconst 1, 1) := by decide +kernel
theorem dX7_goes_6 : decode cX7_goes 6 = .ok (.goto 12, 3) := by decide +kernel
theorem dX7_goes_9 : decode cX7_goes 9 = .ok (.iload_n 2, 1) := by decide +kernel
theorem dX7_goes_10 : decode cX7_goes 10 = .ok (.ifCond .ne 7, 3) := by decide +kernel
theorem dX7_goes_13 : decode cX7_goes 13 = .ok (.iconst 2, 1) := by decide +kernel
theorem dX7_goes_14 : decode cX7_goes 14 = .ok (.goto 4, 3) := by decide +kernel
theorem dX7_goes_17 : decode cX7_goes 17 = .ok (.iconst 0, 1) := by decide +kernel
theorem dX7_goes_18 : decode cX7_goes 18 = .ok (.putfield 43, 3) := by decide +kernel
theorem dX7_goes_21 : decode cX7_goes 21 = .ok (.aload_n 0, 1) := by decide +kernel
theorem dX7_goes_22 : decode cX7_goes 22 = .ok (.getfield 43, 3) := by decide +kernel
theorem dX7_goes_25 : decode cX7_goes 25 = .ok (.ifCond .ne 7, 3) := by decide +kernel
theorem dX7_goes_28 : decode cX7_goes 28 = .ok (.iconst 1, 1) := by decide +kernel
theorem dX7_goes_29 : decode cX7_goes 29 = .ok (.goto 4, 3) := by decide +kernel
theorem dX7_goes_32 : decode cX7_goes 32 = .ok (.iconst 0, 1) := by decide +kernel
theorem dX7_goes_33 : decode cX7_goes 33 = .ok (.ireturn, 1) := by decide +kernel
theorem dX7_bits_0 : decode cX7_bits 0 = .ok (.iconst 0, 1) := by decide +kernel
theorem dX7_bits_1 : decode cX7_bits 1 = .ok (.istore_n 1, 1) := by decide +kernel
theorem dX7_bits_2 : decode cX7_bits 2 = .ok (.iconst 0, 1) := by decide +kernel
theorem dX7_bits_3 : decode cX7_bits 3 = .ok (.istore_n 2, 1) := by decide +kernel
theorem dX7_bits_4 : decode cX7_bits 4 = .ok (.iload_n 2, 1) := by decide +kernel
theorem dX7_bits_5 : decode cX7_bits 5 = .ok (.bipush 14, 2) := by decide +kernel
theorem dX7_bits_7 : decode cX7_bits 7 = .ok (.if_icmp .ge 17, 3) := by decide +kernel
theorem dX7_bits_10 : decode cX7_bits 10 = .ok (.iload_n 1, 1) := by decide +kernel
theorem dX7_bits_11 : decode cX7_bits 11 = .ok (.iload_n 0, 1) := by decide +kernel
theorem dX7_bits_12 : decode cX7_bits 12 = .ok (.iload_n 2, 1) := by decide +kernel
theorem dX7_bits_13 : decode cX7_bits 13 = .ok (.ishr, 1) := by decide +kernel
theorem dX7_bits_14 : decode cX7_bits 14 = .ok (.iconst 1, 1) := by decide +kernel
theorem dX7_bits_15 : decode cX7_bits 15 = .ok (.iand, 1) := by decide +kernel
theorem dX7_bits_16 : decode cX7_bits 16 = .ok (.iadd, 1) := by decide +kernel
theorem dX7_bits_17 : decode cX7_bits 17 = .ok (.istore_n 1, 1) := by decide +kernel
theorem dX7_bits_18 : decode cX7_bits 18 = .ok (.iinc 2 1, 3) := by decide +kernel
theorem dX7_bits_21 : decode cX7_bits 21 = .ok (.goto (-17), 3) := by decide +kernel
theorem dX7_bits_24 : decode cX7_bits 24 = .ok (.iload_n 1, 1) := by decide +kernel
theorem dX7_bits_25 : decode cX7_bits 25 = .ok (.ireturn, 1) := by decide +kernel
theorem dX7_lowest_0 : decode cX7_lowest 0 = .ok (.iconst (-1), 1) := by decide +kernel
theorem dX7_lowest_1 : decode cX7_lowest 1 = .ok (.istore_n 1, 1) := by decide +kernel
theorem dX7_lowest_2 : decode cX7_lowest 2 = .ok (.bipush 13, 2) := by decide +kernel
theorem dX7_lowest_4 : decode cX7_lowest 4 = .ok (.istore_n 2, 1) := by decide +kernel
theorem dX7_lowest_5 : decode cX7_lowest 5 = .ok (.iload_n 2, 1) := by decide +kernel
theorem dX7_lowest_6 : decode cX7_lowest 6 = .ok (.ifCond .lt 24, 3) := by decide +kernel
theorem dX7_lowest_9 : decode cX7_lowest 9 = .ok (.iload_n 0, 1) := by decide +kernel
theorem dX7_lowest_10 : decode cX7_lowest 10 = .ok (.iload_n 2, 1) := by decide +kernel
theorem dX7_lowest_11 : decode cX7_lowest 11 = .ok (.ishr, 1) := by decide +kernel
theorem dX7_lowest_12 : decode cX7_lowest 12 = .ok (.iconst 1, 1) := by decide +kernel
theorem dX7_lowest_13 : decode cX7_lowest 13 = .ok (.iand, 1) := by decide +kernel
theorem dX7_lowest_14 : decode cX7_lowest 14 = .ok (.iconst 1, 1) := by decide +kernel
theorem dX7_lowest_15 : decode cX7_lowest 15 = .ok (.if_icmp .ne 7, 3) := by decide +kernel
theorem dX7_lowest_18 : decode cX7_lowest 18 = .ok (.iload_n 2, 1) := by decide +kernel
theorem dX7_lowest_19 : decode cX7_lowest 19 = .ok (.goto 4, 3) := by decide +kernel
theorem dX7_lowest_22 : decode cX7_lowest 22 = .ok (.iload_n 1, 1) := by decide +kernel
theorem dX7_lowest_23 : decode cX7_lowest 23 = .ok (.istore_n 1, 1) := by decide +kernel
theorem dX7_lowest_24 : decode cX7_lowest 24 = .ok (.iinc 2 (-1), 3) := by decide +kernel
theorem dX7_lowest_27 : decode cX7_lowest 27 = .ok (.goto (-22), 3) := by decide +kernel
theorem dX7_lowest_30 : decode cX7_lowest 30 = .ok (.iload_n 1, 1) := by decide +kernel
theorem dX7_lowest_31 : decode cX7_lowest 31 = .ok (.ireturn, 1) := by decide +kernel
theorem dX7_copies_0 : decode cX7_copies 0 = .ok (.iconst 0, 1) := by decide +kernel
theorem dX7_copies_1 : decode cX7_copies 1 = .ok (.istore_n 3, 1) := by decide +kernel
theorem dX7_copies_2 : decode cX7_copies 2 = .ok (.iload_n 3, 1) := by decide +kernel
theorem dX7_copies_3 : decode cX7_copies 3 = .ok (.bipush 18, 2) := by decide +kernel
theorem dX7_copies_5 : decode cX7_copies 5 = .ok (.if_icmp .ge 31, 3) := by decide +kernel
theorem dX7_copies_8 : decode cX7_copies 8 = .ok (.aload_n 0, 1) := by decide +kernel
theorem dX7_copies_9 : decode cX7_copies 9 = .ok (.getfield 7, 3) := by decide +kernel
theorem dX7_copies_12 : decode cX7_copies 12 = .ok (.bipush 18, 2) := by decide +kernel
theorem dX7_copies_14 : decode cX7_copies 14 = .ok (.iload_n 2, 1) := by decide +kernel
theorem dX7_copies_15 : decode cX7_copies 15 = .ok (.imul, 1) := by decide +kernel
theorem dX7_copies_16 : decode cX7_copies 16 = .ok (.iload_n 3, 1) := by decide +kernel
theorem dX7_copies_17 : decode cX7_copies 17 = .ok (.iadd, 1) := by decide +kernel
theorem dX7_copies_18 : decode cX7_copies 18 = .ok (.aload_n 0, 1) := by decide +kernel
theorem dX7_copies_19 : decode cX7_copies 19 = .ok (.getfield 7, 3) := by decide +kernel
theorem dX7_copies_22 : decode cX7_copies 22 = .ok (.bipush 18, 2) := by decide +kernel
theorem dX7_copies_24 : decode cX7_copies 24 = .ok (.iload_n 1, 1) := by decide +kernel
theorem dX7_copies_25 : decode cX7_copies 25 = .ok (.imul, 1) := by decide +kernel
theorem dX7_copies_26 : decode cX7_copies 26 = .ok (.iload_n 3, 1) := by decide +kernel
theorem dX7_copies_27 : decode cX7_copies 27 = .ok (.iadd, 1) := by decide +kernel
theorem dX7_copies_28 : decode cX7_copies 28 = .ok (.iaload, 1) := by decide +kernel
theorem dX7_copies_29 : decode cX7_copies 29 = .ok (.iastore, 1) := by decide +kernel
theorem dX7_copies_30 : decode cX7_copies 30 = .ok (.iinc 3 1, 3) := by decide +kernel
theorem dX7_copies_33 : decode cX7_copies 33 = .ok (.goto (-31), 3) := by decide +kernel
theorem dX7_copies_36 : decode cX7_copies 36 = .ok (.aload_n 0, 1) := by decide +kernel
theorem dX7_copies_37 : decode cX7_copies 37 = .ok (.iconst 0, 1) := by decide +kernel
theorem dX7_copies_38 : decode cX7_copies 38 = .ok (.putfield 47, 3) := by decide +kernel
theorem dX7_copies_41 : decode cX7_copies 41 = .ok (.return_, 1) := by decide +kernel
theorem dX7_saves_0 : decode cX7_saves 0 = .ok (.aload_n 0, 1) := by decide +kernel
theorem dX7_saves_1 : decode cX7_saves 1 = .ok (.getfield 47, 3) := by decide +kernel
theorem dX7_saves_4 : decode cX7_saves 4 = .ok (.istore_n 1, 1) := by decide +kernel
theorem dX7_saves_5 : decode cX7_saves 5 = .ok (.aload_n 0, 1) := by decide +kernel
theorem dX7_saves_6 : decode cX7_saves 6 = .ok (.getfield 51, 3) := by decide +kernel
theorem dX7_saves_9 : decode cX7_saves 9 = .ok (.bipush 6, 2) := by decide +kernel
theorem dX7_saves_11 : decode cX7_saves 11 = .ok (.if_icmp .ne 35, 3) := by decide +kernel
theorem dX7_saves_14 : decode cX7_saves 14 = .ok (.iconst 1, 1) := by decide +kernel
theorem dX7_saves_15 : decode cX7_saves 15 = .ok (.istore_n 2, 1) := by decide +kernel
theorem dX7_saves_16 : decode cX7_saves 16 = .ok (.iload_n 2, 1) := by decide +kernel
theorem dX7_saves_17 : decode cX7_saves 17 = .ok (.bipush 6, 2) := by decide +kernel
theorem dX7_saves_19 : decode cX7_saves 19 = .ok (.if_icmp .ge 17, 3) := by decide +kernel
theorem dX7_saves_22 : decode cX7_saves 22 = .ok (.aload_n 0, 1) := by decide +kernel
theorem dX7_saves_23 : decode cX7_saves 23 = .ok (.iload_n 2, 1) := by decide +kernel
theorem dX7_saves_24 : decode cX7_saves 24 = .ok (.iconst 1, 1) := by decide +kernel
theorem dX7_saves_25 : decode cX7_saves 25 = .ok (.iadd, 1) := by decide +kernel
theorem dX7_saves_26 : decode cX7_saves 26 = .ok (.iload_n 2, 1) := by decide +kernel
theorem dX7_saves_27 : decode cX7_saves 27 = .ok (.invokevirtual 54, 3) := by decide +kernel
theorem dX7_saves_30 : decode cX7_saves 30 = .ok (.iinc 2 1, 3) := by decide +kernel
theorem dX7_saves_33 : decode cX7_saves 33 = .ok (.goto (-17), 3) := by decide +kernel
theorem dX7_saves_36 : decode cX7_saves 36 = .ok (.aload_n 0, 1) := by decide +kernel
theorem dX7_saves_37 : decode cX7_saves 37 = .ok (.dup, 1) := by decide +kernel
theorem dX7_saves_38 : decode cX7_saves 38 = .ok (.getfield 51, 3) := by decide +kernel
theorem dX7_saves_41 : decode cX7_saves 41 = .ok (.iconst 1, 1) := by decide +kernel
theorem dX7_saves_42 : decode cX7_saves 42 = .ok (.isub, 1) := by decide +kernel
theorem dX7_saves_43 : decode cX7_saves 43 = .ok (.putfield 51, 3) := by decide +kernel
theorem dX7_saves_46 : decode cX7_saves 46 = .ok (.aload_n 0, 1) := by decide +kernel
theorem dX7_saves_47 : decode cX7_saves 47 = .ok (.dup, 1) := by decide +kernel
theorem dX7_saves_48 : decode cX7_saves 48 = .ok (.getfield 51, 3) := by decide +kernel
theorem dX7_saves_51 : decode cX7_saves 51 = .ok (.iconst 1, 1) := by decide +kernel
theorem dX7_saves_52 : decode cX7_saves 52 = .ok (.iadd, 1) := by decide +kernel
theorem dX7_saves_53 : decode cX7_saves 53 = .ok (.putfield 51, 3) := by decide +kernel
theorem dX7_saves_56 : decode cX7_saves 56 = .ok (.aload_n 0, 1) := by decide +kernel
theorem dX7_saves_57 : decode cX7_saves 57 = .ok (.iconst 0, 1) := by decide +kernel
theorem dX7_saves_58 : decode cX7_saves 58 = .ok (.aload_n 0, 1) := by decide +kernel
theorem dX7_saves_59 : decode cX7_saves 59 = .ok (.getfield 51, 3) := by decide +kernel
theorem dX7_saves_62 : decode cX7_saves 62 = .ok (.invokevirtual 54, 3) := by decide +kernel
theorem dX7_saves_65 : decode cX7_saves 65 = .ok (.aload_n 0, 1) := by decide +kernel
theorem dX7_saves_66 : decode cX7_saves 66 = .ok (.iload_n 1, 1) := by decide +kernel
theorem dX7_saves_67 : decode cX7_saves 67 = .ok (.putfield 47, 3) := by decide +kernel
theorem dX7_saves_70 : decode cX7_saves 70 = .ok (.return_, 1) := by decide +kernel
theorem dX7_isNode_0 : decode cX7_isNode 0 = .ok (.iload_n 1, 1) := by decide +kernel
theorem dX7_isNode_1 : decode cX7_isNode 1 = .ok (.iconst 0, 1) := by decide +kernel
theorem dX7_isNode_2 : decode cX7_isNode 2 = .ok (.aload_n 0, 1) := by decide +kernel
theorem dX7_isNode_3 : decode cX7_isNode 3 = .ok (.getfield 7, 3) := by decide +kernel
theorem dX7_isNode_6 : decode cX7_isNode 6 = .ok (.iconst 0, 1) := by decide +kernel
theorem dX7_isNode_7 : decode cX7_isNode 7 = .ok (.iaload, 1) := by decide +kernel
theorem dX7_isNode_8 : decode cX7_isNode 8 = .ok (.iconst 1, 1) := by decide +kernel
theorem dX7_isNode_9 : decode cX7_isNode 9 = .ok (.isub, 1) := by decide +kernel
theorem dX7_isNode_10 : decode cX7_isNode 10 = .ok (.invokestatic 58, 3) := by decide +kernel
theorem dX7_isNode_13 : decode cX7_isNode 13 = .ok (.ireturn, 1) := by decide +kernel
theorem dX7_isThere_0 : decode cX7_isThere 0 = .ok (.aload_n 0, 1) := by decide +kernel
theorem dX7_isThere_1 : decode cX7_isThere 1 = .ok (.getfield 7, 3) := by decide +kernel
theorem dX7_isThere_4 : decode cX7_isThere 4 = .ok (.iconst 1, 1) := by decide +kernel
theorem dX7_isThere_5 : decode cX7_isThere 5 = .ok (.iaload, 1) := by decide +kernel
theorem dX7_isThere_6 : decode cX7_isThere 6 = .ok (.iload_n 1, 1) := by decide +kernel
theorem dX7_isThere_7 : decode cX7_isThere 7 = .ok (.ishr, 1) := by decide +kernel
theorem dX7_isThere_8 : decode cX7_isThere 8 = .ok (.iconst 1, 1) := by decide +kernel
theorem dX7_isThere_9 : decode cX7_isThere 9 = .ok (.iand, 1) := by decide +kernel
theorem dX7_isThere_10 : decode cX7_isThere 10 = .ok (.iconst 1, 1) := by decide +kernel
theorem dX7_isThere_11 : decode cX7_isThere 11 = .ok (.if_icmp .ne 7, 3) := by decide +kernel
theorem dX7_isThere_14 : decode cX7_isThere 14 = .ok (.iconst 1, 1) := by decide +kernel
theorem dX7_isThere_15 : decode cX7_isThere 15 = .ok (.goto 4, 3) := by decide +kernel
theorem dX7_isThere_18 : decode cX7_isThere 18 = .ok (.iconst 0, 1) := by decide +kernel
theorem dX7_isThere_19 : decode cX7_isThere 19 = .ok (.ireturn, 1) := by decide +kernel
theorem dX7_links_0 : decode cX7_links 0 = .ok (.aload_n 0, 1) := by decide +kernel
theorem dX7_links_1 : decode cX7_links 1 = .ok (.getfield 7, 3) := by decide +kernel
theorem dX7_links_4 : decode cX7_links 4 = .ok (.iconst 4, 1) := by decide +kernel
theorem dX7_links_5 : decode cX7_links 5 = .ok (.iload_n 1, 1) := by decide +kernel
theorem dX7_links_6 : decode cX7_links 6 = .ok (.iadd, 1) := by decide +kernel
theorem dX7_links_7 : decode cX7_links 7 = .ok (.iload_n 3, 1) := by decide +kernel
theorem dX7_links_8 : decode cX7_links 8 = .ok (.ifCond .eq 18, 3) := by decide +kernel
theorem dX7_links_11 : decode cX7_links 11 = .ok (.aload_n 0, 1) := by decide +kernel
theorem dX7_links_12 : decode cX7_links 12 = .ok (.getfield 7, 3) := by decide +kernel
theorem dX7_links_15 : decode cX7_links 15 = .ok (.iconst 4, 1) := by decide +kernel
theorem dX7_links_16 : decode cX7_links 16 = .ok (.iload_n 1, 1) := by decide +kernel
theorem dX7_links_17 : decode cX7_links 17 = .ok (.iadd, 1) := by decide +kernel
theorem dX7_links_18 : decode cX7_links 18 = .ok (.iaload, 1) := by decide +kernel
theorem dX7_links_19 : decode cX7_links 19 = .ok (.iconst 1, 1) := by decide +kernel
theorem dX7_links_20 : decode cX7_links 20 = .ok (.iload_n 2, 1) := by decide +kernel
theorem dX7_links_21 : decode cX7_links 21 = .ok (.ishl, 1) := by decide +kernel
theorem dX7_links_22 : decode cX7_links 22 = .ok (.ior, 1) := by decide +kernel
theorem dX7_links_23 : decode cX7_links 23 = .ok (.goto 17, 3) := by decide +kernel
theorem dX7_links_26 : decode cX7_links 26 = .ok (.aload_n 0, 1) := by decide +kernel
theorem dX7_links_27 : decode cX7_links 27 = .ok (.getfield 7, 3) := by decide +kernel
theorem dX7_links_30 : decode cX7_links 30 = .ok (.iconst 4, 1) := by decide +kernel
theorem dX7_links_31 : decode cX7_links 31 = .ok (.iload_n 1, 1) := by decide +kernel
theorem dX7_links_32 : decode cX7_links 32 = .ok (.iadd, 1) := by decide +kernel
theorem dX7_links_33 : decode cX7_links 33 = .ok (.iaload, 1) := by decide +kernel
theorem dX7_links_34 : decode cX7_links 34 = .ok (.iconst 1, 1) := by decide +kernel
theorem dX7_links_35 : decode cX7_links 35 = .ok (.iload_n 2, 1) := by decide +kernel
theorem dX7_links_36 : decode cX7_links 36 = .ok (.ishl, 1) := by decide +kernel
theorem dX7_links_37 : decode cX7_links 37 = .ok (.iconst (-1), 1) := by decide +kernel
theorem dX7_links_38 : decode cX7_links 38 = .ok (.ixor, 1) := by decide +kernel
theorem dX7_links_39 : decode cX7_links 39 = .ok (.iand, 1) := by decide +kernel
theorem dX7_links_40 : decode cX7_links 40 = .ok (.iastore, 1) := by decide +kernel
theorem dX7_links_41 : decode cX7_links 41 = .ok (.aload_n 0, 1) := by decide +kernel
theorem dX7_links_42 : decode cX7_links 42 = .ok (.getfield 7, 3) := by decide +kernel
theorem dX7_links_45 : decode cX7_links 45 = .ok (.iconst 4, 1) := by decide +kernel
theorem dX7_links_46 : decode cX7_links 46 = .ok (.iload_n 2, 1) := by decide +kernel
theorem dX7_links_47 : decode cX7_links 47 = .ok (.iadd, 1) := by decide +kernel
theorem dX7_links_48 : decode cX7_links 48 = .ok (.iload_n 3, 1) := by decide +kernel
theorem dX7_links_49 : decode cX7_links 49 = .ok (.ifCond .eq 18, 3) := by decide +kernel
theorem dX7_links_52 : decode cX7_links 52 = .ok (.aload_n 0, 1) := by decide +kernel
theorem dX7_links_53 : decode cX7_links 53 = .ok (.getfield 7, 3) := by decide +kernel
theorem dX7_links_56 : decode cX7_links 56 = .ok (.iconst 4, 1) := by decide +kernel
theorem dX7_links_57 : decode cX7_links 57 = .ok (.iload_n 2, 1) := by decide +kernel
theorem dX7_links_58 : decode cX7_links 58 = .ok (.iadd, 1) := by decide +kernel
theorem dX7_links_59 : decode cX7_links 59 = .ok (.iaload, 1) := by decide +kernel
theorem dX7_links_60 : decode cX7_links 60 = .ok (.iconst 1, 1) := by decide +kernel
theorem dX7_links_61 : decode cX7_links 61 = .ok (.iload_n 1, 1) := by decide +kernel
theorem dX7_links_62 : decode cX7_links 62 = .ok (.ishl, 1) := by decide +kernel
theorem dX7_links_63 : decode cX7_links 63 = .ok (.ior, 1) := by decide +kernel
theorem dX7_links_64 : decode cX7_links 64 = .ok (.goto 17, 3) := by decide +kernel
theorem dX7_links_67 : decode cX7_links 67 = .ok (.aload_n 0, 1) := by decide +kernel
theorem dX7_links_68 : decode cX7_links 68 = .ok (.getfield 7, 3) := by decide +kernel
theorem dX7_links_71 : decode cX7_links 71 = .ok (.iconst 4, 1) := by decide +kernel
theorem dX7_links_72 : decode cX7_links 72 = .ok (.iload_n 2, 1) := by decide +kernel
theorem dX7_links_73 : decode cX7_links 73 = .ok (.iadd, 1) := by decide +kernel
theorem dX7_links_74 : decode cX7_links 74 = .ok (.iaload, 1) := by decide +kernel
theorem dX7_links_75 : decode cX7_links 75 = .ok (.iconst 1, 1) := by decide +kernel
theorem dX7_links_76 : decode cX7_links 76 = .ok (.iload_n 1, 1) := by decide +kernel
theorem dX7_links_77 : decode cX7_links 77 = .ok (.ishl, 1) := by decide +kernel
theorem dX7_links_78 : decode cX7_links 78 = .ok (.iconst (-1), 1) := by decide +kernel
theorem dX7_links_79 : decode cX7_links 79 = .ok (.ixor, 1) := by decide +kernel
theorem dX7_links_80 : decode cX7_links 80 = .ok (.iand, 1) := by decide +kernel
theorem dX7_links_81 : decode cX7_links 81 = .ok (.iastore, 1) := by decide +kernel
theorem dX7_links_82 : decode cX7_links 82 = .ok (.aload_n 0, 1) := by decide +kernel
theorem dX7_links_83 : decode cX7_links 83 = .ok (.iconst 0, 1) := by decide +kernel
theorem dX7_links_84 : decode cX7_links 84 = .ok (.putfield 47, 3) := by decide +kernel
theorem dX7_links_87 : decode cX7_links 87 = .ok (.return_, 1) := by decide +kernel
theorem dX7_left_0 : decode cX7_left 0 = .ok (.iload_n 1, 1) := by decide +kernel
theorem dX7_left_1 : decode cX7_left 1 = .ok (.iconst 1, 1) := by decide +kernel
theorem dX7_left_2 : decode cX7_left 2 = .ok (.iload_n 2, 1) := by decide +kernel
theorem dX7_left_3 : decode cX7_left 3 = .ok (.ishl, 1) := by decide +kernel
theorem dX7_left_4 : decode cX7_left 4 = .ok (.aload_n 0, 1) := by decide +kernel
theorem dX7_left_5 : decode cX7_left 5 = .ok (.getfield 24, 3) := by decide +kernel
theorem dX7_left_8 : decode cX7_left 8 = .ok (.iload_n 2, 1) := by decide +kernel
theorem dX7_left_9 : decode cX7_left 9 = .ok (.iaload, 1) := by decide +kernel
theorem dX7_left_10 : decode cX7_left 10 = .ok (.ior, 1) := by decide +kernel
theorem dX7_left_11 : decode cX7_left 11 = .ok (.iconst (-1), 1) := by decide +kernel
theorem dX7_left_12 : decode cX7_left 12 = .ok (.ixor, 1) := by decide +kernel
theorem dX7_left_13 : decode cX7_left 13 = .ok (.iand, 1) := by decide +kernel
theorem dX7_left_14 : decode cX7_left 14 = .ok (.ireturn, 1) := by decide +kernel
theorem dX7_entry_0 : decode cX7_entry 0 = .ok (.iload_n 1, 1) := by decide +kernel
theorem dX7_entry_1 : decode cX7_entry 1 = .ok (.ifCond .ne 7, 3) := by decide +kernel
theorem dX7_entry_4 : decode cX7_entry 4 = .ok (.sipush 4096, 3) := by decide +kernel
theorem dX7_entry_7 : decode cX7_entry 7 = .ok (.ireturn, 1) := by decide +kernel
theorem dX7_entry_8 : decode cX7_entry 8 = .ok (.iconst 0, 1) := by decide +kernel
theorem dX7_entry_9 : decode cX7_entry 9 = .ok (.istore_n 2, 1) := by decide +kernel
theorem dX7_entry_10 : decode cX7_entry 10 = .ok (.bipush 15, 2) := by decide +kernel
theorem dX7_entry_12 : decode cX7_entry 12 = .ok (.istore_n 3, 1) := by decide +kernel
theorem dX7_entry_13 : decode cX7_entry 13 = .ok (.iconst 0, 1) := by decide +kernel
theorem dX7_entry_14 : decode cX7_entry 14 = .ok (.istore 4, 2) := by decide +kernel
theorem dX7_entry_16 : decode cX7_entry 16 = .ok (.iconst 0, 1) := by decide +kernel
theorem dX7_entry_17 : decode cX7_entry 17 = .ok (.istore 5, 2) := by decide +kernel
theorem dX7_entry_19 : decode cX7_entry 19 = .ok (.iconst 0, 1) := by decide +kernel
theorem dX7_entry_20 : decode cX7_entry 20 = .ok (.istore 6, 2) := by decide +kernel
theorem dX7_entry_22 : decode cX7_entry 22 = .ok (.iload 6, 2) := by decide +kernel
theorem dX7_entry_24 : decode cX7_entry 24 = .ok (.aload_n 0, 1) := by decide +kernel
theorem dX7_entry_25 : decode cX7_entry 25 = .ok (.getfield 7, 3) := by decide +kernel
theorem dX7_entry_28 : decode cX7_entry 28 = .ok (.iconst 0, 1) := by decide +kernel
theorem dX7_entry_29 : decode cX7_entry 29 = .ok (.iaload, 1) := by decide +kernel
theorem dX7_entry_30 : decode cX7_entry 30 = .ok (.if_icmp .ge 111, 3) := by decide +kernel
theorem dX7_entry_33 : decode cX7_entry 33 = .ok (.iload_n 1, 1) := by decide +kernel
theorem dX7_entry_34 : decode cX7_entry 34 = .ok (.iload 6, 2) := by decide +kernel
theorem dX7_entry_36 : decode cX7_entry 36 = .ok (.ishr, 1) := by decide +kernel
theorem dX7_entry_37 : decode cX7_entry 37 = .ok (.iconst 1, 1) := by decide +kernel
theorem dX7_entry_38 : decode cX7_entry 38 = .ok (.iand, 1) := by decide +kernel
theorem dX7_entry_39 : decode cX7_entry 39 = .ok (.iconst 1, 1) := by decide +kernel
theorem dX7_entry_40 : decode cX7_entry 40 = .ok (.if_icmp .ne 95, 3) := by decide +kernel
theorem dX7_entry_43 : decode cX7_entry 43 = .ok (.aload_n 0, 1) := by decide +kernel
theorem dX7_entry_44 : decode cX7_entry 44 = .ok (.getfield 21, 3) := by decide +kernel
theorem dX7_entry_47 : decode cX7_entry 47 = .ok (.aload_n 0, 1) := by decide +kernel
theorem dX7_entry_48 : decode cX7_entry 48 = .ok (.iload_n 1, 1) := by decide +kernel
theorem dX7_entry_49 : decode cX7_entry 49 = .ok (.iload 6, 2) := by decide +kernel
theorem dX7_entry_51 : decode cX7_entry 51 = .ok (.invokevirtual 62, 3) := by decide +kernel
theorem dX7_entry_54 : decode cX7_entry 54 = .ok (.iaload, 1) := by decide +kernel
theorem dX7_entry_55 : decode cX7_entry 55 = .ok (.istore 7, 2) := by decide +kernel
theorem dX7_entry_57 : decode cX7_entry 57 = .ok (.iload_n 2, 1) := by decide +kernel
theorem dX7_entry_58 : decode cX7_entry 58 = .ok (.iconst 1, 1) := by decide +kernel
theorem dX7_entry_59 : decode cX7_entry 59 = .ok (.iload 7, 2) := by decide +kernel
theorem dX7_entry_61 : decode cX7_entry 61 = .ok (.bipush 15, 2) := by decide +kernel
theorem dX7_entry_63 : decode cX7_entry 63 = .ok (.iand, 1) := by decide +kernel
theorem dX7_entry_64 : decode cX7_entry 64 = .ok (.ishl, 1) := by decide +kernel
theorem dX7_entry_65 : decode cX7_entry 65 = .ok (.ior, 1) := by decide +kernel
theorem dX7_entry_66 : decode cX7_entry 66 = .ok (.istore_n 2, 1) := by decide +kernel
theorem dX7_entry_67 : decode cX7_entry 67 = .ok (.iload 7, 2) := by decide +kernel
theorem dX7_entry_69 : decode cX7_entry 69 = .ok (.iconst 4, 1) := by decide +kernel
theorem dX7_entry_70 : decode cX7_entry 70 = .ok (.ishr, 1) := by decide +kernel
theorem dX7_entry_71 : decode cX7_entry 71 = .ok (.bipush 15, 2) := by decide +kernel
theorem dX7_entry_73 : decode cX7_entry 73 = .ok (.iand, 1) := by decide +kernel
theorem dX7_entry_74 : decode cX7_entry 74 = .ok (.istore 8, 2) := by decide +kernel
theorem dX7_entry_76 : decode cX7_entry 76 = .ok (.iload 7, 2) := by decide +kernel
theorem dX7_entry_78 : decode cX7_entry 78 = .ok (.bipush 8, 2) := by decide +kernel
theorem dX7_entry_80 : decode cX7_entry 80 = .ok (.ishr, 1) := by decide +kernel
theorem dX7_entry_81 : decode cX7_entry 81 = .ok (.bipush 15, 2) := by decide +kernel
theorem dX7_entry_83 : decode cX7_entry 83 = .ok (.iand, 1) := by decide +kernel
theorem dX7_entry_84 : decode cX7_entry 84 = .ok (.istore 9, 2) := by decide +kernel
theorem dX7_entry_86 : decode cX7_entry 86 = .ok (.iload 8, 2) := by decide +kernel
theorem dX7_entry_88 : decode cX7_entry 88 = .ok (.iload_n 3, 1) := by decide +kernel
theorem dX7_entry_89 : decode cX7_entry 89 = .ok (.if_icmp .ge 8, 3) := by decide +kernel
theorem dX7_entry_92 : decode cX7_entry 92 = .ok (.iload 8, 2) := by decide +kernel
theorem dX7_entry_94 : decode cX7_entry 94 = .ok (.goto 4, 3) := by decide +kernel
theorem dX7_entry_97 : decode cX7_entry 97 = .ok (.iload_n 3, 1) := by decide +kernel
theorem dX7_entry_98 : decode cX7_entry 98 = .ok (.istore_n 3, 1) := by decide +kernel
theorem dX7_entry_99 : decode cX7_entry 99 = .ok (.iload 9, 2) := by decide +kernel
theorem dX7_entry_101 : decode cX7_entry 101 = .ok (.iload 4, 2) := by decide +kernel
theorem dX7_entry_103 : decode cX7_entry 103 = .ok (.if_icmp .le 8, 3) := by decide +kernel
theorem dX7_entry_106 : decode cX7_entry 106 = .ok (.iload 9, 2) := by decide +kernel
theorem dX7_entry_108 : decode cX7_entry 108 = .ok (.goto 5, 3) := by decide +kernel
theorem dX7_entry_111 : decode cX7_entry 111 = .ok (.iload 4, 2) := by decide +kernel
theorem dX7_entry_113 : decode cX7_entry 113 = .ok (.istore 4, 2) := by decide +kernel
theorem dX7_entry_115 : decode cX7_entry 115 = .ok (.iload 5, 2) := by decide +kernel
theorem dX7_entry_117 : decode cX7_entry 117 = .ok (.ifCond .ne 11, 3) := by decide +kernel
theorem dX7_entry_120 : decode cX7_entry 120 = .ok (.iload 7, 2) := by decide +kernel
theorem dX7_entry_122 : decode cX7_entry 122 = .ok (.sipush 4096, 3) := by decide +kernel
theorem dX7_entry_125 : decode cX7_entry 125 = .ok (.if_icmp .ge 7, 3) := by decide +kernel
theorem dX7_entry_128 : decode cX7_entry 128 = .ok (.iconst 1, 1) := by decide +kernel
theorem dX7_entry_129 : decode cX7_entry 129 = .ok (.goto 4, 3) := by decide +kernel
theorem dX7_entry_132 : decode cX7_entry 132 = .ok (.iconst 0, 1) := by decide +kernel
theorem dX7_entry_133 : decode cX7_entry 133 = .ok (.istore 5, 2) := by decide +kernel
theorem dX7_entry_135 : decode cX7_entry 135 = .ok (.iinc 6 1, 3) := by decide +kernel
theorem dX7_entry_138 : decode cX7_entry 138 = .ok (.goto (-116), 3) := by decide +kernel
theorem dX7_entry_141 : decode cX7_entry 141 = .ok (.iconst 0, 1) := by decide +kernel
theorem dX7_entry_142 : decode cX7_entry 142 = .ok (.istore 6, 2) := by decide +kernel
theorem dX7_entry_144 : decode cX7_entry 144 = .ok (.iload_n 2, 1) := by decide +kernel
theorem dX7_entry_145 : decode cX7_entry 145 = .ok (.iload 6, 2) := by decide +kernel
theorem dX7_entry_147 : decode cX7_entry 147 = .ok (.ishr, 1) := by decide +kernel
theorem dX7_entry_148 : decode cX7_entry 148 = .ok (.iconst 1, 1) := by decide +kernel
theorem dX7_entry_149 : decode cX7_entry 149 = .ok (.iand, 1) := by decide +kernel
theorem dX7_entry_150 : decode cX7_entry 150 = .ok (.iconst 1, 1) := by decide +kernel
theorem dX7_entry_151 : decode cX7_entry 151 = .ok (.if_icmp .ne 9, 3) := by decide +kernel
theorem dX7_entry_154 : decode cX7_entry 154 = .ok (.iinc 6 1, 3) := by decide +kernel
theorem dX7_entry_157 : decode cX7_entry 157 = .ok (.goto (-13), 3) := by decide +kernel
theorem dX7_entry_160 : decode cX7_entry 160 = .ok (.iload 6, 2) := by decide +kernel
theorem dX7_entry_162 : decode cX7_entry 162 = .ok (.bipush 16, 2) := by decide +kernel
theorem dX7_entry_164 : decode cX7_entry 164 = .ok (.iload_n 3, 1) := by decide +kernel
theorem dX7_entry_165 : decode cX7_entry 165 = .ok (.iconst 1, 1) := by decide +kernel
theorem dX7_entry_166 : decode cX7_entry 166 = .ok (.iadd, 1) := by decide +kernel
theorem dX7_entry_167 : decode cX7_entry 167 = .ok (.imul, 1) := by decide +kernel
theorem dX7_entry_168 : decode cX7_entry 168 = .ok (.iadd, 1) := by decide +kernel
theorem dX7_entry_169 : decode cX7_entry 169 = .ok (.sipush 256, 3) := by decide +kernel
theorem dX7_entry_172 : decode cX7_entry 172 = .ok (.iload 4, 2) := by decide +kernel
theorem dX7_entry_174 : decode cX7_entry 174 = .ok (.iconst 1, 1) := by decide +kernel
theorem dX7_entry_175 : decode cX7_entry 175 = .ok (.iadd, 1) := by decide +kernel
theorem dX7_entry_176 : decode cX7_entry 176 = .ok (.imul, 1) := by decide +kernel
theorem dX7_entry_177 : decode cX7_entry 177 = .ok (.iadd, 1) := by decide +kernel
theorem dX7_entry_178 : decode cX7_entry 178 = .ok (.iload 5, 2) := by decide +kernel
theorem dX7_entry_180 : decode cX7_entry 180 = .ok (.ifCond .eq 9, 3) := by decide +kernel
theorem dX7_entry_183 : decode cX7_entry 183 = .ok (.sipush 4096, 3) := by decide +kernel
theorem dX7_entry_186 : decode cX7_entry 186 = .ok (.goto 4, 3) := by decide +kernel
theorem dX7_entry_189 : decode cX7_entry 189 = .ok (.iconst 0, 1) := by decide +kernel
theorem dX7_entry_190 : decode cX7_entry 190 = .ok (.iadd, 1) := by decide +kernel
theorem dX7_entry_191 : decode cX7_entry 191 = .ok (.ireturn, 1) := by decide +kernel
theorem dX7_fills_0 : decode cX7_fills 0 = .ok (.iconst 0, 1) := by decide +kernel
theorem dX7_fills_1 : decode cX7_fills 1 = .ok (.istore_n 1, 1) := by decide +kernel
theorem dX7_fills_2 : decode cX7_fills 2 = .ok (.iload_n 1, 1) := by decide +kernel
theorem dX7_fills_3 : decode cX7_fills 3 = .ok (.iconst 1, 1) := by decide +kernel
theorem dX7_fills_4 : decode cX7_fills 4 = .ok (.aload_n 0, 1) := by decide +kernel
theorem dX7_fills_5 : decode cX7_fills 5 = .ok (.getfield 7, 3) := by decide +kernel
theorem dX7_fills_8 : decode cX7_fills 8 = .ok (.iconst 0, 1) := by decide +kernel
theorem dX7_fills_9 : decode cX7_fills 9 = .ok (.iaload, 1) := by decide +kernel
theorem dX7_fills_10 : decode cX7_fills 10 = .ok (.ishl, 1) := by decide +kernel
theorem dX7_fills_11 : decode cX7_fills 11 = .ok (.if_icmp .ge 20, 3) := by decide +kernel
theorem dX7_fills_14 : decode cX7_fills 14 = .ok (.aload_n 0, 1) := by decide +kernel
theorem dX7_fills_15 : decode cX7_fills 15 = .ok (.getfield 21, 3) := by decide +kernel
theorem dX7_fills_18 : decode cX7_fills 18 = .ok (.iload_n 1, 1) := by decide +kernel
theorem dX7_fills_19 : decode cX7_fills 19 = .ok (.aload_n 0, 1) := by decide +kernel
theorem dX7_fills_20 : decode cX7_fills 20 = .ok (.iload_n 1, 1) := by decide +kernel
theorem dX7_fills_21 : decode cX7_fills 21 = .ok (.invokevirtual 66, 3) := by decide +kernel
theorem dX7_fills_24 : decode cX7_fills 24 = .ok (.iastore, 1) := by decide +kernel
theorem dX7_fills_25 : decode cX7_fills 25 = .ok (.iinc 1 1, 3) := by decide +kernel
theorem dX7_fills_28 : decode cX7_fills 28 = .ok (.goto (-26), 3) := by decide +kernel
theorem dX7_fills_31 : decode cX7_fills 31 = .ok (.return_, 1) := by decide +kernel
theorem dX7_of_0 : decode cX7_of 0 = .ok (.aload_n 0, 1) := by decide +kernel
theorem dX7_of_1 : decode cX7_of 1 = .ok (.getfield 47, 3) := by decide +kernel
theorem dX7_of_4 : decode cX7_of 4 = .ok (.ifCond .ne 40, 3) := by decide +kernel
theorem dX7_of_7 : decode cX7_of 7 = .ok (.iconst 0, 1) := by decide +kernel
theorem dX7_of_8 : decode cX7_of 8 = .ok (.istore_n 2, 1) := by decide +kernel
theorem dX7_of_9 : decode cX7_of 9 = .ok (.iload_n 2, 1) := by decide +kernel
theorem dX7_of_10 : decode cX7_of 10 = .ok (.bipush 14, 2) := by decide +kernel
theorem dX7_of_12 : decode cX7_of 12 = .ok (.if_icmp .ge 23, 3) := by decide +kernel
theorem dX7_of_15 : decode cX7_of 15 = .ok (.aload_n 0, 1) := by decide +kernel
theorem dX7_of_16 : decode cX7_of 16 = .ok (.getfield 24, 3) := by decide +kernel
theorem dX7_of_19 : decode cX7_of 19 = .ok (.iload_n 2, 1) := by decide +kernel
theorem dX7_of_20 : decode cX7_of 20 = .ok (.aload_n 0, 1) := by decide +kernel
theorem dX7_of_21 : decode cX7_of 21 = .ok (.getfield 7, 3) := by decide +kernel
theorem dX7_of_24 : decode cX7_of 24 = .ok (.iconst 4, 1) := by decide +kernel
theorem dX7_of_25 : decode cX7_of 25 = .ok (.iload_n 2, 1) := by decide +kernel
theorem dX7_of_26 : decode cX7_of 26 = .ok (.iadd, 1) := by decide +kernel
theorem dX7_of_27 : decode cX7_of 27 = .ok (.iaload, 1) := by decide +kernel
theorem dX7_of_28 : decode cX7_of 28 = .ok (.iastore, 1) := by decide +kernel
theorem dX7_of_29 : decode cX7_of 29 = .ok (.iinc 2 1, 3) := by decide +kernel
theorem dX7_of_32 : decode cX7_of 32 = .ok (.goto (-23), 3) := by decide +kernel
theorem dX7_of_35 : decode cX7_of 35 = .ok (.aload_n 0, 1) := by decide +kernel
theorem dX7_of_36 : decode cX7_of 36 = .ok (.invokevirtual 70, 3) := by decide +kernel
theorem dX7_of_39 : decode cX7_of 39 = .ok (.aload_n 0, 1) := by decide +kernel
theorem dX7_of_40 : decode cX7_of 40 = .ok (.iconst 1, 1) := by decide +kernel
theorem dX7_of_41 : decode cX7_of 41 = .ok (.putfield 47, 3) := by decide +kernel
theorem dX7_of_44 : decode cX7_of 44 = .ok (.aload_n 0, 1) := by decide +kernel
theorem dX7_of_45 : decode cX7_of 45 = .ok (.getfield 21, 3) := by decide +kernel
theorem dX7_of_48 : decode cX7_of 48 = .ok (.iload_n 1, 1) := by decide +kernel
theorem dX7_of_49 : decode cX7_of 49 = .ok (.iaload, 1) := by decide +kernel
theorem dX7_of_50 : decode cX7_of 50 = .ok (.ireturn, 1) := by decide +kernel
theorem dX7_valueOf_0 : decode cX7_valueOf 0 = .ok (.aload_n 0, 1) := by decide +kernel
theorem dX7_valueOf_1 : decode cX7_valueOf 1 = .ok (.iload_n 1, 1) := by decide +kernel
theorem dX7_valueOf_2 : decode cX7_valueOf 2 = .ok (.invokevirtual 73, 3) := by decide +kernel
theorem dX7_valueOf_5 : decode cX7_valueOf 5 = .ok (.bipush 15, 2) := by decide +kernel
theorem dX7_valueOf_7 : decode cX7_valueOf 7 = .ok (.iand, 1) := by decide +kernel
theorem dX7_valueOf_8 : decode cX7_valueOf 8 = .ok (.ireturn, 1) := by decide +kernel
theorem dX7_reached_0 : decode cX7_reached 0 = .ok (.iconst 1, 1) := by decide +kernel
theorem dX7_reached_1 : decode cX7_reached 1 = .ok (.iload_n 1, 1) := by decide +kernel
theorem dX7_reached_2 : decode cX7_reached 2 = .ok (.ishl, 1) := by decide +kernel
theorem dX7_reached_3 : decode cX7_reached 3 = .ok (.istore_n 3, 1) := by decide +kernel
theorem dX7_reached_4 : decode cX7_reached 4 = .ok (.iconst 0, 1) := by decide +kernel
theorem dX7_reached_5 : decode cX7_reached 5 = .ok (.istore 4, 2) := by decide +kernel
theorem dX7_reached_7 : decode cX7_reached 7 = .ok (.iload_n 3, 1) := by decide +kernel
theorem dX7_reached_8 : decode cX7_reached 8 = .ok (.iload 4, 2) := by decide +kernel
theorem dX7_reached_10 : decode cX7_reached 10 = .ok (.if_icmp .eq 58, 3) := by decide +kernel
theorem dX7_reached_13 : decode cX7_reached 13 = .ok (.iload_n 3, 1) := by decide +kernel
theorem dX7_reached_14 : decode cX7_reached 14 = .ok (.istore 4, 2) := by decide +kernel
theorem dX7_reached_16 : decode cX7_reached 16 = .ok (.iconst 0, 1) := by decide +kernel
theorem dX7_reached_17 : decode cX7_reached 17 = .ok (.istore 5, 2) := by decide +kernel
theorem dX7_reached_19 : decode cX7_reached 19 = .ok (.iload 5, 2) := by decide +kernel
theorem dX7_reached_21 : decode cX7_reached 21 = .ok (.aload_n 0, 1) := by decide +kernel
theorem dX7_reached_22 : decode cX7_reached 22 = .ok (.getfield 7, 3) := by decide +kernel
theorem dX7_reached_25 : decode cX7_reached 25 = .ok (.iconst 0, 1) := by decide +kernel
theorem dX7_reached_26 : decode cX7_reached 26 = .ok (.iaload, 1) := by decide +kernel
theorem dX7_reached_27 : decode cX7_reached 27 = .ok (.if_icmp .ge 38, 3) := by decide +kernel
theorem dX7_reached_30 : decode cX7_reached 30 = .ok (.iload_n 3, 1) := by decide +kernel
theorem dX7_reached_31 : decode cX7_reached 31 = .ok (.iload 4, 2) := by decide +kernel
theorem dX7_reached_33 : decode cX7_reached 33 = .ok (.iload 5, 2) := by decide +kernel
theorem dX7_reached_35 : decode cX7_reached 35 = .ok (.ishr, 1) := by decide +kernel
theorem dX7_reached_36 : decode cX7_reached 36 = .ok (.iconst 1, 1) := by decide +kernel
theorem dX7_reached_37 : decode cX7_reached 37 = .ok (.iand, 1) := by decide +kernel
theorem dX7_reached_38 : decode cX7_reached 38 = .ok (.iconst 1, 1) := by decide +kernel
theorem dX7_reached_39 : decode cX7_reached 39 = .ok (.if_icmp .ne 17, 3) := by decide +kernel
theorem dX7_reached_42 : decode cX7_reached 42 = .ok (.aload_n 0, 1) := by decide +kernel
theorem dX7_reached_43 : decode cX7_reached 43 = .ok (.getfield 7, 3) := by decide +kernel
theorem dX7_reached_46 : decode cX7_reached 46 = .ok (.iconst 4, 1) := by decide +kernel
theorem dX7_reached_47 : decode cX7_reached 47 = .ok (.iload 5, 2) := by decide +kernel
theorem dX7_reached_49 : decode cX7_reached 49 = .ok (.iadd, 1) := by decide +kernel
theorem dX7_reached_50 : decode cX7_reached 50 = .ok (.iaload, 1) := by decide +kernel
theorem dX7_reached_51 : decode cX7_reached 51 = .ok (.iload_n 2, 1) := by decide +kernel
theorem dX7_reached_52 : decode cX7_reached 52 = .ok (.iand, 1) := by decide +kernel
theorem dX7_reached_53 : decode cX7_reached 53 = .ok (.goto 4, 3) := by decide +kernel
theorem dX7_reached_56 : decode cX7_reached 56 = .ok (.iconst 0, 1) := by decide +kernel
theorem dX7_reached_57 : decode cX7_reached 57 = .ok (.ior, 1) := by decide +kernel
theorem dX7_reached_58 : decode cX7_reached 58 = .ok (.istore_n 3, 1) := by decide +kernel
theorem dX7_reached_59 : decode cX7_reached 59 = .ok (.iinc 5 1, 3) := by decide +kernel
theorem dX7_reached_62 : decode cX7_reached 62 = .ok (.goto (-43), 3) := by decide +kernel
theorem dX7_reached_65 : decode cX7_reached 65 = .ok (.goto (-58), 3) := by decide +kernel
theorem dX7_reached_68 : decode cX7_reached 68 = .ok (.iload_n 3, 1) := by decide +kernel
theorem dX7_reached_69 : decode cX7_reached 69 = .ok (.ireturn, 1) := by decide +kernel
theorem dX7_finds_0 : decode cX7_finds 0 = .ok (.aload_n 0, 1) := by decide +kernel
theorem dX7_finds_1 : decode cX7_finds 1 = .ok (.iconst 0, 1) := by decide +kernel
theorem dX7_finds_2 : decode cX7_finds 2 = .ok (.putfield 76, 3) := by decide +kernel
theorem dX7_finds_5 : decode cX7_finds 5 = .ok (.aload_n 0, 1) := by decide +kernel
theorem dX7_finds_6 : decode cX7_finds 6 = .ok (.getfield 7, 3) := by decide +kernel
theorem dX7_finds_9 : decode cX7_finds 9 = .ok (.iconst 1, 1) := by decide +kernel
theorem dX7_finds_10 : decode cX7_finds 10 = .ok (.iaload, 1) := by decide +kernel
theorem dX7_finds_11 : decode cX7_finds 11 = .ok (.istore_n 1, 1) := by decide +kernel
theorem dX7_finds_12 : decode cX7_finds 12 = .ok (.iload_n 1, 1) := by decide +kernel
theorem dX7_finds_13 : decode cX7_finds 13 = .ok (.ifCond .eq 53, 3) := by decide +kernel
theorem dX7_finds_16 : decode cX7_finds 16 = .ok (.aload_n 0, 1) := by decide +kernel
theorem dX7_finds_17 : decode cX7_finds 17 = .ok (.getfield 27, 3) := by decide +kernel
theorem dX7_finds_20 : decode cX7_finds 20 = .ok (.aload_n 0, 1) := by decide +kernel
theorem dX7_finds_21 : decode cX7_finds 21 = .ok (.getfield 76, 3) := by decide +kernel
theorem dX7_finds_24 : decode cX7_finds 24 = .ok (.aload_n 0, 1) := by decide +kernel
theorem dX7_finds_25 : decode cX7_finds 25 = .ok (.iload_n 1, 1) := by decide +kernel
theorem dX7_finds_26 : decode cX7_finds 26 = .ok (.invokestatic 79, 3) := by decide +kernel
theorem dX7_finds_29 : decode cX7_finds 29 = .ok (.aload_n 0, 1) := by decide +kernel
theorem dX7_finds_30 : decode cX7_finds 30 = .ok (.getfield 7, 3) := by decide +kernel
theorem dX7_finds_33 : decode cX7_finds 33 = .ok (.iconst 1, 1) := by decide +kernel
theorem dX7_finds_34 : decode cX7_finds 34 = .ok (.iaload, 1) := by decide +kernel
theorem dX7_finds_35 : decode cX7_finds 35 = .ok (.invokevirtual 82, 3) := by decide +kernel
theorem dX7_finds_38 : decode cX7_finds 38 = .ok (.iastore, 1) := by decide +kernel
theorem dX7_finds_39 : decode cX7_finds 39 = .ok (.iload_n 1, 1) := by decide +kernel
theorem dX7_finds_40 : decode cX7_finds 40 = .ok (.aload_n 0, 1) := by decide +kernel
theorem dX7_finds_41 : decode cX7_finds 41 = .ok (.getfield 27, 3) := by decide +kernel
theorem dX7_finds_44 : decode cX7_finds 44 = .ok (.aload_n 0, 1) := by decide +kernel
theorem dX7_finds_45 : decode cX7_finds 45 = .ok (.getfield 76, 3) := by decide +kernel
theorem dX7_finds_48 : decode cX7_finds 48 = .ok (.iaload, 1) := by decide +kernel
theorem dX7_finds_49 : decode cX7_finds 49 = .ok (.iconst (-1), 1) := by decide +kernel
theorem dX7_finds_50 : decode cX7_finds 50 = .ok (.ixor, 1) := by decide +kernel
theorem dX7_finds_51 : decode cX7_finds 51 = .ok (.iand, 1) := by decide +kernel
theorem dX7_finds_52 : decode cX7_finds 52 = .ok (.istore_n 1, 1) := by decide +kernel
theorem dX7_finds_53 : decode cX7_finds 53 = .ok (.aload_n 0, 1) := by decide +kernel
theorem dX7_finds_54 : decode cX7_finds 54 = .ok (.dup, 1) := by decide +kernel
theorem dX7_finds_55 : decode cX7_finds 55 = .ok (.getfield 76, 3) := by decide +kernel
theorem dX7_finds_58 : decode cX7_finds 58 = .ok (.iconst 1, 1) := by decide +kernel
theorem dX7_finds_59 : decode cX7_finds 59 = .ok (.iadd, 1) := by decide +kernel
theorem dX7_finds_60 : decode cX7_finds 60 = .ok (.putfield 76, 3) := by decide +kernel
theorem dX7_finds_63 : decode cX7_finds 63 = .ok (.goto (-51), 3) := by decide +kernel
theorem dX7_finds_66 : decode cX7_finds 66 = .ok (.return_, 1) := by decide +kernel
theorem dX7_walks_0 : decode cX7_walks 0 = .ok (.aload_n 0, 1) := by decide +kernel
theorem dX7_walks_1 : decode cX7_walks 1 = .ok (.getfield 30, 3) := by decide +kernel
theorem dX7_walks_4 : decode cX7_walks 4 = .ok (.iconst 0, 1) := by decide +kernel
theorem dX7_walks_5 : decode cX7_walks 5 = .ok (.iload_n 1, 1) := by decide +kernel
theorem dX7_walks_6 : decode cX7_walks 6 = .ok (.iastore, 1) := by decide +kernel
theorem dX7_walks_7 : decode cX7_walks 7 = .ok (.aload_n 0, 1) := by decide +kernel
theorem dX7_walks_8 : decode cX7_walks 8 = .ok (.getfield 33, 3) := by decide +kernel
theorem dX7_walks_11 : decode cX7_walks 11 = .ok (.iload_n 1, 1) := by decide +kernel
theorem dX7_walks_12 : decode cX7_walks 12 = .ok (.iconst (-1), 1) := by decide +kernel
theorem dX7_walks_13 : decode cX7_walks 13 = .ok (.iastore, 1) := by decide +kernel
theorem dX7_walks_14 : decode cX7_walks 14 = .ok (.iconst 1, 1) := by decide +kernel
theorem dX7_walks_15 : decode cX7_walks 15 = .ok (.istore_n 3, 1) := by decide +kernel
theorem dX7_walks_16 : decode cX7_walks 16 = .ok (.iconst 0, 1) := by decide +kernel
theorem dX7_walks_17 : decode cX7_walks 17 = .ok (.istore 4, 2) := by decide +kernel
theorem dX7_walks_19 : decode cX7_walks 19 = .ok (.iload 4, 2) := by decide +kernel
theorem dX7_walks_21 : decode cX7_walks 21 = .ok (.iload_n 3, 1) := by decide +kernel
theorem dX7_walks_22 : decode cX7_walks 22 = .ok (.if_icmp .ge 89, 3) := by decide +kernel
theorem dX7_walks_25 : decode cX7_walks 25 = .ok (.aload_n 0, 1) := by decide +kernel
theorem dX7_walks_26 : decode cX7_walks 26 = .ok (.getfield 30, 3) := by decide +kernel
theorem dX7_walks_29 : decode cX7_walks 29 = .ok (.iload 4, 2) := by decide +kernel
theorem dX7_walks_31 : decode cX7_walks 31 = .ok (.iaload, 1) := by decide +kernel
theorem dX7_walks_32 : decode cX7_walks 32 = .ok (.istore 5, 2) := by decide +kernel
theorem dX7_walks_34 : decode cX7_walks 34 = .ok (.iconst 0, 1) := by decide +kernel
theorem dX7_walks_35 : decode cX7_walks 35 = .ok (.istore 6, 2) := by decide +kernel
theorem dX7_walks_37 : decode cX7_walks 37 = .ok (.iload 6, 2) := by decide +kernel
theorem dX7_walks_39 : decode cX7_walks 39 = .ok (.aload_n 0, 1) := by decide +kernel
theorem dX7_walks_40 : decode cX7_walks 40 = .ok (.getfield 7, 3) := by decide +kernel
theorem dX7_walks_43 : decode cX7_walks 43 = .ok (.iconst 0, 1) := by decide +kernel
theorem dX7_walks_44 : decode cX7_walks 44 = .ok (.iaload, 1) := by decide +kernel
theorem dX7_walks_45 : decode cX7_walks 45 = .ok (.if_icmp .ge 60, 3) := by decide +kernel
theorem dX7_walks_48 : decode cX7_walks 48 = .ok (.aload_n 0, 1) := by decide +kernel
theorem dX7_walks_49 : decode cX7_walks 49 = .ok (.getfield 7, 3) := by decide +kernel
theorem dX7_walks_52 : decode cX7_walks 52 = .ok (.iconst 4, 1) := by decide +kernel
theorem dX7_walks_53 : decode cX7_walks 53 = .ok (.iload 5, 2) := by decide +kernel
theorem dX7_walks_55 : decode cX7_walks 55 = .ok (.iadd, 1) := by decide +kernel
theorem dX7_walks_56 : decode cX7_walks 56 = .ok (.iaload, 1) := by decide +kernel
theorem dX7_walks_57 : decode cX7_walks 57 = .ok (.iload_n 2, 1) := by decide +kernel
theorem dX7_walks_58 : decode cX7_walks 58 = .ok (.iand, 1) := by decide +kernel
theorem dX7_walks_59 : decode cX7_walks 59 = .ok (.iconst 1, 1) := by decide +kernel
theorem dX7_walks_60 : decode cX7_walks 60 = .ok (.iload 6, 2) := by decide +kernel
theorem dX7_walks_62 : decode cX7_walks 62 = .ok (.ishl, 1) := by decide +kernel
theorem dX7_walks_63 : decode cX7_walks 63 = .ok (.iand, 1) := by decide +kernel
theorem dX7_walks_64 : decode cX7_walks 64 = .ok (.ifCond .eq 35, 3) := by decide +kernel
theorem dX7_walks_67 : decode cX7_walks 67 = .ok (.iload 6, 2) := by decide +kernel
theorem dX7_walks_69 : decode cX7_walks 69 = .ok (.aload_n 0, 1) := by decide +kernel
theorem dX7_walks_70 : decode cX7_walks 70 = .ok (.getfield 33, 3) := by decide +kernel
theorem dX7_walks_73 : decode cX7_walks 73 = .ok (.iload 5, 2) := by decide +kernel
theorem dX7_walks_75 : decode cX7_walks 75 = .ok (.iaload, 1) := by decide +kernel
theorem dX7_walks_76 : decode cX7_walks 76 = .ok (.if_icmp .eq 23, 3) := by decide +kernel
theorem dX7_walks_79 : decode cX7_walks 79 = .ok (.aload_n 0, 1) := by decide +kernel
theorem dX7_walks_80 : decode cX7_walks 80 = .ok (.getfield 30, 3) := by decide +kernel
theorem dX7_walks_83 : decode cX7_walks 83 = .ok (.iload_n 3, 1) := by decide +kernel
theorem dX7_walks_84 : decode cX7_walks 84 = .ok (.iload 6, 2) := by decide +kernel
theorem dX7_walks_86 : decode cX7_walks 86 = .ok (.iastore, 1) := by decide +kernel
theorem dX7_walks_87 : decode cX7_walks 87 = .ok (.aload_n 0, 1) := by decide +kernel
theorem dX7_walks_88 : decode cX7_walks 88 = .ok (.getfield 33, 3) := by decide +kernel
theorem dX7_walks_91 : decode cX7_walks 91 = .ok (.iload 6, 2) := by decide +kernel
theorem dX7_walks_93 : decode cX7_walks 93 = .ok (.iload 5, 2) := by decide +kernel
theorem dX7_walks_95 : decode cX7_walks 95 = .ok (.iastore, 1) := by decide +kernel
theorem dX7_walks_96 : decode cX7_walks 96 = .ok (.iinc 3 1, 3) := by decide +kernel
theorem dX7_walks_99 : decode cX7_walks 99 = .ok (.iinc 6 1, 3) := by decide +kernel
theorem dX7_walks_102 : decode cX7_walks 102 = .ok (.goto (-65), 3) := by decide +kernel
theorem dX7_walks_105 : decode cX7_walks 105 = .ok (.iinc 4 1, 3) := by decide +kernel
theorem dX7_walks_108 : decode cX7_walks 108 = .ok (.goto (-89), 3) := by decide +kernel
theorem dX7_walks_111 : decode cX7_walks 111 = .ok (.iload_n 3, 1) := by decide +kernel
theorem dX7_walks_112 : decode cX7_walks 112 = .ok (.ireturn, 1) := by decide +kernel
theorem dX7_codeFrom_0 : decode cX7_codeFrom 0 = .ok (.aload_n 0, 1) := by decide +kernel
theorem dX7_codeFrom_1 : decode cX7_codeFrom 1 = .ok (.iload_n 1, 1) := by decide +kernel
theorem dX7_codeFrom_2 : decode cX7_codeFrom 2 = .ok (.iload_n 2, 1) := by decide +kernel
theorem dX7_codeFrom_3 : decode cX7_codeFrom 3 = .ok (.invokevirtual 85, 3) := by decide +kernel
theorem dX7_codeFrom_6 : decode cX7_codeFrom 6 = .ok (.istore_n 3, 1) := by decide +kernel
theorem dX7_codeFrom_7 : decode cX7_codeFrom 7 = .ok (.iload_n 3, 1) := by decide +kernel
theorem dX7_codeFrom_8 : decode cX7_codeFrom 8 = .ok (.iconst 1, 1) := by decide +kernel
theorem dX7_codeFrom_9 : decode cX7_codeFrom 9 = .ok (.isub, 1) := by decide +kernel
theorem dX7_codeFrom_10 : decode cX7_codeFrom 10 = .ok (.istore 4, 2) := by decide +kernel
theorem dX7_codeFrom_12 : decode cX7_codeFrom 12 = .ok (.iload 4, 2) := by decide +kernel
theorem dX7_codeFrom_14 : decode cX7_codeFrom 14 = .ok (.ifCond .lt 198, 3) := by decide +kernel
theorem dX7_codeFrom_17 : decode cX7_codeFrom 17 = .ok (.aload_n 0, 1) := by decide +kernel
theorem dX7_codeFrom_18 : decode cX7_codeFrom 18 = .ok (.getfield 30, 3) := by decide +kernel
theorem dX7_codeFrom_21 : decode cX7_codeFrom 21 = .ok (.iload 4, 2) := by decide +kernel
theorem dX7_codeFrom_23 : decode cX7_codeFrom 23 = .ok (.iaload, 1) := by decide +kernel
theorem dX7_codeFrom_24 : decode cX7_codeFrom 24 = .ok (.istore 5, 2) := by decide +kernel
theorem dX7_codeFrom_26 : decode cX7_codeFrom 26 = .ok (.lconst 1, 1) := by decide +kernel
theorem dX7_codeFrom_27 : decode cX7_codeFrom 27 = .ok (.lstore 6, 2) := by decide +kernel
theorem dX7_codeFrom_29 : decode cX7_codeFrom 29 = .ok (.iconst 1, 1) := by decide +kernel
theorem dX7_codeFrom_30 : decode cX7_codeFrom 30 = .ok (.istore 8, 2) := by decide +kernel
theorem dX7_codeFrom_32 : decode cX7_codeFrom 32 = .ok (.iconst 0, 1) := by decide +kernel
theorem dX7_codeFrom_33 : decode cX7_codeFrom 33 = .ok (.istore 9, 2) := by decide +kernel
theorem dX7_codeFrom_35 : decode cX7_codeFrom 35 = .ok (.iload 9, 2) := by decide +kernel
theorem dX7_codeFrom_37 : decode cX7_codeFrom 37 = .ok (.ifCond .lt 149, 3) := by decide +kernel
theorem dX7_codeFrom_40 : decode cX7_codeFrom 40 = .ok (.iconst (-1), 1) := by decide +kernel
theorem dX7_codeFrom_41 : decode cX7_codeFrom 41 = .ok (.istore 9, 2) := by decide +kernel
theorem dX7_codeFrom_43 : decode cX7_codeFrom 43 = .ok (.iload 4, 2) := by decide +kernel
theorem dX7_codeFrom_45 : decode cX7_codeFrom 45 = .ok (.iconst 1, 1) := by decide +kernel
theorem dX7_codeFrom_46 : decode cX7_codeFrom 46 = .ok (.iadd, 1) := by decide +kernel
theorem dX7_codeFrom_47 : decode cX7_codeFrom 47 = .ok (.istore 10, 2) := by decide +kernel
theorem dX7_codeFrom_49 : decode cX7_codeFrom 49 = .ok (.iload 10, 2) := by decide +kernel
theorem dX7_codeFrom_51 : decode cX7_codeFrom 51 = .ok (.iload_n 3, 1) := by decide +kernel
theorem dX7_codeFrom_52 : decode cX7_codeFrom 52 = .ok (.if_icmp .ge 84, 3) := by decide +kernel
theorem dX7_codeFrom_55 : decode cX7_codeFrom 55 = .ok (.aload_n 0, 1) := by decide +kernel
theorem dX7_codeFrom_56 : decode cX7_codeFrom 56 = .ok (.getfield 30, 3) := by decide +kernel
theorem dX7_codeFrom_59 : decode cX7_codeFrom 59 = .ok (.iload 10, 2) := by decide +kernel
theorem dX7_codeFrom_61 : decode cX7_codeFrom 61 = .ok (.iaload, 1) := by decide +kernel
theorem dX7_codeFrom_62 : decode cX7_codeFrom 62 = .ok (.istore 11, 2) := by decide +kernel
theorem dX7_codeFrom_64 : decode cX7_codeFrom 64 = .ok (.aload_n 0, 1) := by decide +kernel
theorem dX7_codeFrom_65 : decode cX7_codeFrom 65 = .ok (.getfield 33, 3) := by decide +kernel
theorem dX7_codeFrom_68 : decode cX7_codeFrom 68 = .ok (.iload 11, 2) := by decide +kernel
theorem dX7_codeFrom_70 : decode cX7_codeFrom 70 = .ok (.iaload, 1) := by decide +kernel
theorem dX7_codeFrom_71 : decode cX7_codeFrom 71 = .ok (.iload 5, 2) := by decide +kernel
theorem dX7_codeFrom_73 : decode cX7_codeFrom 73 = .ok (.if_icmp .ne 17, 3) := by decide +kernel
theorem dX7_codeFrom_76 : decode cX7_codeFrom 76 = .ok (.aload_n 0, 1) := by decide +kernel
theorem dX7_codeFrom_77 : decode cX7_codeFrom 77 = .ok (.getfield 36, 3) := by decide +kernel
theorem dX7_codeFrom_80 : decode cX7_codeFrom 80 = .ok (.iload 11, 2) := by decide +kernel
theorem dX7_codeFrom_82 : decode cX7_codeFrom 82 = .ok (.iaload, 1) := by decide +kernel
theorem dX7_codeFrom_83 : decode cX7_codeFrom 83 = .ok (.ifCond .le 7, 3) := by decide +kernel
theorem dX7_codeFrom_86 : decode cX7_codeFrom 86 = .ok (.iconst 1, 1) := by decide +kernel
theorem dX7_codeFrom_87 : decode cX7_codeFrom 87 = .ok (.goto 4, 3) := by decide +kernel
theorem dX7_codeFrom_90 : decode cX7_codeFrom 90 = .ok (.iconst 0, 1) := by decide +kernel
theorem dX7_codeFrom_91 : decode cX7_codeFrom 91 = .ok (.istore 12, 2) := by decide +kernel
theorem dX7_codeFrom_93 : decode cX7_codeFrom 93 = .ok (.iload 12, 2) := by decide +kernel
theorem dX7_codeFrom_95 : decode cX7_codeFrom 95 = .ok (.ifCond .eq 31, 3) := by decide +kernel
theorem dX7_codeFrom_98 : decode cX7_codeFrom 98 = .ok (.iload 9, 2) := by decide +kernel
theorem dX7_codeFrom_100 : decode cX7_codeFrom 100 = .ok (.ifCond .lt 21, 3) := by decide +kernel
theorem dX7_codeFrom_103 : decode cX7_codeFrom 103 = .ok (.aload_n 0, 1) := by decide +kernel
theorem dX7_codeFrom_104 : decode cX7_codeFrom 104 = .ok (.getfield 39, 3) := by decide +kernel
theorem dX7_codeFrom_107 : decode cX7_codeFrom 107 = .ok (.iload 11, 2) := by decide +kernel
theorem dX7_codeFrom_109 : decode cX7_codeFrom 109 = .ok (.laload, 1) := by decide +kernel
theorem dX7_codeFrom_110 : decode cX7_codeFrom 110 = .ok (.aload_n 0, 1) := by decide +kernel
theorem dX7_codeFrom_111 : decode cX7_codeFrom 111 = .ok (.getfield 39, 3) := by decide +kernel
theorem dX7_codeFrom_114 : decode cX7_codeFrom 114 = .ok (.iload 9, 2) := by decide +kernel
theorem dX7_codeFrom_116 : decode cX7_codeFrom 116 = .ok (.laload, 1) := by decide +kernel
theorem dX7_codeFrom_117 : decode cX7_codeFrom 117 = .ok (.lcmp, 1) := by decide +kernel
theorem dX7_codeFrom_118 : decode cX7_codeFrom 118 = .ok (.ifCond .le 8, 3) := by decide +kernel
theorem dX7_codeFrom_121 : decode cX7_codeFrom 121 = .ok (.iload 11, 2) := by decide +kernel
theorem dX7_codeFrom_123 : decode cX7_codeFrom 123 = .ok (.goto 5, 3) := by decide +kernel
theorem dX7_codeFrom_126 : decode cX7_codeFrom 126 = .ok (.iload 9, 2) := by decide +kernel
theorem dX7_codeFrom_128 : decode cX7_codeFrom 128 = .ok (.istore 9, 2) := by decide +kernel
theorem dX7_codeFrom_130 : decode cX7_codeFrom 130 = .ok (.iinc 10 1, 3) := by decide +kernel
theorem dX7_codeFrom_133 : decode cX7_codeFrom 133 = .ok (.goto (-84), 3) := by decide +kernel
theorem dX7_codeFrom_136 : decode cX7_codeFrom 136 = .ok (.iload 9, 2) := by decide +kernel
theorem dX7_codeFrom_138 : decode cX7_codeFrom 138 = .ok (.ifCond .lt (-103), 3) := by decide +kernel
theorem dX7_codeFrom_141 : decode cX7_codeFrom 141 = .ok (.lload 6, 2) := by decide +kernel
theorem dX7_codeFrom_143 : decode cX7_codeFrom 143 = .ok (.iconst 2, 1) := by decide +kernel
theorem dX7_codeFrom_144 : decode cX7_codeFrom 144 = .ok (.aload_n 0, 1) := by decide +kernel
theorem dX7_codeFrom_145 : decode cX7_codeFrom 145 = .ok (.getfield 36, 3) := by decide +kernel
theorem dX7_codeFrom_148 : decode cX7_codeFrom 148 = .ok (.iload 9, 2) := by decide +kernel
theorem dX7_codeFrom_150 : decode cX7_codeFrom 150 = .ok (.iaload, 1) := by decide +kernel
theorem dX7_codeFrom_151 : decode cX7_codeFrom 151 = .ok (.imul, 1) := by decide +kernel
theorem dX7_codeFrom_152 : decode cX7_codeFrom 152 = .ok (.lshl, 1) := by decide +kernel
theorem dX7_codeFrom_153 : decode cX7_codeFrom 153 = .ok (.aload_n 0, 1) := by decide +kernel
theorem dX7_codeFrom_154 : decode cX7_codeFrom 154 = .ok (.getfield 39, 3) := by decide +kernel
theorem dX7_codeFrom_157 : decode cX7_codeFrom 157 = .ok (.iload 9, 2) := by decide +kernel
theorem dX7_codeFrom_159 : decode cX7_codeFrom 159 = .ok (.laload, 1) := by decide +kernel
theorem dX7_codeFrom_160 : decode cX7_codeFrom 160 = .ok (.lor, 1) := by decide +kernel
theorem dX7_codeFrom_161 : decode cX7_codeFrom 161 = .ok (.lstore 6, 2) := by decide +kernel
theorem dX7_codeFrom_163 : decode cX7_codeFrom 163 = .ok (.iload 8, 2) := by decide +kernel
theorem dX7_codeFrom_165 : decode cX7_codeFrom 165 = .ok (.aload_n 0, 1) := by decide +kernel
theorem dX7_codeFrom_166 : decode cX7_codeFrom 166 = .ok (.getfield 36, 3) := by decide +kernel
theorem dX7_codeFrom_169 : decode cX7_codeFrom 169 = .ok (.iload 9, 2) := by decide +kernel
theorem dX7_codeFrom_171 : decode cX7_codeFrom 171 = .ok (.iaload, 1) := by decide +kernel
theorem dX7_codeFrom_172 : decode cX7_codeFrom 172 = .ok (.iadd, 1) := by decide +kernel
theorem dX7_codeFrom_173 : decode cX7_codeFrom 173 = .ok (.istore 8, 2) := by decide +kernel
theorem dX7_codeFrom_175 : decode cX7_codeFrom 175 = .ok (.aload_n 0, 1) := by decide +kernel
theorem dX7_codeFrom_176 : decode cX7_codeFrom 176 = .ok (.getfield 36, 3) := by decide +kernel
theorem dX7_codeFrom_179 : decode cX7_codeFrom 179 = .ok (.iload 9, 2) := by decide +kernel
theorem dX7_codeFrom_181 : decode cX7_codeFrom 181 = .ok (.iconst (-1), 1) := by decide +kernel
theorem dX7_codeFrom_182 : decode cX7_codeFrom 182 = .ok (.iastore, 1) := by decide +kernel
theorem dX7_codeFrom_183 : decode cX7_codeFrom 183 = .ok (.goto (-148), 3) := by decide +kernel
theorem dX7_codeFrom_186 : decode cX7_codeFrom 186 = .ok (.aload_n 0, 1) := by decide +kernel
theorem dX7_codeFrom_187 : decode cX7_codeFrom 187 = .ok (.getfield 39, 3) := by decide +kernel
theorem dX7_codeFrom_190 : decode cX7_codeFrom 190 = .ok (.iload 5, 2) := by decide +kernel
theorem dX7_codeFrom_192 : decode cX7_codeFrom 192 = .ok (.lload 6, 2) := by decide +kernel
theorem dX7_codeFrom_194 : decode cX7_codeFrom 194 = .ok (.iconst 1, 1) := by decide +kernel
theorem dX7_codeFrom_195 : decode cX7_codeFrom 195 = .ok (.lshl, 1) := by decide +kernel
theorem dX7_codeFrom_196 : decode cX7_codeFrom 196 = .ok (.lastore, 1) := by decide +kernel
theorem dX7_codeFrom_197 : decode cX7_codeFrom 197 = .ok (.aload_n 0, 1) := by decide +kernel
theorem dX7_codeFrom_198 : decode cX7_codeFrom 198 = .ok (.getfield 36, 3) := by decide +kernel
theorem dX7_codeFrom_201 : decode cX7_codeFrom 201 = .ok (.iload 5, 2) := by decide +kernel
theorem dX7_codeFrom_203 : decode cX7_codeFrom 203 = .ok (.iload 8, 2) := by decide +kernel
theorem dX7_codeFrom_205 : decode cX7_codeFrom 205 = .ok (.iastore, 1) := by decide +kernel
theorem dX7_codeFrom_206 : decode cX7_codeFrom 206 = .ok (.iinc 4 (-1), 3) := by decide +kernel
theorem dX7_codeFrom_209 : decode cX7_codeFrom 209 = .ok (.goto (-197), 3) := by decide +kernel
theorem dX7_codeFrom_212 : decode cX7_codeFrom 212 = .ok (.aload_n 0, 1) := by decide +kernel
theorem dX7_codeFrom_213 : decode cX7_codeFrom 213 = .ok (.getfield 39, 3) := by decide +kernel
theorem dX7_codeFrom_216 : decode cX7_codeFrom 216 = .ok (.iload_n 1, 1) := by decide +kernel
theorem dX7_codeFrom_217 : decode cX7_codeFrom 217 = .ok (.laload, 1) := by decide +kernel
theorem dX7_codeFrom_218 : decode cX7_codeFrom 218 = .ok (.lreturn, 1) := by decide +kernel
theorem dX7_codeOf_0 : decode cX7_codeOf 0 = .ok (.lconst 0, 1) := by decide +kernel
theorem dX7_codeOf_1 : decode cX7_codeOf 1 = .ok (.lstore_n 2, 1) := by decide +kernel
theorem dX7_codeOf_2 : decode cX7_codeOf 2 = .ok (.iconst 0, 1) := by decide +kernel
theorem dX7_codeOf_3 : decode cX7_codeOf 3 = .ok (.istore 4, 2) := by decide +kernel
theorem dX7_codeOf_5 : decode cX7_codeOf 5 = .ok (.iload 4, 2) := by decide +kernel
theorem dX7_codeOf_7 : decode cX7_codeOf 7 = .ok (.aload_n 0, 1) := by decide +kernel
theorem dX7_codeOf_8 : decode cX7_codeOf 8 = .ok (.getfield 7, 3) := by decide +kernel
theorem dX7_codeOf_11 : decode cX7_codeOf 11 = .ok (.iconst 0, 1) := by decide +kernel
theorem dX7_codeOf_12 : decode cX7_codeOf 12 = .ok (.iaload, 1) := by decide +kernel
theorem dX7_codeOf_13 : decode cX7_codeOf 13 = .ok (.if_icmp .ge 42, 3) := by decide +kernel
theorem dX7_codeOf_16 : decode cX7_codeOf 16 = .ok (.iload_n 1, 1) := by decide +kernel
theorem dX7_codeOf_17 : decode cX7_codeOf 17 = .ok (.iload 4, 2) := by decide +kernel
theorem dX7_codeOf_19 : decode cX7_codeOf 19 = .ok (.ishr, 1) := by decide +kernel
theorem dX7_codeOf_20 : decode cX7_codeOf 20 = .ok (.iconst 1, 1) := by decide +kernel
theorem dX7_codeOf_21 : decode cX7_codeOf 21 = .ok (.iand, 1) := by decide +kernel
theorem dX7_codeOf_22 : decode cX7_codeOf 22 = .ok (.iconst 1, 1) := by decide +kernel
theorem dX7_codeOf_23 : decode cX7_codeOf 23 = .ok (.if_icmp .ne 26, 3) := by decide +kernel
theorem dX7_codeOf_26 : decode cX7_codeOf 26 = .ok (.aload_n 0, 1) := by decide +kernel
theorem dX7_codeOf_27 : decode cX7_codeOf 27 = .ok (.iload 4, 2) := by decide +kernel
theorem dX7_codeOf_29 : decode cX7_codeOf 29 = .ok (.iload_n 1, 1) := by decide +kernel
theorem dX7_codeOf_30 : decode cX7_codeOf 30 = .ok (.invokevirtual 88, 3) := by decide +kernel
theorem dX7_codeOf_33 : decode cX7_codeOf 33 = .ok (.lstore 5, 2) := by decide +kernel
theorem dX7_codeOf_35 : decode cX7_codeOf 35 = .ok (.lload 5, 2) := by decide +kernel
theorem dX7_codeOf_37 : decode cX7_codeOf 37 = .ok (.lload_n 2, 1) := by decide +kernel
theorem dX7_codeOf_38 : decode cX7_codeOf 38 = .ok (.lcmp, 1) := by decide +kernel
theorem dX7_codeOf_39 : decode cX7_codeOf 39 = .ok (.ifCond .le 8, 3) := by decide +kernel
theorem dX7_codeOf_42 : decode cX7_codeOf 42 = .ok (.lload 5, 2) := by decide +kernel
theorem dX7_codeOf_44 : decode cX7_codeOf 44 = .ok (.goto 4, 3) := by decide +kernel
theorem dX7_codeOf_47 : decode cX7_codeOf 47 = .ok (.lload_n 2, 1) := by decide +kernel
theorem dX7_codeOf_48 : decode cX7_codeOf 48 = .ok (.lstore_n 2, 1) := by decide +kernel
theorem dX7_codeOf_49 : decode cX7_codeOf 49 = .ok (.iinc 4 1, 3) := by decide +kernel
theorem dX7_codeOf_52 : decode cX7_codeOf 52 = .ok (.goto (-47), 3) := by decide +kernel
theorem dX7_codeOf_55 : decode cX7_codeOf 55 = .ok (.lload_n 2, 1) := by decide +kernel
theorem dX7_codeOf_56 : decode cX7_codeOf 56 = .ok (.lreturn, 1) := by decide +kernel
theorem dX7_classOf_0 : decode cX7_classOf 0 = .ok (.aload_n 0, 1) := by decide +kernel
theorem dX7_classOf_1 : decode cX7_classOf 1 = .ok (.aload_n 0, 1) := by decide +kernel
theorem dX7_classOf_2 : decode cX7_classOf 2 = .ok (.getfield 27, 3) := by decide +kernel
theorem dX7_classOf_5 : decode cX7_classOf 5 = .ok (.iload_n 1, 1) := by decide +kernel
theorem dX7_classOf_6 : decode cX7_classOf 6 = .ok (.iaload, 1) := by decide +kernel
theorem dX7_classOf_7 : decode cX7_classOf 7 = .ok (.invokevirtual 92, 3) := by decide +kernel
theorem dX7_classOf_10 : decode cX7_classOf 10 = .ok (.lstore_n 2, 1) := by decide +kernel
theorem dX7_classOf_11 : decode cX7_classOf 11 = .ok (.iload_n 1, 1) := by decide +kernel
theorem dX7_classOf_12 : decode cX7_classOf 12 = .ok (.istore 4, 2) := by decide +kernel
theorem dX7_classOf_14 : decode cX7_classOf 14 = .ok (.iload_n 1, 1) := by decide +kernel
theorem dX7_classOf_15 : decode cX7_classOf 15 = .ok (.istore 5, 2) := by decide +kernel
theorem dX7_classOf_17 : decode cX7_classOf 17 = .ok (.iload 5, 2) := by decide +kernel
theorem dX7_classOf_19 : decode cX7_classOf 19 = .ok (.ifCond .lt 34, 3) := by decide +kernel
theorem dX7_classOf_22 : decode cX7_classOf 22 = .ok (.aload_n 0, 1) := by decide +kernel
theorem dX7_classOf_23 : decode cX7_classOf 23 = .ok (.aload_n 0, 1) := by decide +kernel
theorem dX7_classOf_24 : decode cX7_classOf 24 = .ok (.getfield 27, 3) := by decide +kernel
theorem dX7_classOf_27 : decode cX7_classOf 27 = .ok (.iload 5, 2) := by decide +kernel
theorem dX7_classOf_29 : decode cX7_classOf 29 = .ok (.iaload, 1) := by decide +kernel
theorem dX7_classOf_30 : decode cX7_classOf 30 = .ok (.invokevirtual 92, 3) := by decide +kernel
theorem dX7_classOf_33 : decode cX7_classOf 33 = .ok (.lload_n 2, 1) := by decide +kernel
theorem dX7_classOf_34 : decode cX7_classOf 34 = .ok (.lcmp, 1) := by decide +kernel
theorem dX7_classOf_35 : decode cX7_classOf 35 = .ok (.ifCond .ne 8, 3) := by decide +kernel
theorem dX7_classOf_38 : decode cX7_classOf 38 = .ok (.iload 5, 2) := by decide +kernel
theorem dX7_classOf_40 : decode cX7_classOf 40 = .ok (.goto 5, 3) := by decide +kernel
theorem dX7_classOf_43 : decode cX7_classOf 43 = .ok (.iload 4, 2) := by decide +kernel
theorem dX7_classOf_45 : decode cX7_classOf 45 = .ok (.istore 4, 2) := by decide +kernel
theorem dX7_classOf_47 : decode cX7_classOf 47 = .ok (.iinc 5 (-1), 3) := by decide +kernel
theorem dX7_classOf_50 : decode cX7_classOf 50 = .ok (.goto (-33), 3) := by decide +kernel
theorem dX7_classOf_53 : decode cX7_classOf 53 = .ok (.iload 4, 2) := by decide +kernel
theorem dX7_classOf_55 : decode cX7_classOf 55 = .ok (.ireturn, 1) := by decide +kernel
theorem dX7_isEdge_0 : decode cX7_isEdge 0 = .ok (.aload_n 0, 1) := by decide +kernel
theorem dX7_isEdge_1 : decode cX7_isEdge 1 = .ok (.iload_n 1, 1) := by decide +kernel
theorem dX7_isEdge_2 : decode cX7_isEdge 2 = .ok (.invokevirtual 96, 3) := by decide +kernel
theorem dX7_isEdge_5 : decode cX7_isEdge 5 = .ok (.ifCond .eq 31, 3) := by decide +kernel
theorem dX7_isEdge_8 : decode cX7_isEdge 8 = .ok (.aload_n 0, 1) := by decide +kernel
theorem dX7_isEdge_9 : decode cX7_isEdge 9 = .ok (.iload_n 2, 1) := by decide +kernel
theorem dX7_isEdge_10 : decode cX7_isEdge 10 = .ok (.invokevirtual 96, 3) := by decide +kernel
theorem dX7_isEdge_13 : decode cX7_isEdge 13 = .ok (.ifCond .eq 23, 3) := by decide +kernel
theorem dX7_isEdge_16 : decode cX7_isEdge 16 = .ok (.aload_n 0, 1) := by decide +kernel
theorem dX7_isEdge_17 : decode cX7_isEdge 17 = .ok (.getfield 7, 3) := by decide +kernel
theorem dX7_isEdge_20 : decode cX7_isEdge 20 = .ok (.iconst 4, 1) := by decide +kernel
theorem dX7_isEdge_21 : decode cX7_isEdge 21 = .ok (.iload_n 1, 1) := by decide +kernel
theorem dX7_isEdge_22 : decode cX7_isEdge 22 = .ok (.iadd, 1) := by decide +kernel
theorem dX7_isEdge_23 : decode cX7_isEdge 23 = .ok (.iaload, 1) := by decide +kernel
theorem dX7_isEdge_24 : decode cX7_isEdge 24 = .ok (.iload_n 2, 1) := by decide +kernel
theorem dX7_isEdge_25 : decode cX7_isEdge 25 = .ok (.ishr, 1) := by decide +kernel
theorem dX7_isEdge_26 : decode cX7_isEdge 26 = .ok (.iconst 1, 1) := by decide +kernel
theorem dX7_isEdge_27 : decode cX7_isEdge 27 = .ok (.iand, 1) := by decide +kernel
theorem dX7_isEdge_28 : decode cX7_isEdge 28 = .ok (.iconst 1, 1) := by decide +kernel
theorem dX7_isEdge_29 : decode cX7_isEdge 29 = .ok (.if_icmp .ne 7, 3) := by decide +kernel
theorem dX7_isEdge_32 : decode cX7_isEdge 32 = .ok (.iconst 1, 1) := by decide +kernel
theorem dX7_isEdge_33 : decode cX7_isEdge 33 = .ok (.goto 4, 3) := by decide +kernel
theorem dX7_isEdge_36 : decode cX7_isEdge 36 = .ok (.iconst 0, 1) := by decide +kernel
theorem dX7_isEdge_37 : decode cX7_isEdge 37 = .ok (.ireturn, 1) := by decide +kernel
theorem dX7_isMirror_0 : decode cX7_isMirror 0 = .ok (.aload_n 0, 1) := by decide +kernel
theorem dX7_isMirror_1 : decode cX7_isMirror 1 = .ok (.iload_n 1, 1) := by decide +kernel
theorem dX7_isMirror_2 : decode cX7_isMirror 2 = .ok (.iload_n 2, 1) := by decide +kernel
theorem dX7_isMirror_3 : decode cX7_isMirror 3 = .ok (.iconst 0, 1) := by decide +kernel
theorem dX7_isMirror_4 : decode cX7_isMirror 4 = .ok (.invokevirtual 100, 3) := by decide +kernel
theorem dX7_isMirror_7 : decode cX7_isMirror 7 = .ok (.aload_n 0, 1) := by decide +kernel
theorem dX7_isMirror_8 : decode cX7_isMirror 8 = .ok (.iload_n 1, 1) := by decide +kernel
theorem dX7_isMirror_9 : decode cX7_isMirror 9 = .ok (.aload_n 0, 1) := by decide +kernel
theorem dX7_isMirror_10 : decode cX7_isMirror 10 = .ok (.getfield 7, 3) := by decide +kernel
theorem dX7_isMirror_13 : decode cX7_isMirror 13 = .ok (.iconst 1, 1) := by decide +kernel
theorem dX7_isMirror_14 : decode cX7_isMirror 14 = .ok (.iaload, 1) := by decide +kernel
theorem dX7_isMirror_15 : decode cX7_isMirror 15 = .ok (.invokevirtual 82, 3) := by decide +kernel
theorem dX7_isMirror_18 : decode cX7_isMirror 18 = .ok (.istore_n 3, 1) := by decide +kernel
theorem dX7_isMirror_19 : decode cX7_isMirror 19 = .ok (.aload_n 0, 1) := by decide +kernel
theorem dX7_isMirror_20 : decode cX7_isMirror 20 = .ok (.iload_n 2, 1) := by decide +kernel
theorem dX7_isMirror_21 : decode cX7_isMirror 21 = .ok (.aload_n 0, 1) := by decide +kernel
theorem dX7_isMirror_22 : decode cX7_isMirror 22 = .ok (.getfield 7, 3) := by decide +kernel
theorem dX7_isMirror_25 : decode cX7_isMirror 25 = .ok (.iconst 1, 1) := by decide +kernel
theorem dX7_isMirror_26 : decode cX7_isMirror 26 = .ok (.iaload, 1) := by decide +kernel
theorem dX7_isMirror_27 : decode cX7_isMirror 27 = .ok (.invokevirtual 82, 3) := by decide +kernel
theorem dX7_isMirror_30 : decode cX7_isMirror 30 = .ok (.istore 4, 2) := by decide +kernel
theorem dX7_isMirror_32 : decode cX7_isMirror 32 = .ok (.iload_n 3, 1) := by decide +kernel
theorem dX7_isMirror_33 : decode cX7_isMirror 33 = .ok (.invokestatic 104, 3) := by decide +kernel
theorem dX7_isMirror_36 : decode cX7_isMirror 36 = .ok (.iload 4, 2) := by decide +kernel
theorem dX7_isMirror_38 : decode cX7_isMirror 38 = .ok (.invokestatic 104, 3) := by decide +kernel
theorem dX7_isMirror_41 : decode cX7_isMirror 41 = .ok (.if_icmp .ne 22, 3) := by decide +kernel
theorem dX7_isMirror_44 : decode cX7_isMirror 44 = .ok (.aload_n 0, 1) := by decide +kernel
theorem dX7_isMirror_45 : decode cX7_isMirror 45 = .ok (.iload_n 3, 1) := by decide +kernel
theorem dX7_isMirror_46 : decode cX7_isMirror 46 = .ok (.invokevirtual 92, 3) := by decide +kernel
theorem dX7_isMirror_49 : decode cX7_isMirror 49 = .ok (.aload_n 0, 1) := by decide +kernel
theorem dX7_isMirror_50 : decode cX7_isMirror 50 = .ok (.iload 4, 2) := by decide +kernel
theorem dX7_isMirror_52 : decode cX7_isMirror 52 = .ok (.invokevirtual 92, 3) := by decide +kernel
theorem dX7_isMirror_55 : decode cX7_isMirror 55 = .ok (.lcmp, 1) := by decide +kernel
theorem dX7_isMirror_56 : decode cX7_isMirror 56 = .ok (.ifCond .ne 7, 3) := by decide +kernel
theorem dX7_isMirror_59 : decode cX7_isMirror 59 = .ok (.iconst 1, 1) := by decide +kernel
theorem dX7_isMirror_60 : decode cX7_isMirror 60 = .ok (.goto 4, 3) := by decide +kernel
theorem dX7_isMirror_63 : decode cX7_isMirror 63 = .ok (.iconst 0, 1) := by decide +kernel
theorem dX7_isMirror_64 : decode cX7_isMirror 64 = .ok (.istore 5, 2) := by decide +kernel
theorem dX7_isMirror_66 : decode cX7_isMirror 66 = .ok (.aload_n 0, 1) := by decide +kernel
theorem dX7_isMirror_67 : decode cX7_isMirror 67 = .ok (.iload_n 1, 1) := by decide +kernel
theorem dX7_isMirror_68 : decode cX7_isMirror 68 = .ok (.iload_n 2, 1) := by decide +kernel
theorem dX7_isMirror_69 : decode cX7_isMirror 69 = .ok (.iconst 1, 1) := by decide +kernel
theorem dX7_isMirror_70 : decode cX7_isMirror 70 = .ok (.invokevirtual 100, 3) := by decide +kernel
theorem dX7_isMirror_73 : decode cX7_isMirror 73 = .ok (.iload 5, 2) := by decide +kernel
theorem dX7_isMirror_75 : decode cX7_isMirror 75 = .ok (.ireturn, 1) := by decide +kernel
theorem dX7_mirrors_0 : decode cX7_mirrors 0 = .ok (.aload_n 0, 1) := by decide +kernel
theorem dX7_mirrors_1 : decode cX7_mirrors 1 = .ok (.getfield 47, 3) := by decide +kernel
theorem dX7_mirrors_4 : decode cX7_mirrors 4 = .ok (.istore_n 3, 1) := by decide +kernel
theorem dX7_mirrors_5 : decode cX7_mirrors 5 = .ok (.iconst 0, 1) := by decide +kernel
theorem dX7_mirrors_6 : decode cX7_mirrors 6 = .ok (.istore 4, 2) := by decide +kernel
theorem dX7_mirrors_8 : decode cX7_mirrors 8 = .ok (.iconst (-1), 1) := by decide +kernel
theorem dX7_mirrors_9 : decode cX7_mirrors 9 = .ok (.istore 5, 2) := by decide +kernel
theorem dX7_mirrors_11 : decode cX7_mirrors 11 = .ok (.iconst 0, 1) := by decide +kernel
theorem dX7_mirrors_12 : decode cX7_mirrors 12 = .ok (.istore 6, 2) := by decide +kernel
theorem dX7_mirrors_14 : decode cX7_mirrors 14 = .ok (.iload 6, 2) := by decide +kernel
theorem dX7_mirrors_16 : decode cX7_mirrors 16 = .ok (.aload_n 0, 1) := by decide +kernel
theorem dX7_mirrors_17 : decode cX7_mirrors 17 = .ok (.getfield 7, 3) := by decide +kernel
theorem dX7_mirrors_20 : decode cX7_mirrors 20 = .ok (.iconst 0, 1) := by decide +kernel
theorem dX7_mirrors_21 : decode cX7_mirrors 21 = .ok (.iaload, 1) := by decide +kernel
theorem dX7_mirrors_22 : decode cX7_mirrors 22 = .ok (.if_icmp .ge 88, 3) := by decide +kernel
theorem dX7_mirrors_25 : decode cX7_mirrors 25 = .ok (.iload 6, 2) := by decide +kernel
theorem dX7_mirrors_27 : decode cX7_mirrors 27 = .ok (.iconst 1, 1) := by decide +kernel
theorem dX7_mirrors_28 : decode cX7_mirrors 28 = .ok (.iadd, 1) := by decide +kernel
theorem dX7_mirrors_29 : decode cX7_mirrors 29 = .ok (.istore 7, 2) := by decide +kernel
theorem dX7_mirrors_31 : decode cX7_mirrors 31 = .ok (.iload 7, 2) := by decide +kernel
theorem dX7_mirrors_33 : decode cX7_mirrors 33 = .ok (.aload_n 0, 1) := by decide +kernel
theorem dX7_mirrors_34 : decode cX7_mirrors 34 = .ok (.getfield 7, 3) := by decide +kernel
theorem dX7_mirrors_37 : decode cX7_mirrors 37 = .ok (.iconst 0, 1) := by decide +kernel
theorem dX7_mirrors_38 : decode cX7_mirrors 38 = .ok (.iaload, 1) := by decide +kernel
theorem dX7_mirrors_39 : decode cX7_mirrors 39 = .ok (.if_icmp .ge 65, 3) := by decide +kernel
theorem dX7_mirrors_42 : decode cX7_mirrors 42 = .ok (.iload_n 1, 1) := by decide +kernel
theorem dX7_mirrors_43 : decode cX7_mirrors 43 = .ok (.iload 6, 2) := by decide +kernel
theorem dX7_mirrors_45 : decode cX7_mirrors 45 = .ok (.ishr, 1) := by decide +kernel
theorem dX7_mirrors_46 : decode cX7_mirrors 46 = .ok (.iconst 1, 1) := by decide +kernel
theorem dX7_mirrors_47 : decode cX7_mirrors 47 = .ok (.iand, 1) := by decide +kernel
theorem dX7_mirrors_48 : decode cX7_mirrors 48 = .ok (.iconst 1, 1) := by decide +kernel
theorem dX7_mirrors_49 : decode cX7_mirrors 49 = .ok (.if_icmp .ne 49, 3) := by decide +kernel
theorem dX7_mirrors_52 : decode cX7_mirrors 52 = .ok (.aload_n 0, 1) := by decide +kernel
theorem dX7_mirrors_53 : decode cX7_mirrors 53 = .ok (.iload 6, 2) := by decide +kernel
theorem dX7_mirrors_55 : decode cX7_mirrors 55 = .ok (.iload 7, 2) := by decide +kernel
theorem dX7_mirrors_57 : decode cX7_mirrors 57 = .ok (.invokevirtual 107, 3) := by decide +kernel
theorem dX7_mirrors_60 : decode cX7_mirrors 60 = .ok (.ifCond .eq 38, 3) := by decide +kernel
theorem dX7_mirrors_63 : decode cX7_mirrors 63 = .ok (.aload_n 0, 1) := by decide +kernel
theorem dX7_mirrors_64 : decode cX7_mirrors 64 = .ok (.iload 6, 2) := by decide +kernel
theorem dX7_mirrors_66 : decode cX7_mirrors 66 = .ok (.iload 7, 2) := by decide +kernel
theorem dX7_mirrors_68 : decode cX7_mirrors 68 = .ok (.invokevirtual 111, 3) := by decide +kernel
theorem dX7_mirrors_71 : decode cX7_mirrors 71 = .ok (.ifCond .eq 27, 3) := by decide +kernel
theorem dX7_mirrors_74 : decode cX7_mirrors 74 = .ok (.iload 4, 2) := by decide +kernel
theorem dX7_mirrors_76 : decode cX7_mirrors 76 = .ok (.iload_n 2, 1) := by decide +kernel
theorem dX7_mirrors_77 : decode cX7_mirrors 77 = .ok (.if_icmp .ne 14, 3) := by decide +kernel
theorem dX7_mirrors_80 : decode cX7_mirrors 80 = .ok (.bipush 100, 2) := by decide +kernel
theorem dX7_mirrors_82 : decode cX7_mirrors 82 = .ok (.iload 6, 2) := by decide +kernel
theorem dX7_mirrors_84 : decode cX7_mirrors 84 = .ok (.imul, 1) := by decide +kernel
theorem dX7_mirrors_85 : decode cX7_mirrors 85 = .ok (.iload 7, 2) := by decide +kernel
theorem dX7_mirrors_87 : decode cX7_mirrors 87 = .ok (.iadd, 1) := by decide +kernel
theorem dX7_mirrors_88 : decode cX7_mirrors 88 = .ok (.goto 5, 3) := by decide +kernel
theorem dX7_mirrors_91 : decode cX7_mirrors 91 = .ok (.iload 5, 2) := by decide +kernel
theorem dX7_mirrors_93 : decode cX7_mirrors 93 = .ok (.istore 5, 2) := by decide +kernel
theorem dX7_mirrors_95 : decode cX7_mirrors 95 = .ok (.iinc 4 1, 3) := by decide +kernel
theorem dX7_mirrors_98 : decode cX7_mirrors 98 = .ok (.iinc 7 1, 3) := by decide +kernel
theorem dX7_mirrors_101 : decode cX7_mirrors 101 = .ok (.goto (-70), 3) := by decide +kernel
theorem dX7_mirrors_104 : decode cX7_mirrors 104 = .ok (.iinc 6 1, 3) := by decide +kernel
theorem dX7_mirrors_107 : decode cX7_mirrors 107 = .ok (.goto (-93), 3) := by decide +kernel
theorem dX7_mirrors_110 : decode cX7_mirrors 110 = .ok (.aload_n 0, 1) := by decide +kernel
theorem dX7_mirrors_111 : decode cX7_mirrors 111 = .ok (.iload_n 3, 1) := by decide +kernel
theorem dX7_mirrors_112 : decode cX7_mirrors 112 = .ok (.putfield 47, 3) := by decide +kernel
theorem dX7_mirrors_115 : decode cX7_mirrors 115 = .ok (.iload_n 2, 1) := by decide +kernel
theorem dX7_mirrors_116 : decode cX7_mirrors 116 = .ok (.ifCond .ge 8, 3) := by decide +kernel
theorem dX7_mirrors_119 : decode cX7_mirrors 119 = .ok (.iload 4, 2) := by decide +kernel
theorem dX7_mirrors_121 : decode cX7_mirrors 121 = .ok (.goto 5, 3) := by decide +kernel
theorem dX7_mirrors_124 : decode cX7_mirrors 124 = .ok (.iload 5, 2) := by decide +kernel
theorem dX7_mirrors_126 : decode cX7_mirrors 126 = .ok (.ireturn, 1) := by decide +kernel
theorem dX7_depth_0 : decode cX7_depth 0 = .ok (.iconst 0, 1) := by decide +kernel
theorem dX7_depth_1 : decode cX7_depth 1 = .ok (.istore_n 2, 1) := by decide +kernel
theorem dX7_depth_2 : decode cX7_depth 2 = .ok (.iload_n 1, 1) := by decide +kernel
theorem dX7_depth_3 : decode cX7_depth 3 = .ok (.istore_n 3, 1) := by decide +kernel
theorem dX7_depth_4 : decode cX7_depth 4 = .ok (.aload_n 0, 1) := by decide +kernel
theorem dX7_depth_5 : decode cX7_depth 5 = .ok (.getfield 33, 3) := by decide +kernel
theorem dX7_depth_8 : decode cX7_depth 8 = .ok (.iload_n 3, 1) := by decide +kernel
theorem dX7_depth_9 : decode cX7_depth 9 = .ok (.iaload, 1) := by decide +kernel
theorem dX7_depth_10 : decode cX7_depth 10 = .ok (.ifCond .lt 16, 3) := by decide +kernel
theorem dX7_depth_13 : decode cX7_depth 13 = .ok (.iinc 2 1, 3) := by decide +kernel
theorem dX7_depth_16 : decode cX7_depth 16 = .ok (.aload_n 0, 1) := by decide +kernel
theorem dX7_depth_17 : decode cX7_depth 17 = .ok (.getfield 33, 3) := by decide +kernel
theorem dX7_depth_20 : decode cX7_depth 20 = .ok (.iload_n 3, 1) := by decide +kernel
theorem dX7_depth_21 : decode cX7_depth 21 = .ok (.iaload, 1) := by decide +kernel
theorem dX7_depth_22 : decode cX7_depth 22 = .ok (.istore_n 3, 1) := by decide +kernel
theorem dX7_depth_23 : decode cX7_depth 23 = .ok (.goto (-19), 3) := by decide +kernel
theorem dX7_depth_26 : decode cX7_depth 26 = .ok (.iload_n 2, 1) := by decide +kernel
theorem dX7_depth_27 : decode cX7_depth 27 = .ok (.ireturn, 1) := by decide +kernel
theorem dX7_longestWay_0 : decode cX7_longestWay 0 = .ok (.iconst 0, 1) := by decide +kernel
theorem dX7_longestWay_1 : decode cX7_longestWay 1 = .ok (.istore_n 2, 1) := by decide +kernel
theorem dX7_longestWay_2 : decode cX7_longestWay 2 = .ok (.iconst 0, 1) := by decide +kernel
theorem dX7_longestWay_3 : decode cX7_longestWay 3 = .ok (.istore_n 3, 1) := by decide +kernel
theorem dX7_longestWay_4 : decode cX7_longestWay 4 = .ok (.iload_n 3, 1) := by decide +kernel
theorem dX7_longestWay_5 : decode cX7_longestWay 5 = .ok (.aload_n 0, 1) := by decide +kernel
theorem dX7_longestWay_6 : decode cX7_longestWay 6 = .ok (.getfield 7, 3) := by decide +kernel
theorem dX7_longestWay_9 : decode cX7_longestWay 9 = .ok (.iconst 0, 1) := by decide +kernel
theorem dX7_longestWay_10 : decode cX7_longestWay 10 = .ok (.iaload, 1) := by decide +kernel
theorem dX7_longestWay_11 : decode cX7_longestWay 11 = .ok (.if_icmp .ge 54, 3) := by decide +kernel
theorem dX7_longestWay_14 : decode cX7_longestWay 14 = .ok (.iload_n 1, 1) := by decide +kernel
theorem dX7_longestWay_15 : decode cX7_longestWay 15 = .ok (.iload_n 3, 1) := by decide +kernel
theorem dX7_longestWay_16 : decode cX7_longestWay 16 = .ok (.ishr, 1) := by decide +kernel
theorem dX7_longestWay_17 : decode cX7_longestWay 17 = .ok (.iconst 1, 1) := by decide +kernel
theorem dX7_longestWay_18 : decode cX7_longestWay 18 = .ok (.iand, 1) := by decide +kernel
theorem dX7_longestWay_19 : decode cX7_longestWay 19 = .ok (.iconst 1, 1) := by decide +kernel
theorem dX7_longestWay_20 : decode cX7_longestWay 20 = .ok (.if_icmp .ne 39, 3) := by decide +kernel
theorem dX7_longestWay_23 : decode cX7_longestWay 23 = .ok (.aload_n 0, 1) := by decide +kernel
theorem dX7_longestWay_24 : decode cX7_longestWay 24 = .ok (.iload_n 3, 1) := by decide +kernel
theorem dX7_longestWay_25 : decode cX7_longestWay 25 = .ok (.iload_n 1, 1) := by decide +kernel
theorem dX7_longestWay_26 : decode cX7_longestWay 26 = .ok (.invokevirtual 85, 3) := by decide +kernel
theorem dX7_longestWay_29 : decode cX7_longestWay 29 = .ok (.istore 4, 2) := by decide +kernel
theorem dX7_longestWay_31 : decode cX7_longestWay 31 = .ok (.aload_n 0, 1) := by decide +kernel
theorem dX7_longestWay_32 : decode cX7_longestWay 32 = .ok (.aload_n 0, 1) := by decide +kernel
theorem dX7_longestWay_33 : decode cX7_longestWay 33 = .ok (.getfield 30, 3) := by decide +kernel
theorem dX7_longestWay_36 : decode cX7_longestWay 36 = .ok (.iload 4, 2) := by decide +kernel
theorem dX7_longestWay_38 : decode cX7_longestWay 38 = .ok (.iconst 1, 1) := by decide +kernel
theorem dX7_longestWay_39 : decode cX7_longestWay 39 = .ok (.isub, 1) := by decide +kernel
theorem dX7_longestWay_40 : decode cX7_longestWay 40 = .ok (.iaload, 1) := by decide +kernel
theorem dX7_longestWay_41 : decode cX7_longestWay 41 = .ok (.invokevirtual 114, 3) := by decide +kernel
theorem dX7_longestWay_44 : decode cX7_longestWay 44 = .ok (.istore 5, 2) := by decide +kernel
theorem dX7_longestWay_46 : decode cX7_longestWay 46 = .ok (.iload 5, 2) := by decide +kernel
theorem dX7_longestWay_48 : decode cX7_longestWay 48 = .ok (.iload_n 2, 1) := by decide +kernel
theorem dX7_longestWay_49 : decode cX7_longestWay 49 = .ok (.if_icmp .le 8, 3) := by decide +kernel
theorem dX7_longestWay_52 : decode cX7_longestWay 52 = .ok (.iload 5, 2) := by decide +kernel
theorem dX7_longestWay_54 : decode cX7_longestWay 54 = .ok (.goto 4, 3) := by decide +kernel
theorem dX7_longestWay_57 : decode cX7_longestWay 57 = .ok (.iload_n 2, 1) := by decide +kernel
theorem dX7_longestWay_58 : decode cX7_longestWay 58 = .ok (.istore_n 2, 1) := by decide +kernel
theorem dX7_longestWay_59 : decode cX7_longestWay 59 = .ok (.iinc 3 1, 3) := by decide +kernel
theorem dX7_longestWay_62 : decode cX7_longestWay 62 = .ok (.goto (-58), 3) := by decide +kernel
theorem dX7_longestWay_65 : decode cX7_longestWay 65 = .ok (.iload_n 2, 1) := by decide +kernel
theorem dX7_longestWay_66 : decode cX7_longestWay 66 = .ok (.ireturn, 1) := by decide +kernel
theorem dX7_node_0 : decode cX7_node 0 = .ok (.iload_n 1, 1) := by decide +kernel
theorem dX7_node_1 : decode cX7_node 1 = .ok (.iconst (-1), 1) := by decide +kernel
theorem dX7_node_2 : decode cX7_node 2 = .ok (.if_icmp .eq 11, 3) := by decide +kernel
theorem dX7_node_5 : decode cX7_node 5 = .ok (.aload_n 0, 1) := by decide +kernel
theorem dX7_node_6 : decode cX7_node 6 = .ok (.iload_n 1, 1) := by decide +kernel
theorem dX7_node_7 : decode cX7_node 7 = .ok (.invokevirtual 117, 3) := by decide +kernel
theorem dX7_node_10 : decode cX7_node 10 = .ok (.ifCond .eq 7, 3) := by decide +kernel
theorem dX7_node_13 : decode cX7_node 13 = .ok (.iconst 1, 1) := by decide +kernel
theorem dX7_node_14 : decode cX7_node 14 = .ok (.goto 4, 3) := by decide +kernel
theorem dX7_node_17 : decode cX7_node 17 = .ok (.iconst 0, 1) := by decide +kernel
theorem dX7_node_18 : decode cX7_node 18 = .ok (.istore_n 2, 1) := by decide +kernel
theorem dX7_node_19 : decode cX7_node 19 = .ok (.aload_n 0, 1) := by decide +kernel
theorem dX7_node_20 : decode cX7_node 20 = .ok (.iload_n 2, 1) := by decide +kernel
theorem dX7_node_21 : decode cX7_node 21 = .ok (.iload_n 2, 1) := by decide +kernel
theorem dX7_node_22 : decode cX7_node 22 = .ok (.ifCond .eq 31, 3) := by decide +kernel
theorem dX7_node_25 : decode cX7_node 25 = .ok (.aload_n 0, 1) := by decide +kernel
theorem dX7_node_26 : decode cX7_node 26 = .ok (.getfield 7, 3) := by decide +kernel
theorem dX7_node_29 : decode cX7_node 29 = .ok (.iconst 0, 1) := by decide +kernel
theorem dX7_node_30 : decode cX7_node 30 = .ok (.iaload, 1) := by decide +kernel
theorem dX7_node_31 : decode cX7_node 31 = .ok (.bipush 14, 2) := by decide +kernel
theorem dX7_node_33 : decode cX7_node 33 = .ok (.if_icmp .ge 20, 3) := by decide +kernel
theorem dX7_node_36 : decode cX7_node 36 = .ok (.iload_n 1, 1) := by decide +kernel
theorem dX7_node_37 : decode cX7_node 37 = .ok (.iconst (-1), 1) := by decide +kernel
theorem dX7_node_38 : decode cX7_node 38 = .ok (.if_icmp .eq 11, 3) := by decide +kernel
theorem dX7_node_41 : decode cX7_node 41 = .ok (.aload_n 0, 1) := by decide +kernel
theorem dX7_node_42 : decode cX7_node 42 = .ok (.iload_n 1, 1) := by decide +kernel
theorem dX7_node_43 : decode cX7_node 43 = .ok (.invokevirtual 96, 3) := by decide +kernel
theorem dX7_node_46 : decode cX7_node 46 = .ok (.ifCond .eq 7, 3) := by decide +kernel
theorem dX7_node_49 : decode cX7_node 49 = .ok (.iconst 1, 1) := by decide +kernel
theorem dX7_node_50 : decode cX7_node 50 = .ok (.goto 4, 3) := by decide +kernel
theorem dX7_node_53 : decode cX7_node 53 = .ok (.iconst 0, 1) := by decide +kernel
theorem dX7_node_54 : decode cX7_node 54 = .ok (.invokevirtual 120, 3) := by decide +kernel
theorem dX7_node_57 : decode cX7_node 57 = .ok (.ifCond .ne 5, 3) := by decide +kernel
theorem dX7_node_60 : decode cX7_node 60 = .ok (.iconst 0, 1) := by decide +kernel
theorem dX7_node_61 : decode cX7_node 61 = .ok (.ireturn, 1) := by decide +kernel
theorem dX7_node_62 : decode cX7_node 62 = .ok (.aload_n 0, 1) := by decide +kernel
theorem dX7_node_63 : decode cX7_node 63 = .ok (.invokevirtual 124, 3) := by decide +kernel
theorem dX7_node_66 : decode cX7_node 66 = .ok (.aload_n 0, 1) := by decide +kernel
theorem dX7_node_67 : decode cX7_node 67 = .ok (.getfield 7, 3) := by decide +kernel
theorem dX7_node_70 : decode cX7_node 70 = .ok (.iconst 0, 1) := by decide +kernel
theorem dX7_node_71 : decode cX7_node 71 = .ok (.iaload, 1) := by decide +kernel
theorem dX7_node_72 : decode cX7_node 72 = .ok (.istore_n 3, 1) := by decide +kernel
theorem dX7_node_73 : decode cX7_node 73 = .ok (.aload_n 0, 1) := by decide +kernel
theorem dX7_node_74 : decode cX7_node 74 = .ok (.getfield 7, 3) := by decide +kernel
theorem dX7_node_77 : decode cX7_node 77 = .ok (.iconst 0, 1) := by decide +kernel
theorem dX7_node_78 : decode cX7_node 78 = .ok (.dup2, 1) := by decide +kernel
theorem dX7_node_79 : decode cX7_node 79 = .ok (.iaload, 1) := by decide +kernel
theorem dX7_node_80 : decode cX7_node 80 = .ok (.iconst 1, 1) := by decide +kernel
theorem dX7_node_81 : decode cX7_node 81 = .ok (.iadd, 1) := by decide +kernel
theorem dX7_node_82 : decode cX7_node 82 = .ok (.iastore, 1) := by decide +kernel
theorem dX7_node_83 : decode cX7_node 83 = .ok (.aload_n 0, 1) := by decide +kernel
theorem dX7_node_84 : decode cX7_node 84 = .ok (.getfield 7, 3) := by decide +kernel
theorem dX7_node_87 : decode cX7_node 87 = .ok (.iconst 1, 1) := by decide +kernel
theorem dX7_node_88 : decode cX7_node 88 = .ok (.dup2, 1) := by decide +kernel
theorem dX7_node_89 : decode cX7_node 89 = .ok (.iaload, 1) := by decide +kernel
theorem dX7_node_90 : decode cX7_node 90 = .ok (.iconst 1, 1) := by decide +kernel
theorem dX7_node_91 : decode cX7_node 91 = .ok (.iload_n 3, 1) := by decide +kernel
theorem dX7_node_92 : decode cX7_node 92 = .ok (.ishl, 1) := by decide +kernel
theorem dX7_node_93 : decode cX7_node 93 = .ok (.ior, 1) := by decide +kernel
theorem dX7_node_94 : decode cX7_node 94 = .ok (.iastore, 1) := by decide +kernel
theorem dX7_node_95 : decode cX7_node 95 = .ok (.aload_n 0, 1) := by decide +kernel
theorem dX7_node_96 : decode cX7_node 96 = .ok (.getfield 7, 3) := by decide +kernel
theorem dX7_node_99 : decode cX7_node 99 = .ok (.iconst 4, 1) := by decide +kernel
theorem dX7_node_100 : decode cX7_node 100 = .ok (.iload_n 3, 1) := by decide +kernel
theorem dX7_node_101 : decode cX7_node 101 = .ok (.iadd, 1) := by decide +kernel
theorem dX7_node_102 : decode cX7_node 102 = .ok (.iconst 0, 1) := by decide +kernel
theorem dX7_node_103 : decode cX7_node 103 = .ok (.iastore, 1) := by decide +kernel
theorem dX7_node_104 : decode cX7_node 104 = .ok (.aload_n 0, 1) := by decide +kernel
theorem dX7_node_105 : decode cX7_node 105 = .ok (.iconst 0, 1) := by decide +kernel
theorem dX7_node_106 : decode cX7_node 106 = .ok (.putfield 47, 3) := by decide +kernel
theorem dX7_node_109 : decode cX7_node 109 = .ok (.iload_n 1, 1) := by decide +kernel
theorem dX7_node_110 : decode cX7_node 110 = .ok (.ifCond .lt 10, 3) := by decide +kernel
theorem dX7_node_113 : decode cX7_node 113 = .ok (.aload_n 0, 1) := by decide +kernel
theorem dX7_node_114 : decode cX7_node 114 = .ok (.iload_n 3, 1) := by decide +kernel
theorem dX7_node_115 : decode cX7_node 115 = .ok (.iload_n 1, 1) := by decide +kernel
theorem dX7_node_116 : decode cX7_node 116 = .ok (.iconst 1, 1) := by decide +kernel
theorem dX7_node_117 : decode cX7_node 117 = .ok (.invokevirtual 100, 3) := by decide +kernel
theorem dX7_node_120 : decode cX7_node 120 = .ok (.iload_n 3, 1) := by decide +kernel
theorem dX7_node_121 : decode cX7_node 121 = .ok (.ireturn, 1) := by decide +kernel
theorem dX7_canJoin_0 : decode cX7_canJoin 0 = .ok (.aload_n 0, 1) := by decide +kernel
theorem dX7_canJoin_1 : decode cX7_canJoin 1 = .ok (.iload_n 1, 1) := by decide +kernel
theorem dX7_canJoin_2 : decode cX7_canJoin 2 = .ok (.invokevirtual 96, 3) := by decide +kernel
theorem dX7_canJoin_5 : decode cX7_canJoin 5 = .ok (.ifCond .eq 37, 3) := by decide +kernel
theorem dX7_canJoin_8 : decode cX7_canJoin 8 = .ok (.aload_n 0, 1) := by decide +kernel
theorem dX7_canJoin_9 : decode cX7_canJoin 9 = .ok (.iload_n 2, 1) := by decide +kernel
theorem dX7_canJoin_10 : decode cX7_canJoin 10 = .ok (.invokevirtual 96, 3) := by decide +kernel
theorem dX7_canJoin_13 : decode cX7_canJoin 13 = .ok (.ifCond .eq 29, 3) := by decide +kernel
theorem dX7_canJoin_16 : decode cX7_canJoin 16 = .ok (.aload_n 0, 1) := by decide +kernel
theorem dX7_canJoin_17 : decode cX7_canJoin 17 = .ok (.iload_n 1, 1) := by decide +kernel
theorem dX7_canJoin_18 : decode cX7_canJoin 18 = .ok (.iconst 1, 1) := by decide +kernel
theorem dX7_canJoin_19 : decode cX7_canJoin 19 = .ok (.aload_n 0, 1) := by decide +kernel
theorem dX7_canJoin_20 : decode cX7_canJoin 20 = .ok (.getfield 7, 3) := by decide +kernel
theorem dX7_canJoin_23 : decode cX7_canJoin 23 = .ok (.iconst 0, 1) := by decide +kernel
theorem dX7_canJoin_24 : decode cX7_canJoin 24 = .ok (.iaload, 1) := by decide +kernel
theorem dX7_canJoin_25 : decode cX7_canJoin 25 = .ok (.ishl, 1) := by decide +kernel
theorem dX7_canJoin_26 : decode cX7_canJoin 26 = .ok (.iconst 1, 1) := by decide +kernel
theorem dX7_canJoin_27 : decode cX7_canJoin 27 = .ok (.isub, 1) := by decide +kernel
theorem dX7_canJoin_28 : decode cX7_canJoin 28 = .ok (.invokevirtual 82, 3) := by decide +kernel
theorem dX7_canJoin_31 : decode cX7_canJoin 31 = .ok (.iload_n 2, 1) := by decide +kernel
theorem dX7_canJoin_32 : decode cX7_canJoin 32 = .ok (.ishr, 1) := by decide +kernel
theorem dX7_canJoin_33 : decode cX7_canJoin 33 = .ok (.iconst 1, 1) := by decide +kernel
theorem dX7_canJoin_34 : decode cX7_canJoin 34 = .ok (.iand, 1) := by decide +kernel
theorem dX7_canJoin_35 : decode cX7_canJoin 35 = .ok (.ifCond .ne 7, 3) := by decide +kernel
theorem dX7_canJoin_38 : decode cX7_canJoin 38 = .ok (.iconst 1, 1) := by decide +kernel
theorem dX7_canJoin_39 : decode cX7_canJoin 39 = .ok (.goto 4, 3) := by decide +kernel
theorem dX7_canJoin_42 : decode cX7_canJoin 42 = .ok (.iconst 0, 1) := by decide +kernel
theorem dX7_canJoin_43 : decode cX7_canJoin 43 = .ok (.ireturn, 1) := by decide +kernel
theorem dX7_join_0 : decode cX7_join 0 = .ok (.aload_n 0, 1) := by decide +kernel
theorem dX7_join_1 : decode cX7_join 1 = .ok (.iload_n 1, 1) := by decide +kernel
theorem dX7_join_2 : decode cX7_join 2 = .ok (.invokevirtual 117, 3) := by decide +kernel
theorem dX7_join_5 : decode cX7_join 5 = .ok (.ifCond .eq 15, 3) := by decide +kernel
theorem dX7_join_8 : decode cX7_join 8 = .ok (.aload_n 0, 1) := by decide +kernel
theorem dX7_join_9 : decode cX7_join 9 = .ok (.iload_n 2, 1) := by decide +kernel
theorem dX7_join_10 : decode cX7_join 10 = .ok (.invokevirtual 117, 3) := by decide +kernel
theorem dX7_join_13 : decode cX7_join 13 = .ok (.ifCond .eq 7, 3) := by decide +kernel
theorem dX7_join_16 : decode cX7_join 16 = .ok (.iconst 1, 1) := by decide +kernel
theorem dX7_join_17 : decode cX7_join 17 = .ok (.goto 4, 3) := by decide +kernel
theorem dX7_join_20 : decode cX7_join 20 = .ok (.iconst 0, 1) := by decide +kernel
theorem dX7_join_21 : decode cX7_join 21 = .ok (.istore_n 3, 1) := by decide +kernel
theorem dX7_join_22 : decode cX7_join 22 = .ok (.aload_n 0, 1) := by decide +kernel
theorem dX7_join_23 : decode cX7_join 23 = .ok (.iload_n 3, 1) := by decide +kernel
theorem dX7_join_24 : decode cX7_join 24 = .ok (.iload_n 3, 1) := by decide +kernel
theorem dX7_join_25 : decode cX7_join 25 = .ok (.ifCond .eq 16, 3) := by decide +kernel
theorem dX7_join_28 : decode cX7_join 28 = .ok (.aload_n 0, 1) := by decide +kernel
theorem dX7_join_29 : decode cX7_join 29 = .ok (.iload_n 1, 1) := by decide +kernel
theorem dX7_join_30 : decode cX7_join 30 = .ok (.iload_n 2, 1) := by decide +kernel
theorem dX7_join_31 : decode cX7_join 31 = .ok (.invokevirtual 127, 3) := by decide +kernel
theorem dX7_join_34 : decode cX7_join 34 = .ok (.ifCond .eq 7, 3) := by decide +kernel
theorem dX7_join_37 : decode cX7_join 37 = .ok (.iconst 1, 1) := by decide +kernel
theorem dX7_join_38 : decode cX7_join 38 = .ok (.goto 4, 3) := by decide +kernel
theorem dX7_join_41 : decode cX7_join 41 = .ok (.iconst 0, 1) := by decide +kernel
theorem dX7_join_42 : decode cX7_join 42 = .ok (.invokevirtual 120, 3) := by decide +kernel
theorem dX7_join_45 : decode cX7_join 45 = .ok (.ifCond .ne 5, 3) := by decide +kernel
theorem dX7_join_48 : decode cX7_join 48 = .ok (.iconst 0, 1) := by decide +kernel
theorem dX7_join_49 : decode cX7_join 49 = .ok (.ireturn, 1) := by decide +kernel
theorem dX7_join_50 : decode cX7_join 50 = .ok (.aload_n 0, 1) := by decide +kernel
theorem dX7_join_51 : decode cX7_join 51 = .ok (.invokevirtual 124, 3) := by decide +kernel
theorem dX7_join_54 : decode cX7_join 54 = .ok (.aload_n 0, 1) := by decide +kernel
theorem dX7_join_55 : decode cX7_join 55 = .ok (.iload_n 1, 1) := by decide +kernel
theorem dX7_join_56 : decode cX7_join 56 = .ok (.iload_n 2, 1) := by decide +kernel
theorem dX7_join_57 : decode cX7_join 57 = .ok (.iconst 1, 1) := by decide +kernel
theorem dX7_join_58 : decode cX7_join 58 = .ok (.invokevirtual 100, 3) := by decide +kernel
theorem dX7_join_61 : decode cX7_join 61 = .ok (.aload_n 0, 1) := by decide +kernel
theorem dX7_join_62 : decode cX7_join 62 = .ok (.invokevirtual 130, 3) := by decide +kernel
theorem dX7_join_65 : decode cX7_join 65 = .ok (.aload_n 0, 1) := by decide +kernel
theorem dX7_join_66 : decode cX7_join 66 = .ok (.getfield 76, 3) := by decide +kernel
theorem dX7_join_69 : decode cX7_join 69 = .ok (.ireturn, 1) := by decide +kernel
theorem dX7_cut_0 : decode cX7_cut 0 = .ok (.aload_n 0, 1) := by decide +kernel
theorem dX7_cut_1 : decode cX7_cut 1 = .ok (.iload_n 1, 1) := by decide +kernel
theorem dX7_cut_2 : decode cX7_cut 2 = .ok (.invokevirtual 117, 3) := by decide +kernel
theorem dX7_cut_5 : decode cX7_cut 5 = .ok (.ifCond .eq 15, 3) := by decide +kernel
theorem dX7_cut_8 : decode cX7_cut 8 = .ok (.aload_n 0, 1) := by decide +kernel
theorem dX7_cut_9 : decode cX7_cut 9 = .ok (.iload_n 2, 1) := by decide +kernel
theorem dX7_cut_10 : decode cX7_cut 10 = .ok (.invokevirtual 117, 3) := by decide +kernel
theorem dX7_cut_13 : decode cX7_cut 13 = .ok (.ifCond .eq 7, 3) := by decide +kernel
theorem dX7_cut_16 : decode cX7_cut 16 = .ok (.iconst 1, 1) := by decide +kernel
theorem dX7_cut_17 : decode cX7_cut 17 = .ok (.goto 4, 3) := by decide +kernel
theorem dX7_cut_20 : decode cX7_cut 20 = .ok (.iconst 0, 1) := by decide +kernel
theorem dX7_cut_21 : decode cX7_cut 21 = .ok (.istore_n 3, 1) := by decide +kernel
theorem dX7_cut_22 : decode cX7_cut 22 = .ok (.aload_n 0, 1) := by decide +kernel
theorem dX7_cut_23 : decode cX7_cut 23 = .ok (.iload_n 3, 1) := by decide +kernel
theorem dX7_cut_24 : decode cX7_cut 24 = .ok (.iload_n 3, 1) := by decide +kernel
theorem dX7_cut_25 : decode cX7_cut 25 = .ok (.ifCond .eq 16, 3) := by decide +kernel
theorem dX7_cut_28 : decode cX7_cut 28 = .ok (.aload_n 0, 1) := by decide +kernel
theorem dX7_cut_29 : decode cX7_cut 29 = .ok (.iload_n 1, 1) := by decide +kernel
theorem dX7_cut_30 : decode cX7_cut 30 = .ok (.iload_n 2, 1) := by decide +kernel
theorem dX7_cut_31 : decode cX7_cut 31 = .ok (.invokevirtual 107, 3) := by decide +kernel
theorem dX7_cut_34 : decode cX7_cut 34 = .ok (.ifCond .eq 7, 3) := by decide +kernel
theorem dX7_cut_37 : decode cX7_cut 37 = .ok (.iconst 1, 1) := by decide +kernel
theorem dX7_cut_38 : decode cX7_cut 38 = .ok (.goto 4, 3) := by decide +kernel
theorem dX7_cut_41 : decode cX7_cut 41 = .ok (.iconst 0, 1) := by decide +kernel
theorem dX7_cut_42 : decode cX7_cut 42 = .ok (.invokevirtual 120, 3) := by decide +kernel
theorem dX7_cut_45 : decode cX7_cut 45 = .ok (.ifCond .ne 5, 3) := by decide +kernel
theorem dX7_cut_48 : decode cX7_cut 48 = .ok (.iconst 0, 1) := by decide +kernel
theorem dX7_cut_49 : decode cX7_cut 49 = .ok (.ireturn, 1) := by decide +kernel
theorem dX7_cut_50 : decode cX7_cut 50 = .ok (.aload_n 0, 1) := by decide +kernel
theorem dX7_cut_51 : decode cX7_cut 51 = .ok (.invokevirtual 124, 3) := by decide +kernel
theorem dX7_cut_54 : decode cX7_cut 54 = .ok (.aload_n 0, 1) := by decide +kernel
theorem dX7_cut_55 : decode cX7_cut 55 = .ok (.iload_n 1, 1) := by decide +kernel
theorem dX7_cut_56 : decode cX7_cut 56 = .ok (.iload_n 2, 1) := by decide +kernel
theorem dX7_cut_57 : decode cX7_cut 57 = .ok (.invokevirtual 111, 3) := by decide +kernel
theorem dX7_cut_60 : decode cX7_cut 60 = .ok (.istore 4, 2) := by decide +kernel
theorem dX7_cut_62 : decode cX7_cut 62 = .ok (.aload_n 0, 1) := by decide +kernel
theorem dX7_cut_63 : decode cX7_cut 63 = .ok (.iload_n 1, 1) := by decide +kernel
theorem dX7_cut_64 : decode cX7_cut 64 = .ok (.iload_n 2, 1) := by decide +kernel
theorem dX7_cut_65 : decode cX7_cut 65 = .ok (.iconst 0, 1) := by decide +kernel
theorem dX7_cut_66 : decode cX7_cut 66 = .ok (.invokevirtual 100, 3) := by decide +kernel
theorem dX7_cut_69 : decode cX7_cut 69 = .ok (.iload 4, 2) := by decide +kernel
theorem dX7_cut_71 : decode cX7_cut 71 = .ok (.ifCond .eq 7, 3) := by decide +kernel
theorem dX7_cut_74 : decode cX7_cut 74 = .ok (.iconst 1, 1) := by decide +kernel
theorem dX7_cut_75 : decode cX7_cut 75 = .ok (.goto 4, 3) := by decide +kernel
theorem dX7_cut_78 : decode cX7_cut 78 = .ok (.iconst 0, 1) := by decide +kernel
theorem dX7_cut_79 : decode cX7_cut 79 = .ok (.ireturn, 1) := by decide +kernel
theorem dX7_taken_0 : decode cX7_taken 0 = .ok (.aload_n 0, 1) := by decide +kernel
theorem dX7_taken_1 : decode cX7_taken 1 = .ok (.getfield 7, 3) := by decide +kernel
theorem dX7_taken_4 : decode cX7_taken 4 = .ok (.iconst 1, 1) := by decide +kernel
theorem dX7_taken_5 : decode cX7_taken 5 = .ok (.iaload, 1) := by decide +kernel
theorem dX7_taken_6 : decode cX7_taken 6 = .ok (.iconst 1, 1) := by decide +kernel
theorem dX7_taken_7 : decode cX7_taken 7 = .ok (.iload_n 1, 1) := by decide +kernel
theorem dX7_taken_8 : decode cX7_taken 8 = .ok (.ishl, 1) := by decide +kernel
theorem dX7_taken_9 : decode cX7_taken 9 = .ok (.aload_n 0, 1) := by decide +kernel
theorem dX7_taken_10 : decode cX7_taken 10 = .ok (.getfield 7, 3) := by decide +kernel
theorem dX7_taken_13 : decode cX7_taken 13 = .ok (.iconst 4, 1) := by decide +kernel
theorem dX7_taken_14 : decode cX7_taken 14 = .ok (.iload_n 1, 1) := by decide +kernel
theorem dX7_taken_15 : decode cX7_taken 15 = .ok (.iadd, 1) := by decide +kernel
theorem dX7_taken_16 : decode cX7_taken 16 = .ok (.iaload, 1) := by decide +kernel
theorem dX7_taken_17 : decode cX7_taken 17 = .ok (.ior, 1) := by decide +kernel
theorem dX7_taken_18 : decode cX7_taken 18 = .ok (.iand, 1) := by decide +kernel
theorem dX7_taken_19 : decode cX7_taken 19 = .ok (.istore_n 2, 1) := by decide +kernel
theorem dX7_taken_20 : decode cX7_taken 20 = .ok (.aload_n 0, 1) := by decide +kernel
theorem dX7_taken_21 : decode cX7_taken 21 = .ok (.getfield 7, 3) := by decide +kernel
theorem dX7_taken_24 : decode cX7_taken 24 = .ok (.iconst 1, 1) := by decide +kernel
theorem dX7_taken_25 : decode cX7_taken 25 = .ok (.dup2, 1) := by decide +kernel
theorem dX7_taken_26 : decode cX7_taken 26 = .ok (.iaload, 1) := by decide +kernel
theorem dX7_taken_27 : decode cX7_taken 27 = .ok (.iload_n 2, 1) := by decide +kernel
theorem dX7_taken_28 : decode cX7_taken 28 = .ok (.iconst (-1), 1) := by decide +kernel
theorem dX7_taken_29 : decode cX7_taken 29 = .ok (.ixor, 1) := by decide +kernel
theorem dX7_taken_30 : decode cX7_taken 30 = .ok (.iand, 1) := by decide +kernel
theorem dX7_taken_31 : decode cX7_taken 31 = .ok (.iastore, 1) := by decide +kernel
theorem dX7_taken_32 : decode cX7_taken 32 = .ok (.aload_n 0, 1) := by decide +kernel
theorem dX7_taken_33 : decode cX7_taken 33 = .ok (.getfield 7, 3) := by decide +kernel
theorem dX7_taken_36 : decode cX7_taken 36 = .ok (.iconst 2, 1) := by decide +kernel
theorem dX7_taken_37 : decode cX7_taken 37 = .ok (.iconst 1, 1) := by decide +kernel
theorem dX7_taken_38 : decode cX7_taken 38 = .ok (.aload_n 0, 1) := by decide +kernel
theorem dX7_taken_39 : decode cX7_taken 39 = .ok (.getfield 7, 3) := by decide +kernel
theorem dX7_taken_42 : decode cX7_taken 42 = .ok (.iconst 2, 1) := by decide +kernel
theorem dX7_taken_43 : decode cX7_taken 43 = .ok (.iaload, 1) := by decide +kernel
theorem dX7_taken_44 : decode cX7_taken 44 = .ok (.isub, 1) := by decide +kernel
theorem dX7_taken_45 : decode cX7_taken 45 = .ok (.iastore, 1) := by decide +kernel
theorem dX7_taken_46 : decode cX7_taken 46 = .ok (.aload_n 0, 1) := by decide +kernel
theorem dX7_taken_47 : decode cX7_taken 47 = .ok (.getfield 7, 3) := by decide +kernel
theorem dX7_taken_50 : decode cX7_taken 50 = .ok (.iconst 3, 1) := by decide +kernel
theorem dX7_taken_51 : decode cX7_taken 51 = .ok (.dup2, 1) := by decide +kernel
theorem dX7_taken_52 : decode cX7_taken 52 = .ok (.iaload, 1) := by decide +kernel
theorem dX7_taken_53 : decode cX7_taken 53 = .ok (.iconst 1, 1) := by decide +kernel
theorem dX7_taken_54 : decode cX7_taken 54 = .ok (.iadd, 1) := by decide +kernel
theorem dX7_taken_55 : decode cX7_taken 55 = .ok (.iastore, 1) := by decide +kernel
theorem dX7_taken_56 : decode cX7_taken 56 = .ok (.iload_n 2, 1) := by decide +kernel
theorem dX7_taken_57 : decode cX7_taken 57 = .ok (.invokestatic 104, 3) := by decide +kernel
theorem dX7_taken_60 : decode cX7_taken 60 = .ok (.ireturn, 1) := by decide +kernel
theorem dX7_take_0 : decode cX7_take 0 = .ok (.aload_n 0, 1) := by decide +kernel
theorem dX7_take_1 : decode cX7_take 1 = .ok (.iload_n 1, 1) := by decide +kernel
theorem dX7_take_2 : decode cX7_take 2 = .ok (.invokevirtual 117, 3) := by decide +kernel
theorem dX7_take_5 : decode cX7_take 5 = .ok (.istore_n 2, 1) := by decide +kernel
theorem dX7_take_6 : decode cX7_take 6 = .ok (.aload_n 0, 1) := by decide +kernel
theorem dX7_take_7 : decode cX7_take 7 = .ok (.iload_n 2, 1) := by decide +kernel
theorem dX7_take_8 : decode cX7_take 8 = .ok (.iload_n 2, 1) := by decide +kernel
theorem dX7_take_9 : decode cX7_take 9 = .ok (.ifCond .eq 15, 3) := by decide +kernel
theorem dX7_take_12 : decode cX7_take 12 = .ok (.aload_n 0, 1) := by decide +kernel
theorem dX7_take_13 : decode cX7_take 13 = .ok (.iload_n 1, 1) := by decide +kernel
theorem dX7_take_14 : decode cX7_take 14 = .ok (.invokevirtual 96, 3) := by decide +kernel
theorem dX7_take_17 : decode cX7_take 17 = .ok (.ifCond .eq 7, 3) := by decide +kernel
theorem dX7_take_20 : decode cX7_take 20 = .ok (.iconst 1, 1) := by decide +kernel
theorem dX7_take_21 : decode cX7_take 21 = .ok (.goto 4, 3) := by decide +kernel
theorem dX7_take_24 : decode cX7_take 24 = .ok (.iconst 0, 1) := by decide +kernel
theorem dX7_take_25 : decode cX7_take 25 = .ok (.invokevirtual 120, 3) := by decide +kernel
theorem dX7_take_28 : decode cX7_take 28 = .ok (.ifCond .ne 5, 3) := by decide +kernel
theorem dX7_take_31 : decode cX7_take 31 = .ok (.iconst 0, 1) := by decide +kernel
theorem dX7_take_32 : decode cX7_take 32 = .ok (.ireturn, 1) := by decide +kernel
theorem dX7_take_33 : decode cX7_take 33 = .ok (.aload_n 0, 1) := by decide +kernel
theorem dX7_take_34 : decode cX7_take 34 = .ok (.invokevirtual 124, 3) := by decide +kernel
theorem dX7_take_37 : decode cX7_take 37 = .ok (.aload_n 0, 1) := by decide +kernel
theorem dX7_take_38 : decode cX7_take 38 = .ok (.iload_n 1, 1) := by decide +kernel
theorem dX7_take_39 : decode cX7_take 39 = .ok (.invokevirtual 133, 3) := by decide +kernel
theorem dX7_take_42 : decode cX7_take 42 = .ok (.ireturn, 1) := by decide +kernel
theorem dX7_behind_0 : decode cX7_behind 0 = .ok (.aload_n 0, 1) := by decide +kernel
theorem dX7_behind_1 : decode cX7_behind 1 = .ok (.getfield 7, 3) := by decide +kernel
theorem dX7_behind_4 : decode cX7_behind 4 = .ok (.iconst 1, 1) := by decide +kernel
theorem dX7_behind_5 : decode cX7_behind 5 = .ok (.iaload, 1) := by decide +kernel
theorem dX7_behind_6 : decode cX7_behind 6 = .ok (.iconst 1, 1) := by decide +kernel
theorem dX7_behind_7 : decode cX7_behind 7 = .ok (.iload_n 1, 1) := by decide +kernel
theorem dX7_behind_8 : decode cX7_behind 8 = .ok (.ishl, 1) := by decide +kernel
theorem dX7_behind_9 : decode cX7_behind 9 = .ok (.aload_n 0, 1) := by decide +kernel
theorem dX7_behind_10 : decode cX7_behind 10 = .ok (.getfield 7, 3) := by decide +kernel
theorem dX7_behind_13 : decode cX7_behind 13 = .ok (.iconst 4, 1) := by decide +kernel
theorem dX7_behind_14 : decode cX7_behind 14 = .ok (.iload_n 1, 1) := by decide +kernel
theorem dX7_behind_15 : decode cX7_behind 15 = .ok (.iadd, 1) := by decide +kernel
theorem dX7_behind_16 : decode cX7_behind 16 = .ok (.iaload, 1) := by decide +kernel
theorem dX7_behind_17 : decode cX7_behind 17 = .ok (.ior, 1) := by decide +kernel
theorem dX7_behind_18 : decode cX7_behind 18 = .ok (.iconst (-1), 1) := by decide +kernel
theorem dX7_behind_19 : decode cX7_behind 19 = .ok (.ixor, 1) := by decide +kernel
theorem dX7_behind_20 : decode cX7_behind 20 = .ok (.iand, 1) := by decide +kernel
theorem dX7_behind_21 : decode cX7_behind 21 = .ok (.ireturn, 1) := by decide +kernel
theorem dX7_winning_0 : decode cX7_winning 0 = .ok (.iconst 0, 1) := by decide +kernel
theorem dX7_winning_1 : decode cX7_winning 1 = .ok (.istore_n 2, 1) := by decide +kernel
theorem dX7_winning_2 : decode cX7_winning 2 = .ok (.iconst (-1), 1) := by decide +kernel
theorem dX7_winning_3 : decode cX7_winning 3 = .ok (.istore_n 3, 1) := by decide +kernel
theorem dX7_winning_4 : decode cX7_winning 4 = .ok (.aload_n 0, 1) := by decide +kernel
theorem dX7_winning_5 : decode cX7_winning 5 = .ok (.getfield 7, 3) := by decide +kernel
theorem dX7_winning_8 : decode cX7_winning 8 = .ok (.iconst 0, 1) := by decide +kernel
theorem dX7_winning_9 : decode cX7_winning 9 = .ok (.iaload, 1) := by decide +kernel
theorem dX7_winning_10 : decode cX7_winning 10 = .ok (.iconst 1, 1) := by decide +kernel
theorem dX7_winning_11 : decode cX7_winning 11 = .ok (.isub, 1) := by decide +kernel
theorem dX7_winning_12 : decode cX7_winning 12 = .ok (.istore 4, 2) := by decide +kernel
theorem dX7_winning_14 : decode cX7_winning 14 = .ok (.iload 4, 2) := by decide +kernel
theorem dX7_winning_16 : decode cX7_winning 16 = .ok (.ifCond .lt 37, 3) := by decide +kernel
theorem dX7_winning_19 : decode cX7_winning 19 = .ok (.aload_n 0, 1) := by decide +kernel
theorem dX7_winning_20 : decode cX7_winning 20 = .ok (.iload 4, 2) := by decide +kernel
theorem dX7_winning_22 : decode cX7_winning 22 = .ok (.invokevirtual 96, 3) := by decide +kernel
theorem dX7_winning_25 : decode cX7_winning 25 = .ok (.ifCond .eq 22, 3) := by decide +kernel
theorem dX7_winning_28 : decode cX7_winning 28 = .ok (.aload_n 0, 1) := by decide +kernel
theorem dX7_winning_29 : decode cX7_winning 29 = .ok (.aload_n 0, 1) := by decide +kernel
theorem dX7_winning_30 : decode cX7_winning 30 = .ok (.iload 4, 2) := by decide +kernel
theorem dX7_winning_32 : decode cX7_winning 32 = .ok (.invokevirtual 136, 3) := by decide +kernel
theorem dX7_winning_35 : decode cX7_winning 35 = .ok (.invokevirtual 139, 3) := by decide +kernel
theorem dX7_winning_38 : decode cX7_winning 38 = .ok (.ifCond .ne 9, 3) := by decide +kernel
theorem dX7_winning_41 : decode cX7_winning 41 = .ok (.iinc 2 1, 3) := by decide +kernel
theorem dX7_winning_44 : decode cX7_winning 44 = .ok (.iload 4, 2) := by decide +kernel
theorem dX7_winning_46 : decode cX7_winning 46 = .ok (.istore_n 3, 1) := by decide +kernel
theorem dX7_winning_47 : decode cX7_winning 47 = .ok (.iinc 4 (-1), 3) := by decide +kernel
theorem dX7_winning_50 : decode cX7_winning 50 = .ok (.goto (-36), 3) := by decide +kernel
theorem dX7_winning_53 : decode cX7_winning 53 = .ok (.iload_n 1, 1) := by decide +kernel
theorem dX7_winning_54 : decode cX7_winning 54 = .ok (.ifCond .eq 7, 3) := by decide +kernel
theorem dX7_winning_57 : decode cX7_winning 57 = .ok (.iload_n 2, 1) := by decide +kernel
theorem dX7_winning_58 : decode cX7_winning 58 = .ok (.goto 4, 3) := by decide +kernel
theorem dX7_winning_61 : decode cX7_winning 61 = .ok (.iload_n 3, 1) := by decide +kernel
theorem dX7_winning_62 : decode cX7_winning 62 = .ok (.ireturn, 1) := by decide +kernel
theorem dX7_reply_0 : decode cX7_reply 0 = .ok (.aload_n 0, 1) := by decide +kernel
theorem dX7_reply_1 : decode cX7_reply 1 = .ok (.aload_n 0, 1) := by decide +kernel
theorem dX7_reply_2 : decode cX7_reply 2 = .ok (.getfield 7, 3) := by decide +kernel
theorem dX7_reply_5 : decode cX7_reply 5 = .ok (.iconst 1, 1) := by decide +kernel
theorem dX7_reply_6 : decode cX7_reply 6 = .ok (.iaload, 1) := by decide +kernel
theorem dX7_reply_7 : decode cX7_reply 7 = .ok (.ifCond .eq 7, 3) := by decide +kernel
theorem dX7_reply_10 : decode cX7_reply 10 = .ok (.iconst 1, 1) := by decide +kernel
theorem dX7_reply_11 : decode cX7_reply 11 = .ok (.goto 4, 3) := by decide +kernel
theorem dX7_reply_14 : decode cX7_reply 14 = .ok (.iconst 0, 1) := by decide +kernel
theorem dX7_reply_15 : decode cX7_reply 15 = .ok (.iconst 1, 1) := by decide +kernel
theorem dX7_reply_16 : decode cX7_reply 16 = .ok (.invokevirtual 120, 3) := by decide +kernel
theorem dX7_reply_19 : decode cX7_reply 19 = .ok (.ifCond .ne 5, 3) := by decide +kernel
theorem dX7_reply_22 : decode cX7_reply 22 = .ok (.iconst 0, 1) := by decide +kernel
theorem dX7_reply_23 : decode cX7_reply 23 = .ok (.ireturn, 1) := by decide +kernel
theorem dX7_reply_24 : decode cX7_reply 24 = .ok (.aload_n 0, 1) := by decide +kernel
theorem dX7_reply_25 : decode cX7_reply 25 = .ok (.invokevirtual 124, 3) := by decide +kernel
theorem dX7_reply_28 : decode cX7_reply 28 = .ok (.aload_n 0, 1) := by decide +kernel
theorem dX7_reply_29 : decode cX7_reply 29 = .ok (.iconst 0, 1) := by decide +kernel
theorem dX7_reply_30 : decode cX7_reply 30 = .ok (.invokevirtual 142, 3) := by decide +kernel
theorem dX7_reply_33 : decode cX7_reply 33 = .ok (.istore_n 1, 1) := by decide +kernel
theorem dX7_reply_34 : decode cX7_reply 34 = .ok (.iload_n 1, 1) := by decide +kernel
theorem dX7_reply_35 : decode cX7_reply 35 = .ok (.ifCond .ge 15, 3) := by decide +kernel
theorem dX7_reply_38 : decode cX7_reply 38 = .ok (.aload_n 0, 1) := by decide +kernel
theorem dX7_reply_39 : decode cX7_reply 39 = .ok (.getfield 7, 3) := by decide +kernel
theorem dX7_reply_42 : decode cX7_reply 42 = .ok (.iconst 1, 1) := by decide +kernel
theorem dX7_reply_43 : decode cX7_reply 43 = .ok (.iaload, 1) := by decide +kernel
theorem dX7_reply_44 : decode cX7_reply 44 = .ok (.invokestatic 79, 3) := by decide +kernel
theorem dX7_reply_47 : decode cX7_reply 47 = .ok (.goto 4, 3) := by decide +kernel
theorem dX7_reply_50 : decode cX7_reply 50 = .ok (.iload_n 1, 1) := by decide +kernel
theorem dX7_reply_51 : decode cX7_reply 51 = .ok (.istore_n 1, 1) := by decide +kernel
theorem dX7_reply_52 : decode cX7_reply 52 = .ok (.aload_n 0, 1) := by decide +kernel
theorem dX7_reply_53 : decode cX7_reply 53 = .ok (.iload_n 1, 1) := by decide +kernel
theorem dX7_reply_54 : decode cX7_reply 54 = .ok (.invokevirtual 133, 3) := by decide +kernel
theorem dX7_reply_57 : decode cX7_reply 57 = .ok (.ifCond .le 7, 3) := by decide +kernel
theorem dX7_reply_60 : decode cX7_reply 60 = .ok (.iload_n 1, 1) := by decide +kernel
theorem dX7_reply_61 : decode cX7_reply 61 = .ok (.goto 4, 3) := by decide +kernel
theorem dX7_reply_64 : decode cX7_reply 64 = .ok (.iconst (-1), 1) := by decide +kernel
theorem dX7_reply_65 : decode cX7_reply 65 = .ok (.ireturn, 1) := by decide +kernel
theorem dX7_begins_0 : decode cX7_begins 0 = .ok (.aload_n 0, 1) := by decide +kernel
theorem dX7_begins_1 : decode cX7_begins 1 = .ok (.getfield 7, 3) := by decide +kernel
theorem dX7_begins_4 : decode cX7_begins 4 = .ok (.iconst 1, 1) := by decide +kernel
theorem dX7_begins_5 : decode cX7_begins 5 = .ok (.iconst 1, 1) := by decide +kernel
theorem dX7_begins_6 : decode cX7_begins 6 = .ok (.aload_n 0, 1) := by decide +kernel
theorem dX7_begins_7 : decode cX7_begins 7 = .ok (.getfield 7, 3) := by decide +kernel
theorem dX7_begins_10 : decode cX7_begins 10 = .ok (.iconst 0, 1) := by decide +kernel
theorem dX7_begins_11 : decode cX7_begins 11 = .ok (.iaload, 1) := by decide +kernel
theorem dX7_begins_12 : decode cX7_begins 12 = .ok (.ishl, 1) := by decide +kernel
theorem dX7_begins_13 : decode cX7_begins 13 = .ok (.iconst 1, 1) := by decide +kernel
theorem dX7_begins_14 : decode cX7_begins 14 = .ok (.isub, 1) := by decide +kernel
theorem dX7_begins_15 : decode cX7_begins 15 = .ok (.iastore, 1) := by decide +kernel
theorem dX7_begins_16 : decode cX7_begins 16 = .ok (.aload_n 0, 1) := by decide +kernel
theorem dX7_begins_17 : decode cX7_begins 17 = .ok (.getfield 7, 3) := by decide +kernel
theorem dX7_begins_20 : decode cX7_begins 20 = .ok (.iconst 2, 1) := by decide +kernel
theorem dX7_begins_21 : decode cX7_begins 21 = .ok (.iconst 0, 1) := by decide +kernel
theorem dX7_begins_22 : decode cX7_begins 22 = .ok (.iastore, 1) := by decide +kernel
theorem dX7_begins_23 : decode cX7_begins 23 = .ok (.aload_n 0, 1) := by decide +kernel
theorem dX7_begins_24 : decode cX7_begins 24 = .ok (.getfield 7, 3) := by decide +kernel
theorem dX7_begins_27 : decode cX7_begins 27 = .ok (.iconst 3, 1) := by decide +kernel
theorem dX7_begins_28 : decode cX7_begins 28 = .ok (.iconst 0, 1) := by decide +kernel
theorem dX7_begins_29 : decode cX7_begins 29 = .ok (.iastore, 1) := by decide +kernel
theorem dX7_begins_30 : decode cX7_begins 30 = .ok (.return_, 1) := by decide +kernel
theorem dX7_again_0 : decode cX7_again 0 = .ok (.aload_n 0, 1) := by decide +kernel
theorem dX7_again_1 : decode cX7_again 1 = .ok (.iconst 0, 1) := by decide +kernel
theorem dX7_again_2 : decode cX7_again 2 = .ok (.putfield 43, 3) := by decide +kernel
theorem dX7_again_5 : decode cX7_again 5 = .ok (.aload_n 0, 1) := by decide +kernel
theorem dX7_again_6 : decode cX7_again 6 = .ok (.invokevirtual 124, 3) := by decide +kernel
theorem dX7_again_9 : decode cX7_again 9 = .ok (.aload_n 0, 1) := by decide +kernel
theorem dX7_again_10 : decode cX7_again 10 = .ok (.getfield 7, 3) := by decide +kernel
theorem dX7_again_13 : decode cX7_again 13 = .ok (.iconst 0, 1) := by decide +kernel
theorem dX7_again_14 : decode cX7_again 14 = .ok (.iaload, 1) := by decide +kernel
theorem dX7_again_15 : decode cX7_again 15 = .ok (.aload_n 0, 1) := by decide +kernel
theorem dX7_again_16 : decode cX7_again 16 = .ok (.getfield 7, 3) := by decide +kernel
theorem dX7_again_19 : decode cX7_again 19 = .ok (.iconst 1, 1) := by decide +kernel
theorem dX7_again_20 : decode cX7_again 20 = .ok (.iaload, 1) := by decide +kernel
theorem dX7_again_21 : decode cX7_again 21 = .ok (.invokestatic 104, 3) := by decide +kernel
theorem dX7_again_24 : decode cX7_again 24 = .ok (.isub, 1) := by decide +kernel
theorem dX7_again_25 : decode cX7_again 25 = .ok (.istore_n 1, 1) := by decide +kernel
theorem dX7_again_26 : decode cX7_again 26 = .ok (.aload_n 0, 1) := by decide +kernel
theorem dX7_again_27 : decode cX7_again 27 = .ok (.invokevirtual 146, 3) := by decide +kernel
theorem dX7_again_30 : decode cX7_again 30 = .ok (.iload_n 1, 1) := by decide +kernel
theorem dX7_again_31 : decode cX7_again 31 = .ok (.ireturn, 1) := by decide +kernel
theorem dX7_append_0 : decode cX7_append 0 = .ok (.aload_n 0, 1) := by decide +kernel
theorem dX7_append_1 : decode cX7_append 1 = .ok (.iload_n 1, 1) := by decide +kernel
theorem dX7_append_2 : decode cX7_append 2 = .ok (.bipush 33, 2) := by decide +kernel
theorem dX7_append_4 : decode cX7_append 4 = .ok (.bipush 126, 2) := by decide +kernel
theorem dX7_append_6 : decode cX7_append 6 = .ok (.invokestatic 58, 3) := by decide +kernel
theorem dX7_append_9 : decode cX7_append 9 = .ok (.aload_n 0, 1) := by decide +kernel
theorem dX7_append_10 : decode cX7_append 10 = .ok (.getfield 149, 3) := by decide +kernel
theorem dX7_append_13 : decode cX7_append 13 = .ok (.bipush 14, 2) := by decide +kernel
theorem dX7_append_15 : decode cX7_append 15 = .ok (.if_icmp .ge 7, 3) := by decide +kernel
theorem dX7_append_18 : decode cX7_append 18 = .ok (.iconst 1, 1) := by decide +kernel
theorem dX7_append_19 : decode cX7_append 19 = .ok (.goto 4, 3) := by decide +kernel
theorem dX7_append_22 : decode cX7_append 22 = .ok (.iconst 0, 1) := by decide +kernel
theorem dX7_append_23 : decode cX7_append 23 = .ok (.invokevirtual 120, 3) := by decide +kernel
theorem dX7_append_26 : decode cX7_append 26 = .ok (.ifCond .ne 5, 3) := by decide +kernel
theorem dX7_append_29 : decode cX7_append 29 = .ok (.iconst 0, 1) := by decide +kernel
theorem dX7_append_30 : decode cX7_append 30 = .ok (.ireturn, 1) := by decide +kernel
theorem dX7_append_31 : decode cX7_append 31 = .ok (.aload_n 0, 1) := by decide +kernel
theorem dX7_append_32 : decode cX7_append 32 = .ok (.getfield 17, 3) := by decide +kernel
theorem dX7_append_35 : decode cX7_append 35 = .ok (.aload_n 0, 1) := by decide +kernel
theorem dX7_append_36 : decode cX7_append 36 = .ok (.getfield 149, 3) := by decide +kernel
theorem dX7_append_39 : decode cX7_append 39 = .ok (.iload_n 1, 1) := by decide +kernel
theorem dX7_append_40 : decode cX7_append 40 = .ok (.i2c, 1) := by decide +kernel
theorem dX7_append_41 : decode cX7_append 41 = .ok (.castore, 1) := by decide +kernel
theorem dX7_append_42 : decode cX7_append 42 = .ok (.aload_n 0, 1) := by decide +kernel
theorem dX7_append_43 : decode cX7_append 43 = .ok (.dup, 1) := by decide +kernel
theorem dX7_append_44 : decode cX7_append 44 = .ok (.getfield 149, 3) := by decide +kernel
theorem dX7_append_47 : decode cX7_append 47 = .ok (.iconst 1, 1) := by decide +kernel
theorem dX7_append_48 : decode cX7_append 48 = .ok (.iadd, 1) := by decide +kernel
theorem dX7_append_49 : decode cX7_append 49 = .ok (.putfield 149, 3) := by decide +kernel
theorem dX7_append_52 : decode cX7_append 52 = .ok (.aload_n 0, 1) := by decide +kernel
theorem dX7_append_53 : decode cX7_append 53 = .ok (.getfield 149, 3) := by decide +kernel
theorem dX7_append_56 : decode cX7_append 56 = .ok (.ireturn, 1) := by decide +kernel
theorem dX7_clearBuffer_0 : decode cX7_clearBuffer 0 = .ok (.aload_n 0, 1) := by decide +kernel
theorem dX7_clearBuffer_1 : decode cX7_clearBuffer 1 = .ok (.iconst 0, 1) := by decide +kernel
theorem dX7_clearBuffer_2 : decode cX7_clearBuffer 2 = .ok (.putfield 43, 3) := by decide +kernel
theorem dX7_clearBuffer_5 : decode cX7_clearBuffer 5 = .ok (.aload_n 0, 1) := by decide +kernel
theorem dX7_clearBuffer_6 : decode cX7_clearBuffer 6 = .ok (.getfield 149, 3) := by decide +kernel
theorem dX7_clearBuffer_9 : decode cX7_clearBuffer 9 = .ok (.istore_n 1, 1) := by decide +kernel
theorem dX7_clearBuffer_10 : decode cX7_clearBuffer 10 = .ok (.aload_n 0, 1) := by decide +kernel
theorem dX7_clearBuffer_11 : decode cX7_clearBuffer 11 = .ok (.iconst 0, 1) := by decide +kernel
theorem dX7_clearBuffer_12 : decode cX7_clearBuffer 12 = .ok (.putfield 149, 3) := by decide +kernel
theorem dX7_clearBuffer_15 : decode cX7_clearBuffer 15 = .ok (.iload_n 1, 1) := by decide +kernel
theorem dX7_clearBuffer_16 : decode cX7_clearBuffer 16 = .ok (.ireturn, 1) := by decide +kernel
theorem dX7_error_0 : decode cX7_error 0 = .ok (.iconst 0, 1) := by decide +kernel
theorem dX7_error_1 : decode cX7_error 1 = .ok (.istore_n 1, 1) := by decide +kernel
theorem dX7_error_2 : decode cX7_error 2 = .ok (.iload_n 1, 1) := by decide +kernel
theorem dX7_error_3 : decode cX7_error 3 = .ok (.aload_n 0, 1) := by decide +kernel
theorem dX7_error_4 : decode cX7_error 4 = .ok (.getfield 149, 3) := by decide +kernel
theorem dX7_error_7 : decode cX7_error 7 = .ok (.if_icmp .ge 41, 3) := by decide +kernel
theorem dX7_error_10 : decode cX7_error 10 = .ok (.aload_n 0, 1) := by decide +kernel
theorem dX7_error_11 : decode cX7_error 11 = .ok (.getfield 17, 3) := by decide +kernel
theorem dX7_error_14 : decode cX7_error 14 = .ok (.iload_n 1, 1) := by decide +kernel
theorem dX7_error_15 : decode cX7_error 15 = .ok (.caload, 1) := by decide +kernel
theorem dX7_error_16 : decode cX7_error 16 = .ok (.bipush 46, 2) := by decide +kernel
theorem dX7_error_18 : decode cX7_error 18 = .ok (.if_icmp .eq 24, 3) := by decide +kernel
theorem dX7_error_21 : decode cX7_error 21 = .ok (.aload_n 0, 1) := by decide +kernel
theorem dX7_error_22 : decode cX7_error 22 = .ok (.getfield 17, 3) := by decide +kernel
theorem dX7_error_25 : decode cX7_error 25 = .ok (.iload_n 1, 1) := by decide +kernel
theorem dX7_error_26 : decode cX7_error 26 = .ok (.caload, 1) := by decide +kernel
theorem dX7_error_27 : decode cX7_error 27 = .ok (.bipush 97, 2) := by decide +kernel
theorem dX7_error_29 : decode cX7_error 29 = .ok (.isub, 1) := by decide +kernel
theorem dX7_error_30 : decode cX7_error 30 = .ok (.iconst 0, 1) := by decide +kernel
theorem dX7_error_31 : decode cX7_error 31 = .ok (.iload_n 1, 1) := by decide +kernel
theorem dX7_error_32 : decode cX7_error 32 = .ok (.iconst 1, 1) := by decide +kernel
theorem dX7_error_33 : decode cX7_error 33 = .ok (.isub, 1) := by decide +kernel
theorem dX7_error_34 : decode cX7_error 34 = .ok (.invokestatic 58, 3) := by decide +kernel
theorem dX7_error_37 : decode cX7_error 37 = .ok (.ifCond .ne 5, 3) := by decide +kernel
theorem dX7_error_40 : decode cX7_error 40 = .ok (.iload_n 1, 1) := by decide +kernel
theorem dX7_error_41 : decode cX7_error 41 = .ok (.ireturn, 1) := by decide +kernel
theorem dX7_error_42 : decode cX7_error 42 = .ok (.iinc 1 1, 3) := by decide +kernel
theorem dX7_error_45 : decode cX7_error 45 = .ok (.goto (-43), 3) := by decide +kernel
theorem dX7_error_48 : decode cX7_error 48 = .ok (.aload_n 0, 1) := by decide +kernel
theorem dX7_error_49 : decode cX7_error 49 = .ok (.getfield 149, 3) := by decide +kernel
theorem dX7_error_52 : decode cX7_error 52 = .ok (.ireturn, 1) := by decide +kernel
theorem dX7_firstError_0 : decode cX7_firstError 0 = .ok (.aload_n 0, 1) := by decide +kernel
theorem dX7_firstError_1 : decode cX7_firstError 1 = .ok (.iconst 0, 1) := by decide +kernel
theorem dX7_firstError_2 : decode cX7_firstError 2 = .ok (.putfield 43, 3) := by decide +kernel
theorem dX7_firstError_5 : decode cX7_firstError 5 = .ok (.aload_n 0, 1) := by decide +kernel
theorem dX7_firstError_6 : decode cX7_firstError 6 = .ok (.invokevirtual 152, 3) := by decide +kernel
theorem dX7_firstError_9 : decode cX7_firstError 9 = .ok (.ireturn, 1) := by decide +kernel
theorem dX7_load_0 : decode cX7_load 0 = .ok (.aload_n 0, 1) := by decide +kernel
theorem dX7_load_1 : decode cX7_load 1 = .ok (.aload_n 0, 1) := by decide +kernel
theorem dX7_load_2 : decode cX7_load 2 = .ok (.invokevirtual 152, 3) := by decide +kernel
theorem dX7_load_5 : decode cX7_load 5 = .ok (.aload_n 0, 1) := by decide +kernel
theorem dX7_load_6 : decode cX7_load 6 = .ok (.getfield 149, 3) := by decide +kernel
theorem dX7_load_9 : decode cX7_load 9 = .ok (.if_icmp .ne 7, 3) := by decide +kernel
theorem dX7_load_12 : decode cX7_load 12 = .ok (.iconst 1, 1) := by decide +kernel
theorem dX7_load_13 : decode cX7_load 13 = .ok (.goto 4, 3) := by decide +kernel
theorem dX7_load_16 : decode cX7_load 16 = .ok (.iconst 0, 1) := by decide +kernel
theorem dX7_load_17 : decode cX7_load 17 = .ok (.iconst 1, 1) := by decide +kernel
theorem dX7_load_18 : decode cX7_load 18 = .ok (.invokevirtual 120, 3) := by decide +kernel
theorem dX7_load_21 : decode cX7_load 21 = .ok (.ifCond .ne 5, 3) := by decide +kernel
theorem dX7_load_24 : decode cX7_load 24 = .ok (.iconst 0, 1) := by decide +kernel
theorem dX7_load_25 : decode cX7_load 25 = .ok (.ireturn, 1) := by decide +kernel
theorem dX7_load_26 : decode cX7_load 26 = .ok (.aload_n 0, 1) := by decide +kernel
theorem dX7_load_27 : decode cX7_load 27 = .ok (.invokevirtual 124, 3) := by decide +kernel
theorem dX7_load_30 : decode cX7_load 30 = .ok (.aload_n 0, 1) := by decide +kernel
theorem dX7_load_31 : decode cX7_load 31 = .ok (.getfield 7, 3) := by decide +kernel
theorem dX7_load_34 : decode cX7_load 34 = .ok (.iconst 0, 1) := by decide +kernel
theorem dX7_load_35 : decode cX7_load 35 = .ok (.aload_n 0, 1) := by decide +kernel
theorem dX7_load_36 : decode cX7_load 36 = .ok (.getfield 149, 3) := by decide +kernel
theorem dX7_load_39 : decode cX7_load 39 = .ok (.iastore, 1) := by decide +kernel
theorem dX7_load_40 : decode cX7_load 40 = .ok (.iconst 0, 1) := by decide +kernel
theorem dX7_load_41 : decode cX7_load 41 = .ok (.istore_n 1, 1) := by decide +kernel
theorem dX7_load_42 : decode cX7_load 42 = .ok (.iload_n 1, 1) := by decide +kernel
theorem dX7_load_43 : decode cX7_load 43 = .ok (.bipush 14, 2) := by decide +kernel
theorem dX7_load_45 : decode cX7_load 45 = .ok (.if_icmp .ge 18, 3) := by decide +kernel
theorem dX7_load_48 : decode cX7_load 48 = .ok (.aload_n 0, 1) := by decide +kernel
theorem dX7_load_49 : decode cX7_load 49 = .ok (.getfield 7, 3) := by decide +kernel
theorem dX7_load_52 : decode cX7_load 52 = .ok (.iconst 4, 1) := by decide +kernel
theorem dX7_load_53 : decode cX7_load 53 = .ok (.iload_n 1, 1) := by decide +kernel
theorem dX7_load_54 : decode cX7_load 54 = .ok (.iadd, 1) := by decide +kernel
theorem dX7_load_55 : decode cX7_load 55 = .ok (.iconst 0, 1) := by decide +kernel
theorem dX7_load_56 : decode cX7_load 56 = .ok (.iastore, 1) := by decide +kernel
theorem dX7_load_57 : decode cX7_load 57 = .ok (.iinc 1 1, 3) := by decide +kernel
theorem dX7_load_60 : decode cX7_load 60 = .ok (.goto (-18), 3) := by decide +kernel
theorem dX7_load_63 : decode cX7_load 63 = .ok (.iconst 0, 1) := by decide +kernel
theorem dX7_load_64 : decode cX7_load 64 = .ok (.istore_n 1, 1) := by decide +kernel
theorem dX7_load_65 : decode cX7_load 65 = .ok (.iload_n 1, 1) := by decide +kernel
theorem dX7_load_66 : decode cX7_load 66 = .ok (.aload_n 0, 1) := by decide +kernel
theorem dX7_load_67 : decode cX7_load 67 = .ok (.getfield 149, 3) := by decide +kernel
theorem dX7_load_70 : decode cX7_load 70 = .ok (.if_icmp .ge 35, 3) := by decide +kernel
theorem dX7_load_73 : decode cX7_load 73 = .ok (.aload_n 0, 1) := by decide +kernel
theorem dX7_load_74 : decode cX7_load 74 = .ok (.getfield 17, 3) := by decide +kernel
theorem dX7_load_77 : decode cX7_load 77 = .ok (.iload_n 1, 1) := by decide +kernel
theorem dX7_load_78 : decode cX7_load 78 = .ok (.caload, 1) := by decide +kernel
theorem dX7_load_79 : decode cX7_load 79 = .ok (.bipush 46, 2) := by decide +kernel
theorem dX7_load_81 : decode cX7_load 81 = .ok (.if_icmp .eq 18, 3) := by decide +kernel
theorem dX7_load_84 : decode cX7_load 84 = .ok (.aload_n 0, 1) := by decide +kernel
theorem dX7_load_85 : decode cX7_load 85 = .ok (.iload_n 1, 1) := by decide +kernel
theorem dX7_load_86 : decode cX7_load 86 = .ok (.aload_n 0, 1) := by decide +kernel
theorem dX7_load_87 : decode cX7_load 87 = .ok (.getfield 17, 3) := by decide +kernel
theorem dX7_load_90 : decode cX7_load 90 = .ok (.iload_n 1, 1) := by decide +kernel
theorem dX7_load_91 : decode cX7_load 91 = .ok (.caload, 1) := by decide +kernel
theorem dX7_load_92 : decode cX7_load 92 = .ok (.bipush 97, 2) := by decide +kernel
theorem dX7_load_94 : decode cX7_load 94 = .ok (.isub, 1) := by decide +kernel
theorem dX7_load_95 : decode cX7_load 95 = .ok (.iconst 1, 1) := by decide +kernel
theorem dX7_load_96 : decode cX7_load 96 = .ok (.invokevirtual 100, 3) := by decide +kernel
theorem dX7_load_99 : decode cX7_load 99 = .ok (.iinc 1 1, 3) := by decide +kernel
theorem dX7_load_102 : decode cX7_load 102 = .ok (.goto (-37), 3) := by decide +kernel
theorem dX7_load_105 : decode cX7_load 105 = .ok (.aload_n 0, 1) := by decide +kernel
theorem dX7_load_106 : decode cX7_load 106 = .ok (.invokevirtual 146, 3) := by decide +kernel
theorem dX7_load_109 : decode cX7_load 109 = .ok (.aload_n 0, 1) := by decide +kernel
theorem dX7_load_110 : decode cX7_load 110 = .ok (.iconst 0, 1) := by decide +kernel
theorem dX7_load_111 : decode cX7_load 111 = .ok (.putfield 47, 3) := by decide +kernel
theorem dX7_load_114 : decode cX7_load 114 = .ok (.aload_n 0, 1) := by decide +kernel
theorem dX7_load_115 : decode cX7_load 115 = .ok (.iconst 0, 1) := by decide +kernel
theorem dX7_load_116 : decode cX7_load 116 = .ok (.putfield 149, 3) := by decide +kernel
theorem dX7_load_119 : decode cX7_load 119 = .ok (.aload_n 0, 1) := by decide +kernel
theorem dX7_load_120 : decode cX7_load 120 = .ok (.getfield 7, 3) := by decide +kernel
theorem dX7_load_123 : decode cX7_load 123 = .ok (.iconst 0, 1) := by decide +kernel
theorem dX7_load_124 : decode cX7_load 124 = .ok (.iaload, 1) := by decide +kernel
theorem dX7_load_125 : decode cX7_load 125 = .ok (.ireturn, 1) := by decide +kernel
theorem dX7_write_0 : decode cX7_write 0 = .ok (.aload_n 0, 1) := by decide +kernel
theorem dX7_write_1 : decode cX7_write 1 = .ok (.iconst 0, 1) := by decide +kernel
theorem dX7_write_2 : decode cX7_write 2 = .ok (.putfield 43, 3) := by decide +kernel
theorem dX7_write_5 : decode cX7_write 5 = .ok (.iconst 0, 1) := by decide +kernel
theorem dX7_write_6 : decode cX7_write 6 = .ok (.istore_n 1, 1) := by decide +kernel
theorem dX7_write_7 : decode cX7_write 7 = .ok (.iload_n 1, 1) := by decide +kernel
theorem dX7_write_8 : decode cX7_write 8 = .ok (.aload_n 0, 1) := by decide +kernel
theorem dX7_write_9 : decode cX7_write 9 = .ok (.getfield 7, 3) := by decide +kernel
theorem dX7_write_12 : decode cX7_write 12 = .ok (.iconst 0, 1) := by decide +kernel
theorem dX7_write_13 : decode cX7_write 13 = .ok (.iaload, 1) := by decide +kernel
theorem dX7_write_14 : decode cX7_write 14 = .ok (.if_icmp .ge 32, 3) := by decide +kernel
theorem dX7_write_17 : decode cX7_write 17 = .ok (.aload_n 0, 1) := by decide +kernel
theorem dX7_write_18 : decode cX7_write 18 = .ok (.getfield 7, 3) := by decide +kernel
theorem dX7_write_21 : decode cX7_write 21 = .ok (.iconst 4, 1) := by decide +kernel
theorem dX7_write_22 : decode cX7_write 22 = .ok (.iload_n 1, 1) := by decide +kernel
theorem dX7_write_23 : decode cX7_write 23 = .ok (.iadd, 1) := by decide +kernel
theorem dX7_write_24 : decode cX7_write 24 = .ok (.iaload, 1) := by decide +kernel
theorem dX7_write_25 : decode cX7_write 25 = .ok (.iconst 1, 1) := by decide +kernel
theorem dX7_write_26 : decode cX7_write 26 = .ok (.iload_n 1, 1) := by decide +kernel
theorem dX7_write_27 : decode cX7_write 27 = .ok (.ishl, 1) := by decide +kernel
theorem dX7_write_28 : decode cX7_write 28 = .ok (.iconst 1, 1) := by decide +kernel
theorem dX7_write_29 : decode cX7_write 29 = .ok (.isub, 1) := by decide +kernel
theorem dX7_write_30 : decode cX7_write 30 = .ok (.iand, 1) := by decide +kernel
theorem dX7_write_31 : decode cX7_write 31 = .ok (.invokestatic 104, 3) := by decide +kernel
theorem dX7_write_34 : decode cX7_write 34 = .ok (.iconst 1, 1) := by decide +kernel
theorem dX7_write_35 : decode cX7_write 35 = .ok (.if_icmp .le 5, 3) := by decide +kernel
theorem dX7_write_38 : decode cX7_write 38 = .ok (.iconst (-1), 1) := by decide +kernel
theorem dX7_write_39 : decode cX7_write 39 = .ok (.ireturn, 1) := by decide +kernel
theorem dX7_write_40 : decode cX7_write 40 = .ok (.iinc 1 1, 3) := by decide +kernel
theorem dX7_write_43 : decode cX7_write 43 = .ok (.goto (-36), 3) := by decide +kernel
theorem dX7_write_46 : decode cX7_write 46 = .ok (.aload_n 0, 1) := by decide +kernel
theorem dX7_write_47 : decode cX7_write 47 = .ok (.aload_n 0, 1) := by decide +kernel
theorem dX7_write_48 : decode cX7_write 48 = .ok (.getfield 7, 3) := by decide +kernel
theorem dX7_write_51 : decode cX7_write 51 = .ok (.iconst 0, 1) := by decide +kernel
theorem dX7_write_52 : decode cX7_write 52 = .ok (.iaload, 1) := by decide +kernel
theorem dX7_write_53 : decode cX7_write 53 = .ok (.putfield 149, 3) := by decide +kernel
theorem dX7_write_56 : decode cX7_write 56 = .ok (.iconst 0, 1) := by decide +kernel
theorem dX7_write_57 : decode cX7_write 57 = .ok (.istore_n 1, 1) := by decide +kernel
theorem dX7_write_58 : decode cX7_write 58 = .ok (.iload_n 1, 1) := by decide +kernel
theorem dX7_write_59 : decode cX7_write 59 = .ok (.aload_n 0, 1) := by decide +kernel
theorem dX7_write_60 : decode cX7_write 60 = .ok (.getfield 149, 3) := by decide +kernel
theorem dX7_write_63 : decode cX7_write 63 = .ok (.if_icmp .ge 47, 3) := by decide +kernel
theorem dX7_write_66 : decode cX7_write 66 = .ok (.aload_n 0, 1) := by decide +kernel
theorem dX7_write_67 : decode cX7_write 67 = .ok (.getfield 7, 3) := by decide +kernel
theorem dX7_write_70 : decode cX7_write 70 = .ok (.iconst 4, 1) := by decide +kernel
theorem dX7_write_71 : decode cX7_write 71 = .ok (.iload_n 1, 1) := by decide +kernel
theorem dX7_write_72 : decode cX7_write 72 = .ok (.iadd, 1) := by decide +kernel
theorem dX7_write_73 : decode cX7_write 73 = .ok (.iaload, 1) := by decide +kernel
theorem dX7_write_74 : decode cX7_write 74 = .ok (.iconst 1, 1) := by decide +kernel
theorem dX7_write_75 : decode cX7_write 75 = .ok (.iload_n 1, 1) := by decide +kernel
theorem dX7_write_76 : decode cX7_write 76 = .ok (.ishl, 1) := by decide +kernel
theorem dX7_write_77 : decode cX7_write 77 = .ok (.iconst 1, 1) := by decide +kernel
theorem dX7_write_78 : decode cX7_write 78 = .ok (.isub, 1) := by decide +kernel
theorem dX7_write_79 : decode cX7_write 79 = .ok (.iand, 1) := by decide +kernel
theorem dX7_write_80 : decode cX7_write 80 = .ok (.invokestatic 79, 3) := by decide +kernel
theorem dX7_write_83 : decode cX7_write 83 = .ok (.istore_n 2, 1) := by decide +kernel
theorem dX7_write_84 : decode cX7_write 84 = .ok (.aload_n 0, 1) := by decide +kernel
theorem dX7_write_85 : decode cX7_write 85 = .ok (.getfield 17, 3) := by decide +kernel
theorem dX7_write_88 : decode cX7_write 88 = .ok (.iload_n 1, 1) := by decide +kernel
theorem dX7_write_89 : decode cX7_write 89 = .ok (.iload_n 2, 1) := by decide +kernel
theorem dX7_write_90 : decode cX7_write 90 = .ok (.ifCond .ge 8, 3) := by decide +kernel
theorem dX7_write_93 : decode cX7_write 93 = .ok (.bipush 46, 2) := by decide +kernel
theorem dX7_write_95 : decode cX7_write 95 = .ok (.goto 8, 3) := by decide +kernel
theorem dX7_write_98 : decode cX7_write 98 = .ok (.bipush 97, 2) := by decide +kernel
theorem dX7_write_100 : decode cX7_write 100 = .ok (.iload_n 2, 1) := by decide +kernel
theorem dX7_write_101 : decode cX7_write 101 = .ok (.iadd, 1) := by decide +kernel
theorem dX7_write_102 : decode cX7_write 102 = .ok (.i2c, 1) := by decide +kernel
theorem dX7_write_103 : decode cX7_write 103 = .ok (.castore, 1) := by decide +kernel
theorem dX7_write_104 : decode cX7_write 104 = .ok (.iinc 1 1, 3) := by decide +kernel
theorem dX7_write_107 : decode cX7_write 107 = .ok (.goto (-49), 3) := by decide +kernel
theorem dX7_write_110 : decode cX7_write 110 = .ok (.aload_n 0, 1) := by decide +kernel
theorem dX7_write_111 : decode cX7_write 111 = .ok (.getfield 149, 3) := by decide +kernel
theorem dX7_write_114 : decode cX7_write 114 = .ok (.ireturn, 1) := by decide +kernel
theorem dX7_keep_0 : decode cX7_keep 0 = .ok (.aload_n 0, 1) := by decide +kernel
theorem dX7_keep_1 : decode cX7_keep 1 = .ok (.iload_n 1, 1) := by decide +kernel
theorem dX7_keep_2 : decode cX7_keep 2 = .ok (.iconst 0, 1) := by decide +kernel
theorem dX7_keep_3 : decode cX7_keep 3 = .ok (.iconst 1, 1) := by decide +kernel
theorem dX7_keep_4 : decode cX7_keep 4 = .ok (.invokestatic 58, 3) := by decide +kernel
theorem dX7_keep_7 : decode cX7_keep 7 = .ok (.iconst 1, 1) := by decide +kernel
theorem dX7_keep_8 : decode cX7_keep 8 = .ok (.invokevirtual 120, 3) := by decide +kernel
theorem dX7_keep_11 : decode cX7_keep 11 = .ok (.ifCond .ne 5, 3) := by decide +kernel
theorem dX7_keep_14 : decode cX7_keep 14 = .ok (.iconst 0, 1) := by decide +kernel
theorem dX7_keep_15 : decode cX7_keep 15 = .ok (.ireturn, 1) := by decide +kernel
theorem dX7_keep_16 : decode cX7_keep 16 = .ok (.aload_n 0, 1) := by decide +kernel
theorem dX7_keep_17 : decode cX7_keep 17 = .ok (.iconst 0, 1) := by decide +kernel
theorem dX7_keep_18 : decode cX7_keep 18 = .ok (.bipush 7, 2) := by decide +kernel
theorem dX7_keep_20 : decode cX7_keep 20 = .ok (.iload_n 1, 1) := by decide +kernel
theorem dX7_keep_21 : decode cX7_keep 21 = .ok (.iadd, 1) := by decide +kernel
theorem dX7_keep_22 : decode cX7_keep 22 = .ok (.invokevirtual 54, 3) := by decide +kernel
theorem dX7_keep_25 : decode cX7_keep 25 = .ok (.aload_n 0, 1) := by decide +kernel
theorem dX7_keep_26 : decode cX7_keep 26 = .ok (.getfield 13, 3) := by decide +kernel
theorem dX7_keep_29 : decode cX7_keep 29 = .ok (.iload_n 1, 1) := by decide +kernel
theorem dX7_keep_30 : decode cX7_keep 30 = .ok (.iconst 1, 1) := by decide +kernel
theorem dX7_keep_31 : decode cX7_keep 31 = .ok (.bastore, 1) := by decide +kernel
theorem dX7_keep_32 : decode cX7_keep 32 = .ok (.aload_n 0, 1) := by decide +kernel
theorem dX7_keep_33 : decode cX7_keep 33 = .ok (.getfield 7, 3) := by decide +kernel
theorem dX7_keep_36 : decode cX7_keep 36 = .ok (.iconst 1, 1) := by decide +kernel
theorem dX7_keep_37 : decode cX7_keep 37 = .ok (.iaload, 1) := by decide +kernel
theorem dX7_keep_38 : decode cX7_keep 38 = .ok (.invokestatic 104, 3) := by decide +kernel
theorem dX7_keep_41 : decode cX7_keep 41 = .ok (.ireturn, 1) := by decide +kernel
theorem dX7_goBack_0 : decode cX7_goBack 0 = .ok (.aload_n 0, 1) := by decide +kernel
theorem dX7_goBack_1 : decode cX7_goBack 1 = .ok (.iload_n 1, 1) := by decide +kernel
theorem dX7_goBack_2 : decode cX7_goBack 2 = .ok (.iconst 0, 1) := by decide +kernel
theorem dX7_goBack_3 : decode cX7_goBack 3 = .ok (.iconst 1, 1) := by decide +kernel
theorem dX7_goBack_4 : decode cX7_goBack 4 = .ok (.invokestatic 58, 3) := by decide +kernel
theorem dX7_goBack_7 : decode cX7_goBack 7 = .ok (.iload_n 1, 1) := by decide +kernel
theorem dX7_goBack_8 : decode cX7_goBack 8 = .ok (.iconst 0, 1) := by decide +kernel
theorem dX7_goBack_9 : decode cX7_goBack 9 = .ok (.iconst 1, 1) := by decide +kernel
theorem dX7_goBack_10 : decode cX7_goBack 10 = .ok (.invokestatic 58, 3) := by decide +kernel
theorem dX7_goBack_13 : decode cX7_goBack 13 = .ok (.ifCond .eq 16, 3) := by decide +kernel
theorem dX7_goBack_16 : decode cX7_goBack 16 = .ok (.aload_n 0, 1) := by decide +kernel
theorem dX7_goBack_17 : decode cX7_goBack 17 = .ok (.getfield 13, 3) := by decide +kernel
theorem dX7_goBack_20 : decode cX7_goBack 20 = .ok (.iload_n 1, 1) := by decide +kernel
theorem dX7_goBack_21 : decode cX7_goBack 21 = .ok (.baload, 1) := by decide +kernel
theorem dX7_goBack_22 : decode cX7_goBack 22 = .ok (.ifCond .eq 7, 3) := by decide +kernel
theorem dX7_goBack_25 : decode cX7_goBack 25 = .ok (.iconst 1, 1) := by decide +kernel
theorem dX7_goBack_26 : decode cX7_goBack 26 = .ok (.goto 4, 3) := by decide +kernel
theorem dX7_goBack_29 : decode cX7_goBack 29 = .ok (.iconst 0, 1) := by decide +kernel
theorem dX7_goBack_30 : decode cX7_goBack 30 = .ok (.invokevirtual 120, 3) := by decide +kernel
theorem dX7_goBack_33 : decode cX7_goBack 33 = .ok (.ifCond .ne 5, 3) := by decide +kernel
theorem dX7_goBack_36 : decode cX7_goBack 36 = .ok (.iconst 0, 1) := by decide +kernel
theorem dX7_goBack_37 : decode cX7_goBack 37 = .ok (.ireturn, 1) := by decide +kernel
theorem dX7_goBack_38 : decode cX7_goBack 38 = .ok (.aload_n 0, 1) := by decide +kernel
theorem dX7_goBack_39 : decode cX7_goBack 39 = .ok (.invokevirtual 124, 3) := by decide +kernel
theorem dX7_goBack_42 : decode cX7_goBack 42 = .ok (.aload_n 0, 1) := by decide +kernel
theorem dX7_goBack_43 : decode cX7_goBack 43 = .ok (.bipush 7, 2) := by decide +kernel
theorem dX7_goBack_45 : decode cX7_goBack 45 = .ok (.iload_n 1, 1) := by decide +kernel
theorem dX7_goBack_46 : decode cX7_goBack 46 = .ok (.iadd, 1) := by decide +kernel
theorem dX7_goBack_47 : decode cX7_goBack 47 = .ok (.iconst 0, 1) := by decide +kernel
theorem dX7_goBack_48 : decode cX7_goBack 48 = .ok (.invokevirtual 54, 3) := by decide +kernel
theorem dX7_goBack_51 : decode cX7_goBack 51 = .ok (.aload_n 0, 1) := by decide +kernel
theorem dX7_goBack_52 : decode cX7_goBack 52 = .ok (.getfield 7, 3) := by decide +kernel
theorem dX7_goBack_55 : decode cX7_goBack 55 = .ok (.iconst 1, 1) := by decide +kernel
theorem dX7_goBack_56 : decode cX7_goBack 56 = .ok (.iaload, 1) := by decide +kernel
theorem dX7_goBack_57 : decode cX7_goBack 57 = .ok (.invokestatic 104, 3) := by decide +kernel
theorem dX7_goBack_60 : decode cX7_goBack 60 = .ok (.ireturn, 1) := by decide +kernel
theorem dX7_undo_0 : decode cX7_undo 0 = .ok (.aload_n 0, 1) := by decide +kernel
theorem dX7_undo_1 : decode cX7_undo 1 = .ok (.aload_n 0, 1) := by decide +kernel
theorem dX7_undo_2 : decode cX7_undo 2 = .ok (.getfield 51, 3) := by decide +kernel
theorem dX7_undo_5 : decode cX7_undo 5 = .ok (.ifCond .le 7, 3) := by decide +kernel
theorem dX7_undo_8 : decode cX7_undo 8 = .ok (.iconst 1, 1) := by decide +kernel
theorem dX7_undo_9 : decode cX7_undo 9 = .ok (.goto 4, 3) := by decide +kernel
theorem dX7_undo_12 : decode cX7_undo 12 = .ok (.iconst 0, 1) := by decide +kernel
theorem dX7_undo_13 : decode cX7_undo 13 = .ok (.iconst 1, 1) := by decide +kernel
theorem dX7_undo_14 : decode cX7_undo 14 = .ok (.invokevirtual 120, 3) := by decide +kernel
theorem dX7_undo_17 : decode cX7_undo 17 = .ok (.ifCond .ne 5, 3) := by decide +kernel
theorem dX7_undo_20 : decode cX7_undo 20 = .ok (.iconst 0, 1) := by decide +kernel
theorem dX7_undo_21 : decode cX7_undo 21 = .ok (.ireturn, 1) := by decide +kernel
theorem dX7_undo_22 : decode cX7_undo 22 = .ok (.aload_n 0, 1) := by decide +kernel
theorem dX7_undo_23 : decode cX7_undo 23 = .ok (.aload_n 0, 1) := by decide +kernel
theorem dX7_undo_24 : decode cX7_undo 24 = .ok (.getfield 51, 3) := by decide +kernel
theorem dX7_undo_27 : decode cX7_undo 27 = .ok (.iconst 0, 1) := by decide +kernel
theorem dX7_undo_28 : decode cX7_undo 28 = .ok (.invokevirtual 54, 3) := by decide +kernel
theorem dX7_undo_31 : decode cX7_undo 31 = .ok (.aload_n 0, 1) := by decide +kernel
theorem dX7_undo_32 : decode cX7_undo 32 = .ok (.dup, 1) := by decide +kernel
theorem dX7_undo_33 : decode cX7_undo 33 = .ok (.getfield 51, 3) := by decide +kernel
theorem dX7_undo_36 : decode cX7_undo 36 = .ok (.iconst 1, 1) := by decide +kernel
theorem dX7_undo_37 : decode cX7_undo 37 = .ok (.isub, 1) := by decide +kernel
theorem dX7_undo_38 : decode cX7_undo 38 = .ok (.putfield 51, 3) := by decide +kernel
theorem dX7_undo_41 : decode cX7_undo 41 = .ok (.aload_n 0, 1) := by decide +kernel
theorem dX7_undo_42 : decode cX7_undo 42 = .ok (.getfield 51, 3) := by decide +kernel
theorem dX7_undo_45 : decode cX7_undo 45 = .ok (.ireturn, 1) := by decide +kernel
theorem dX7_treeOf_0 : decode cX7_treeOf 0 = .ok (.aload_n 0, 1) := by decide +kernel
theorem dX7_treeOf_1 : decode cX7_treeOf 1 = .ok (.invokevirtual 130, 3) := by decide +kernel
theorem dX7_treeOf_4 : decode cX7_treeOf 4 = .ok (.iconst (-1), 1) := by decide +kernel
theorem dX7_treeOf_5 : decode cX7_treeOf 5 = .ok (.istore_n 2, 1) := by decide +kernel
theorem dX7_treeOf_6 : decode cX7_treeOf 6 = .ok (.iconst 0, 1) := by decide +kernel
theorem dX7_treeOf_7 : decode cX7_treeOf 7 = .ok (.istore_n 3, 1) := by decide +kernel
theorem dX7_treeOf_8 : decode cX7_treeOf 8 = .ok (.iload_n 3, 1) := by decide +kernel
theorem dX7_treeOf_9 : decode cX7_treeOf 9 = .ok (.aload_n 0, 1) := by decide +kernel
theorem dX7_treeOf_10 : decode cX7_treeOf 10 = .ok (.getfield 76, 3) := by decide +kernel
theorem dX7_treeOf_13 : decode cX7_treeOf 13 = .ok (.if_icmp .ge 29, 3) := by decide +kernel
theorem dX7_treeOf_16 : decode cX7_treeOf 16 = .ok (.aload_n 0, 1) := by decide +kernel
theorem dX7_treeOf_17 : decode cX7_treeOf 17 = .ok (.getfield 27, 3) := by decide +kernel
theorem dX7_treeOf_20 : decode cX7_treeOf 20 = .ok (.iload_n 3, 1) := by decide +kernel
theorem dX7_treeOf_21 : decode cX7_treeOf 21 = .ok (.iaload, 1) := by decide +kernel
theorem dX7_treeOf_22 : decode cX7_treeOf 22 = .ok (.iload_n 1, 1) := by decide +kernel
theorem dX7_treeOf_23 : decode cX7_treeOf 23 = .ok (.ishr, 1) := by decide +kernel
theorem dX7_treeOf_24 : decode cX7_treeOf 24 = .ok (.iconst 1, 1) := by decide +kernel
theorem dX7_treeOf_25 : decode cX7_treeOf 25 = .ok (.iand, 1) := by decide +kernel
theorem dX7_treeOf_26 : decode cX7_treeOf 26 = .ok (.iconst 1, 1) := by decide +kernel
theorem dX7_treeOf_27 : decode cX7_treeOf 27 = .ok (.if_icmp .ne 7, 3) := by decide +kernel
theorem dX7_treeOf_30 : decode cX7_treeOf 30 = .ok (.iload_n 3, 1) := by decide +kernel
theorem dX7_treeOf_31 : decode cX7_treeOf 31 = .ok (.goto 4, 3) := by decide +kernel
theorem dX7_treeOf_34 : decode cX7_treeOf 34 = .ok (.iload_n 2, 1) := by decide +kernel
theorem dX7_treeOf_35 : decode cX7_treeOf 35 = .ok (.istore_n 2, 1) := by decide +kernel
theorem dX7_treeOf_36 : decode cX7_treeOf 36 = .ok (.iinc 3 1, 3) := by decide +kernel
theorem dX7_treeOf_39 : decode cX7_treeOf 39 = .ok (.goto (-31), 3) := by decide +kernel
theorem dX7_treeOf_42 : decode cX7_treeOf 42 = .ok (.iload_n 2, 1) := by decide +kernel
theorem dX7_treeOf_43 : decode cX7_treeOf 43 = .ok (.ireturn, 1) := by decide +kernel
theorem dX7_nodes_0 : decode cX7_nodes 0 = .ok (.iload_n 2, 1) := by decide +kernel
theorem dX7_nodes_1 : decode cX7_nodes 1 = .ok (.ifCond .ne 17, 3) := by decide +kernel
theorem dX7_nodes_4 : decode cX7_nodes 4 = .ok (.aload_n 0, 1) := by decide +kernel
theorem dX7_nodes_5 : decode cX7_nodes 5 = .ok (.iload_n 1, 1) := by decide +kernel
theorem dX7_nodes_6 : decode cX7_nodes 6 = .ok (.invokevirtual 96, 3) := by decide +kernel
theorem dX7_nodes_9 : decode cX7_nodes 9 = .ok (.ifCond .eq 7, 3) := by decide +kernel
theorem dX7_nodes_12 : decode cX7_nodes 12 = .ok (.iconst 1, 1) := by decide +kernel
theorem dX7_nodes_13 : decode cX7_nodes 13 = .ok (.goto 4, 3) := by decide +kernel
theorem dX7_nodes_16 : decode cX7_nodes 16 = .ok (.iconst 0, 1) := by decide +kernel
theorem dX7_nodes_17 : decode cX7_nodes 17 = .ok (.ireturn, 1) := by decide +kernel
theorem dX7_nodes_18 : decode cX7_nodes 18 = .ok (.aload_n 0, 1) := by decide +kernel
theorem dX7_nodes_19 : decode cX7_nodes 19 = .ok (.iload_n 1, 1) := by decide +kernel
theorem dX7_nodes_20 : decode cX7_nodes 20 = .ok (.invokevirtual 96, 3) := by decide +kernel
theorem dX7_nodes_23 : decode cX7_nodes 23 = .ok (.ifCond .ne 14, 3) := by decide +kernel
theorem dX7_nodes_26 : decode cX7_nodes 26 = .ok (.iload_n 2, 1) := by decide +kernel
theorem dX7_nodes_27 : decode cX7_nodes 27 = .ok (.iconst 1, 1) := by decide +kernel
theorem dX7_nodes_28 : decode cX7_nodes 28 = .ok (.if_icmp .ne 7, 3) := by decide +kernel
theorem dX7_nodes_31 : decode cX7_nodes 31 = .ok (.iconst 0, 1) := by decide +kernel
theorem dX7_nodes_32 : decode cX7_nodes 32 = .ok (.goto 4, 3) := by decide +kernel
theorem dX7_nodes_35 : decode cX7_nodes 35 = .ok (.iconst (-1), 1) := by decide +kernel
theorem dX7_nodes_36 : decode cX7_nodes 36 = .ok (.ireturn, 1) := by decide +kernel
theorem dX7_nodes_37 : decode cX7_nodes 37 = .ok (.iload_n 2, 1) := by decide +kernel
theorem dX7_nodes_38 : decode cX7_nodes 38 = .ok (.tableswitch 80 1 4 #[30, 46, 52, 62], 30) := by decide +kernel
theorem dX7_nodes_68 : decode cX7_nodes 68 = .ok (.aload_n 0, 1) := by decide +kernel
theorem dX7_nodes_69 : decode cX7_nodes 69 = .ok (.getfield 7, 3) := by decide +kernel
theorem dX7_nodes_72 : decode cX7_nodes 72 = .ok (.iconst 4, 1) := by decide +kernel
theorem dX7_nodes_73 : decode cX7_nodes 73 = .ok (.iload_n 1, 1) := by decide +kernel
theorem dX7_nodes_74 : decode cX7_nodes 74 = .ok (.iadd, 1) := by decide +kernel
theorem dX7_nodes_75 : decode cX7_nodes 75 = .ok (.iaload, 1) := by decide +kernel
theorem dX7_nodes_76 : decode cX7_nodes 76 = .ok (.aload_n 0, 1) := by decide +kernel
theorem dX7_nodes_77 : decode cX7_nodes 77 = .ok (.getfield 7, 3) := by decide +kernel
theorem dX7_nodes_80 : decode cX7_nodes 80 = .ok (.iconst 1, 1) := by decide +kernel
theorem dX7_nodes_81 : decode cX7_nodes 81 = .ok (.iaload, 1) := by decide +kernel
theorem dX7_nodes_82 : decode cX7_nodes 82 = .ok (.iand, 1) := by decide +kernel
theorem dX7_nodes_83 : decode cX7_nodes 83 = .ok (.ireturn, 1) := by decide +kernel
theorem dX7_nodes_84 : decode cX7_nodes 84 = .ok (.aload_n 0, 1) := by decide +kernel
theorem dX7_nodes_85 : decode cX7_nodes 85 = .ok (.iload_n 1, 1) := by decide +kernel
theorem dX7_nodes_86 : decode cX7_nodes 86 = .ok (.invokevirtual 156, 3) := by decide +kernel
theorem dX7_nodes_89 : decode cX7_nodes 89 = .ok (.ireturn, 1) := by decide +kernel
theorem dX7_nodes_90 : decode cX7_nodes 90 = .ok (.aload_n 0, 1) := by decide +kernel
theorem dX7_nodes_91 : decode cX7_nodes 91 = .ok (.aload_n 0, 1) := by decide +kernel
theorem dX7_nodes_92 : decode cX7_nodes 92 = .ok (.iload_n 1, 1) := by decide +kernel
theorem dX7_nodes_93 : decode cX7_nodes 93 = .ok (.invokevirtual 136, 3) := by decide +kernel
theorem dX7_nodes_96 : decode cX7_nodes 96 = .ok (.invokevirtual 139, 3) := by decide +kernel
theorem dX7_nodes_99 : decode cX7_nodes 99 = .ok (.ireturn, 1) := by decide +kernel
theorem dX7_nodes_100 : decode cX7_nodes 100 = .ok (.aload_n 0, 1) := by decide +kernel
theorem dX7_nodes_101 : decode cX7_nodes 101 = .ok (.aload_n 0, 1) := by decide +kernel
theorem dX7_nodes_102 : decode cX7_nodes 102 = .ok (.iload_n 1, 1) := by decide +kernel
theorem dX7_nodes_103 : decode cX7_nodes 103 = .ok (.invokevirtual 136, 3) := by decide +kernel
theorem dX7_nodes_106 : decode cX7_nodes 106 = .ok (.invokevirtual 139, 3) := by decide +kernel
theorem dX7_nodes_109 : decode cX7_nodes 109 = .ok (.ifCond .ne 7, 3) := by decide +kernel
theorem dX7_nodes_112 : decode cX7_nodes 112 = .ok (.iconst 1, 1) := by decide +kernel
theorem dX7_nodes_113 : decode cX7_nodes 113 = .ok (.goto 4, 3) := by decide +kernel
theorem dX7_nodes_116 : decode cX7_nodes 116 = .ok (.iconst 0, 1) := by decide +kernel
theorem dX7_nodes_117 : decode cX7_nodes 117 = .ok (.ireturn, 1) := by decide +kernel
theorem dX7_nodes_118 : decode cX7_nodes 118 = .ok (.aload_n 0, 1) := by decide +kernel
theorem dX7_nodes_119 : decode cX7_nodes 119 = .ok (.aload_n 0, 1) := by decide +kernel
theorem dX7_nodes_120 : decode cX7_nodes 120 = .ok (.iload_n 1, 1) := by decide +kernel
theorem dX7_nodes_121 : decode cX7_nodes 121 = .ok (.invokevirtual 136, 3) := by decide +kernel
theorem dX7_nodes_124 : decode cX7_nodes 124 = .ok (.invokevirtual 73, 3) := by decide +kernel
theorem dX7_nodes_127 : decode cX7_nodes 127 = .ok (.sipush 4096, 3) := by decide +kernel
theorem dX7_nodes_130 : decode cX7_nodes 130 = .ok (.if_icmp .ge 7, 3) := by decide +kernel
theorem dX7_nodes_133 : decode cX7_nodes 133 = .ok (.iconst 1, 1) := by decide +kernel
theorem dX7_nodes_134 : decode cX7_nodes 134 = .ok (.goto 4, 3) := by decide +kernel
theorem dX7_nodes_137 : decode cX7_nodes 137 = .ok (.iconst 0, 1) := by decide +kernel
theorem dX7_nodes_138 : decode cX7_nodes 138 = .ok (.ireturn, 1) := by decide +kernel
theorem dX7_nodeOf_0 : decode cX7_nodeOf 0 = .ok (.aload_n 0, 1) := by decide +kernel
theorem dX7_nodeOf_1 : decode cX7_nodeOf 1 = .ok (.aload_n 0, 1) := by decide +kernel
theorem dX7_nodeOf_2 : decode cX7_nodeOf 2 = .ok (.iload_n 1, 1) := by decide +kernel
theorem dX7_nodeOf_3 : decode cX7_nodeOf 3 = .ok (.invokevirtual 117, 3) := by decide +kernel
theorem dX7_nodeOf_6 : decode cX7_nodeOf 6 = .ok (.iload_n 2, 1) := by decide +kernel
theorem dX7_nodeOf_7 : decode cX7_nodeOf 7 = .ok (.iconst 0, 1) := by decide +kernel
theorem dX7_nodeOf_8 : decode cX7_nodeOf 8 = .ok (.iconst 5, 1) := by decide +kernel
theorem dX7_nodeOf_9 : decode cX7_nodeOf 9 = .ok (.invokestatic 58, 3) := by decide +kernel
theorem dX7_nodeOf_12 : decode cX7_nodeOf 12 = .ok (.invokevirtual 120, 3) := by decide +kernel
theorem dX7_nodeOf_15 : decode cX7_nodeOf 15 = .ok (.ifCond .eq 12, 3) := by decide +kernel
theorem dX7_nodeOf_18 : decode cX7_nodeOf 18 = .ok (.aload_n 0, 1) := by decide +kernel
theorem dX7_nodeOf_19 : decode cX7_nodeOf 19 = .ok (.iload_n 1, 1) := by decide +kernel
theorem dX7_nodeOf_20 : decode cX7_nodeOf 20 = .ok (.iload_n 2, 1) := by decide +kernel
theorem dX7_nodeOf_21 : decode cX7_nodeOf 21 = .ok (.invokevirtual 159, 3) := by decide +kernel
theorem dX7_nodeOf_24 : decode cX7_nodeOf 24 = .ok (.goto 4, 3) := by decide +kernel
theorem dX7_nodeOf_27 : decode cX7_nodeOf 27 = .ok (.iconst 0, 1) := by decide +kernel
theorem dX7_nodeOf_28 : decode cX7_nodeOf 28 = .ok (.ireturn, 1) := by decide +kernel
theorem dX7_treesOf_0 : decode cX7_treesOf 0 = .ok (.iload_n 2, 1) := by decide +kernel
theorem dX7_treesOf_1 : decode cX7_treesOf 1 = .ok (.tableswitch 81 0 4 #[35, 42, 52, 63, 69], 35) := by decide +kernel
theorem dX7_treesOf_36 : decode cX7_treesOf 36 = .ok (.aload_n 0, 1) := by decide +kernel
theorem dX7_treesOf_37 : decode cX7_treesOf 37 = .ok (.getfield 27, 3) := by decide +kernel
theorem dX7_treesOf_40 : decode cX7_treesOf 40 = .ok (.iload_n 1, 1) := by decide +kernel
theorem dX7_treesOf_41 : decode cX7_treesOf 41 = .ok (.iaload, 1) := by decide +kernel
theorem dX7_treesOf_42 : decode cX7_treesOf 42 = .ok (.ireturn, 1) := by decide +kernel
theorem dX7_treesOf_43 : decode cX7_treesOf 43 = .ok (.aload_n 0, 1) := by decide +kernel
theorem dX7_treesOf_44 : decode cX7_treesOf 44 = .ok (.getfield 27, 3) := by decide +kernel
theorem dX7_treesOf_47 : decode cX7_treesOf 47 = .ok (.iload_n 1, 1) := by decide +kernel
theorem dX7_treesOf_48 : decode cX7_treesOf 48 = .ok (.iaload, 1) := by decide +kernel
theorem dX7_treesOf_49 : decode cX7_treesOf 49 = .ok (.invokestatic 104, 3) := by decide +kernel
theorem dX7_treesOf_52 : decode cX7_treesOf 52 = .ok (.ireturn, 1) := by decide +kernel
theorem dX7_treesOf_53 : decode cX7_treesOf 53 = .ok (.aload_n 0, 1) := by decide +kernel
theorem dX7_treesOf_54 : decode cX7_treesOf 54 = .ok (.aload_n 0, 1) := by decide +kernel
theorem dX7_treesOf_55 : decode cX7_treesOf 55 = .ok (.getfield 27, 3) := by decide +kernel
theorem dX7_treesOf_58 : decode cX7_treesOf 58 = .ok (.iload_n 1, 1) := by decide +kernel
theorem dX7_treesOf_59 : decode cX7_treesOf 59 = .ok (.iaload, 1) := by decide +kernel
theorem dX7_treesOf_60 : decode cX7_treesOf 60 = .ok (.invokevirtual 139, 3) := by decide +kernel
theorem dX7_treesOf_63 : decode cX7_treesOf 63 = .ok (.ireturn, 1) := by decide +kernel
theorem dX7_treesOf_64 : decode cX7_treesOf 64 = .ok (.aload_n 0, 1) := by decide +kernel
theorem dX7_treesOf_65 : decode cX7_treesOf 65 = .ok (.iload_n 1, 1) := by decide +kernel
theorem dX7_treesOf_66 : decode cX7_treesOf 66 = .ok (.invokevirtual 162, 3) := by decide +kernel
theorem dX7_treesOf_69 : decode cX7_treesOf 69 = .ok (.ireturn, 1) := by decide +kernel
theorem dX7_treesOf_70 : decode cX7_treesOf 70 = .ok (.aload_n 0, 1) := by decide +kernel
theorem dX7_treesOf_71 : decode cX7_treesOf 71 = .ok (.aload_n 0, 1) := by decide +kernel
theorem dX7_treesOf_72 : decode cX7_treesOf 72 = .ok (.getfield 27, 3) := by decide +kernel
theorem dX7_treesOf_75 : decode cX7_treesOf 75 = .ok (.iload_n 1, 1) := by decide +kernel
theorem dX7_treesOf_76 : decode cX7_treesOf 76 = .ok (.iaload, 1) := by decide +kernel
theorem dX7_treesOf_77 : decode cX7_treesOf 77 = .ok (.iconst (-1), 1) := by decide +kernel
theorem dX7_treesOf_78 : decode cX7_treesOf 78 = .ok (.invokevirtual 165, 3) := by decide +kernel
theorem dX7_treesOf_81 : decode cX7_treesOf 81 = .ok (.ireturn, 1) := by decide +kernel
theorem dX7_treesOf_82 : decode cX7_treesOf 82 = .ok (.aload_n 0, 1) := by decide +kernel
theorem dX7_treesOf_83 : decode cX7_treesOf 83 = .ok (.aload_n 0, 1) := by decide +kernel
theorem dX7_treesOf_84 : decode cX7_treesOf 84 = .ok (.getfield 27, 3) := by decide +kernel
theorem dX7_treesOf_87 : decode cX7_treesOf 87 = .ok (.iload_n 1, 1) := by decide +kernel
theorem dX7_treesOf_88 : decode cX7_treesOf 88 = .ok (.iaload, 1) := by decide +kernel
theorem dX7_treesOf_89 : decode cX7_treesOf 89 = .ok (.invokevirtual 168, 3) := by decide +kernel
theorem dX7_treesOf_92 : decode cX7_treesOf 92 = .ok (.ireturn, 1) := by decide +kernel
theorem dX7_tree_0 : decode cX7_tree 0 = .ok (.aload_n 0, 1) := by decide +kernel
theorem dX7_tree_1 : decode cX7_tree 1 = .ok (.invokevirtual 130, 3) := by decide +kernel
theorem dX7_tree_4 : decode cX7_tree 4 = .ok (.aload_n 0, 1) := by decide +kernel
theorem dX7_tree_5 : decode cX7_tree 5 = .ok (.iload_n 1, 1) := by decide +kernel
theorem dX7_tree_6 : decode cX7_tree 6 = .ok (.iconst 0, 1) := by decide +kernel
theorem dX7_tree_7 : decode cX7_tree 7 = .ok (.aload_n 0, 1) := by decide +kernel
theorem dX7_tree_8 : decode cX7_tree 8 = .ok (.getfield 76, 3) := by decide +kernel
theorem dX7_tree_11 : decode cX7_tree 11 = .ok (.iconst 1, 1) := by decide +kernel
theorem dX7_tree_12 : decode cX7_tree 12 = .ok (.isub, 1) := by decide +kernel
theorem dX7_tree_13 : decode cX7_tree 13 = .ok (.invokestatic 58, 3) := by decide +kernel
theorem dX7_tree_16 : decode cX7_tree 16 = .ok (.iload_n 2, 1) := by decide +kernel
theorem dX7_tree_17 : decode cX7_tree 17 = .ok (.iconst 0, 1) := by decide +kernel
theorem dX7_tree_18 : decode cX7_tree 18 = .ok (.iconst 5, 1) := by decide +kernel
theorem dX7_tree_19 : decode cX7_tree 19 = .ok (.invokestatic 58, 3) := by decide +kernel
theorem dX7_tree_22 : decode cX7_tree 22 = .ok (.invokevirtual 120, 3) := by decide +kernel
theorem dX7_tree_25 : decode cX7_tree 25 = .ok (.ifCond .eq 12, 3) := by decide +kernel
theorem dX7_tree_28 : decode cX7_tree 28 = .ok (.aload_n 0, 1) := by decide +kernel
theorem dX7_tree_29 : decode cX7_tree 29 = .ok (.iload_n 1, 1) := by decide +kernel
theorem dX7_tree_30 : decode cX7_tree 30 = .ok (.iload_n 2, 1) := by decide +kernel
theorem dX7_tree_31 : decode cX7_tree 31 = .ok (.invokevirtual 171, 3) := by decide +kernel
theorem dX7_tree_34 : decode cX7_tree 34 = .ok (.goto 4, 3) := by decide +kernel
theorem dX7_tree_37 : decode cX7_tree 37 = .ok (.iconst 0, 1) := by decide +kernel
theorem dX7_tree_38 : decode cX7_tree 38 = .ok (.ireturn, 1) := by decide +kernel
theorem dX7_edgesThere_0 : decode cX7_edgesThere 0 = .ok (.iconst 0, 1) := by decide +kernel
theorem dX7_edgesThere_1 : decode cX7_edgesThere 1 = .ok (.istore_n 1, 1) := by decide +kernel
theorem dX7_edgesThere_2 : decode cX7_edgesThere 2 = .ok (.iconst 0, 1) := by decide +kernel
theorem dX7_edgesThere_3 : decode cX7_edgesThere 3 = .ok (.istore_n 2, 1) := by decide +kernel
theorem dX7_edgesThere_4 : decode cX7_edgesThere 4 = .ok (.iload_n 2, 1) := by decide +kernel
theorem dX7_edgesThere_5 : decode cX7_edgesThere 5 = .ok (.aload_n 0, 1) := by decide +kernel
theorem dX7_edgesThere_6 : decode cX7_edgesThere 6 = .ok (.getfield 7, 3) := by decide +kernel
theorem dX7_edgesThere_9 : decode cX7_edgesThere 9 = .ok (.iconst 0, 1) := by decide +kernel
theorem dX7_edgesThere_10 : decode cX7_edgesThere 10 = .ok (.iaload, 1) := by decide +kernel
theorem dX7_edgesThere_11 : decode cX7_edgesThere 11 = .ok (.if_icmp .ge 42, 3) := by decide +kernel
theorem dX7_edgesThere_14 : decode cX7_edgesThere 14 = .ok (.iload_n 1, 1) := by decide +kernel
theorem dX7_edgesThere_15 : decode cX7_edgesThere 15 = .ok (.aload_n 0, 1) := by decide +kernel
theorem dX7_edgesThere_16 : decode cX7_edgesThere 16 = .ok (.iload_n 2, 1) := by decide +kernel
theorem dX7_edgesThere_17 : decode cX7_edgesThere 17 = .ok (.invokevirtual 96, 3) := by decide +kernel
theorem dX7_edgesThere_20 : decode cX7_edgesThere 20 = .ok (.ifCond .eq 24, 3) := by decide +kernel
theorem dX7_edgesThere_23 : decode cX7_edgesThere 23 = .ok (.aload_n 0, 1) := by decide +kernel
theorem dX7_edgesThere_24 : decode cX7_edgesThere 24 = .ok (.getfield 7, 3) := by decide +kernel
theorem dX7_edgesThere_27 : decode cX7_edgesThere 27 = .ok (.iconst 4, 1) := by decide +kernel
theorem dX7_edgesThere_28 : decode cX7_edgesThere 28 = .ok (.iload_n 2, 1) := by decide +kernel
theorem dX7_edgesThere_29 : decode cX7_edgesThere 29 = .ok (.iadd, 1) := by decide +kernel
theorem dX7_edgesThere_30 : decode cX7_edgesThere 30 = .ok (.iaload, 1) := by decide +kernel
theorem dX7_edgesThere_31 : decode cX7_edgesThere 31 = .ok (.aload_n 0, 1) := by decide +kernel
theorem dX7_edgesThere_32 : decode cX7_edgesThere 32 = .ok (.getfield 7, 3) := by decide +kernel
theorem dX7_edgesThere_35 : decode cX7_edgesThere 35 = .ok (.iconst 1, 1) := by decide +kernel
theorem dX7_edgesThere_36 : decode cX7_edgesThere 36 = .ok (.iaload, 1) := by decide +kernel
theorem dX7_edgesThere_37 : decode cX7_edgesThere 37 = .ok (.iand, 1) := by decide +kernel
theorem dX7_edgesThere_38 : decode cX7_edgesThere 38 = .ok (.invokestatic 104, 3) := by decide +kernel
theorem dX7_edgesThere_41 : decode cX7_edgesThere 41 = .ok (.goto 4, 3) := by decide +kernel
theorem dX7_edgesThere_44 : decode cX7_edgesThere 44 = .ok (.iconst 0, 1) := by decide +kernel
theorem dX7_edgesThere_45 : decode cX7_edgesThere 45 = .ok (.iadd, 1) := by decide +kernel
theorem dX7_edgesThere_46 : decode cX7_edgesThere 46 = .ok (.istore_n 1, 1) := by decide +kernel
theorem dX7_edgesThere_47 : decode cX7_edgesThere 47 = .ok (.iinc 2 1, 3) := by decide +kernel
theorem dX7_edgesThere_50 : decode cX7_edgesThere 50 = .ok (.goto (-46), 3) := by decide +kernel
theorem dX7_edgesThere_53 : decode cX7_edgesThere 53 = .ok (.iload_n 1, 1) := by decide +kernel
theorem dX7_edgesThere_54 : decode cX7_edgesThere 54 = .ok (.iconst 2, 1) := by decide +kernel
theorem dX7_edgesThere_55 : decode cX7_edgesThere 55 = .ok (.idiv, 1) := by decide +kernel
theorem dX7_edgesThere_56 : decode cX7_edgesThere 56 = .ok (.ireturn, 1) := by decide +kernel
theorem dX7_classes_0 : decode cX7_classes 0 = .ok (.aload_n 0, 1) := by decide +kernel
theorem dX7_classes_1 : decode cX7_classes 1 = .ok (.invokevirtual 130, 3) := by decide +kernel
theorem dX7_classes_4 : decode cX7_classes 4 = .ok (.iconst 0, 1) := by decide +kernel
theorem dX7_classes_5 : decode cX7_classes 5 = .ok (.istore_n 1, 1) := by decide +kernel
theorem dX7_classes_6 : decode cX7_classes 6 = .ok (.iconst 0, 1) := by decide +kernel
theorem dX7_classes_7 : decode cX7_classes 7 = .ok (.istore_n 2, 1) := by decide +kernel
theorem dX7_classes_8 : decode cX7_classes 8 = .ok (.iload_n 2, 1) := by decide +kernel
theorem dX7_classes_9 : decode cX7_classes 9 = .ok (.aload_n 0, 1) := by decide +kernel
theorem dX7_classes_10 : decode cX7_classes 10 = .ok (.getfield 76, 3) := by decide +kernel
theorem dX7_classes_13 : decode cX7_classes 13 = .ok (.if_icmp .ge 26, 3) := by decide +kernel
theorem dX7_classes_16 : decode cX7_classes 16 = .ok (.iload_n 1, 1) := by decide +kernel
theorem dX7_classes_17 : decode cX7_classes 17 = .ok (.aload_n 0, 1) := by decide +kernel
theorem dX7_classes_18 : decode cX7_classes 18 = .ok (.iload_n 2, 1) := by decide +kernel
theorem dX7_classes_19 : decode cX7_classes 19 = .ok (.invokevirtual 162, 3) := by decide +kernel
theorem dX7_classes_22 : decode cX7_classes 22 = .ok (.iload_n 2, 1) := by decide +kernel
theorem dX7_classes_23 : decode cX7_classes 23 = .ok (.if_icmp .ne 7, 3) := by decide +kernel
theorem dX7_classes_26 : decode cX7_classes 26 = .ok (.iconst 1, 1) := by decide +kernel
theorem dX7_classes_27 : decode cX7_classes 27 = .ok (.goto 4, 3) := by decide +kernel
theorem dX7_classes_30 : decode cX7_classes 30 = .ok (.iconst 0, 1) := by decide +kernel
theorem dX7_classes_31 : decode cX7_classes 31 = .ok (.iadd, 1) := by decide +kernel
theorem dX7_classes_32 : decode cX7_classes 32 = .ok (.istore_n 1, 1) := by decide +kernel
theorem dX7_classes_33 : decode cX7_classes 33 = .ok (.iinc 2 1, 3) := by decide +kernel
theorem dX7_classes_36 : decode cX7_classes 36 = .ok (.goto (-28), 3) := by decide +kernel
theorem dX7_classes_39 : decode cX7_classes 39 = .ok (.iload_n 1, 1) := by decide +kernel
theorem dX7_classes_40 : decode cX7_classes 40 = .ok (.ireturn, 1) := by decide +kernel
theorem dX7_mixed_0 : decode cX7_mixed 0 = .ok (.aload_n 0, 1) := by decide +kernel
theorem dX7_mixed_1 : decode cX7_mixed 1 = .ok (.invokevirtual 130, 3) := by decide +kernel
theorem dX7_mixed_4 : decode cX7_mixed 4 = .ok (.iconst 0, 1) := by decide +kernel
theorem dX7_mixed_5 : decode cX7_mixed 5 = .ok (.istore_n 1, 1) := by decide +kernel
theorem dX7_mixed_6 : decode cX7_mixed 6 = .ok (.iconst 0, 1) := by decide +kernel
theorem dX7_mixed_7 : decode cX7_mixed 7 = .ok (.istore_n 2, 1) := by decide +kernel
theorem dX7_mixed_8 : decode cX7_mixed 8 = .ok (.iload_n 2, 1) := by decide +kernel
theorem dX7_mixed_9 : decode cX7_mixed 9 = .ok (.aload_n 0, 1) := by decide +kernel
theorem dX7_mixed_10 : decode cX7_mixed 10 = .ok (.getfield 76, 3) := by decide +kernel
theorem dX7_mixed_13 : decode cX7_mixed 13 = .ok (.if_icmp .ge 22, 3) := by decide +kernel
theorem dX7_mixed_16 : decode cX7_mixed 16 = .ok (.iload_n 1, 1) := by decide +kernel
theorem dX7_mixed_17 : decode cX7_mixed 17 = .ok (.aload_n 0, 1) := by decide +kernel
theorem dX7_mixed_18 : decode cX7_mixed 18 = .ok (.aload_n 0, 1) := by decide +kernel
theorem dX7_mixed_19 : decode cX7_mixed 19 = .ok (.getfield 27, 3) := by decide +kernel
theorem dX7_mixed_22 : decode cX7_mixed 22 = .ok (.iload_n 2, 1) := by decide +kernel
theorem dX7_mixed_23 : decode cX7_mixed 23 = .ok (.iaload, 1) := by decide +kernel
theorem dX7_mixed_24 : decode cX7_mixed 24 = .ok (.invokevirtual 139, 3) := by decide +kernel
theorem dX7_mixed_27 : decode cX7_mixed 27 = .ok (.ixor, 1) := by decide +kernel
theorem dX7_mixed_28 : decode cX7_mixed 28 = .ok (.istore_n 1, 1) := by decide +kernel
theorem dX7_mixed_29 : decode cX7_mixed 29 = .ok (.iinc 2 1, 3) := by decide +kernel
theorem dX7_mixed_32 : decode cX7_mixed 32 = .ok (.goto (-24), 3) := by decide +kernel
theorem dX7_mixed_35 : decode cX7_mixed 35 = .ok (.iload_n 1, 1) := by decide +kernel
theorem dX7_mixed_36 : decode cX7_mixed 36 = .ok (.ireturn, 1) := by decide +kernel
theorem dX7_howManyTrees_0 : decode cX7_howManyTrees 0 = .ok (.aload_n 0, 1) := by decide +kernel
theorem dX7_howManyTrees_1 : decode cX7_howManyTrees 1 = .ok (.invokevirtual 130, 3) := by decide +kernel
theorem dX7_howManyTrees_4 : decode cX7_howManyTrees 4 = .ok (.aload_n 0, 1) := by decide +kernel
theorem dX7_howManyTrees_5 : decode cX7_howManyTrees 5 = .ok (.getfield 76, 3) := by decide +kernel
theorem dX7_howManyTrees_8 : decode cX7_howManyTrees 8 = .ok (.ireturn, 1) := by decide +kernel
theorem dX7_counted_0 : decode cX7_counted 0 = .ok (.iload_n 1, 1) := by decide +kernel
theorem dX7_counted_1 : decode cX7_counted 1 = .ok (.tableswitch 149 0 10 #[59, 66, 76, 81, 86, 91, 102, 107, 129, 136, 143], 59) := by decide +kernel
theorem dX7_counted_60 : decode cX7_counted 60 = .ok (.aload_n 0, 1) := by decide +kernel
theorem dX7_counted_61 : decode cX7_counted 61 = .ok (.getfield 7, 3) := by decide +kernel
theorem dX7_counted_64 : decode cX7_counted 64 = .ok (.iconst 0, 1) := by decide +kernel
theorem dX7_counted_65 : decode cX7_counted 65 = .ok (.iaload, 1) := by decide +kernel
theorem dX7_counted_66 : decode cX7_counted 66 = .ok (.ireturn, 1) := by decide +kernel
theorem dX7_counted_67 : decode cX7_counted 67 = .ok (.aload_n 0, 1) := by decide +kernel
theorem dX7_counted_68 : decode cX7_counted 68 = .ok (.getfield 7, 3) := by decide +kernel
theorem dX7_counted_71 : decode cX7_counted 71 = .ok (.iconst 1, 1) := by decide +kernel
theorem dX7_counted_72 : decode cX7_counted 72 = .ok (.iaload, 1) := by decide +kernel
theorem dX7_counted_73 : decode cX7_counted 73 = .ok (.invokestatic 104, 3) := by decide +kernel
theorem dX7_counted_76 : decode cX7_counted 76 = .ok (.ireturn, 1) := by decide +kernel
theorem dX7_counted_77 : decode cX7_counted 77 = .ok (.aload_n 0, 1) := by decide +kernel
theorem dX7_counted_78 : decode cX7_counted 78 = .ok (.invokevirtual 174, 3) := by decide +kernel
theorem dX7_counted_81 : decode cX7_counted 81 = .ok (.ireturn, 1) := by decide +kernel
theorem dX7_counted_82 : decode cX7_counted 82 = .ok (.aload_n 0, 1) := by decide +kernel
theorem dX7_counted_83 : decode cX7_counted 83 = .ok (.invokevirtual 177, 3) := by decide +kernel
theorem dX7_counted_86 : decode cX7_counted 86 = .ok (.ireturn, 1) := by decide +kernel
theorem dX7_counted_87 : decode cX7_counted 87 = .ok (.aload_n 0, 1) := by decide +kernel
theorem dX7_counted_88 : decode cX7_counted 88 = .ok (.invokevirtual 180, 3) := by decide +kernel
theorem dX7_counted_91 : decode cX7_counted 91 = .ok (.ireturn, 1) := by decide +kernel
theorem dX7_counted_92 : decode cX7_counted 92 = .ok (.aload_n 0, 1) := by decide +kernel
theorem dX7_counted_93 : decode cX7_counted 93 = .ok (.aload_n 0, 1) := by decide +kernel
theorem dX7_counted_94 : decode cX7_counted 94 = .ok (.getfield 7, 3) := by decide +kernel
theorem dX7_counted_97 : decode cX7_counted 97 = .ok (.iconst 1, 1) := by decide +kernel
theorem dX7_counted_98 : decode cX7_counted 98 = .ok (.iaload, 1) := by decide +kernel
theorem dX7_counted_99 : decode cX7_counted 99 = .ok (.invokevirtual 139, 3) := by decide +kernel
theorem dX7_counted_102 : decode cX7_counted 102 = .ok (.ireturn, 1) := by decide +kernel
theorem dX7_counted_103 : decode cX7_counted 103 = .ok (.aload_n 0, 1) := by decide +kernel
theorem dX7_counted_104 : decode cX7_counted 104 = .ok (.invokevirtual 183, 3) := by decide +kernel
theorem dX7_counted_107 : decode cX7_counted 107 = .ok (.ireturn, 1) := by decide +kernel
theorem dX7_counted_108 : decode cX7_counted 108 = .ok (.aload_n 0, 1) := by decide +kernel
theorem dX7_counted_109 : decode cX7_counted 109 = .ok (.aload_n 0, 1) := by decide +kernel
theorem dX7_counted_110 : decode cX7_counted 110 = .ok (.getfield 7, 3) := by decide +kernel
theorem dX7_counted_113 : decode cX7_counted 113 = .ok (.iconst 1, 1) := by decide +kernel
theorem dX7_counted_114 : decode cX7_counted 114 = .ok (.iaload, 1) := by decide +kernel
theorem dX7_counted_115 : decode cX7_counted 115 = .ok (.invokevirtual 73, 3) := by decide +kernel
theorem dX7_counted_118 : decode cX7_counted 118 = .ok (.sipush 4096, 3) := by decide +kernel
theorem dX7_counted_121 : decode cX7_counted 121 = .ok (.if_icmp .ge 7, 3) := by decide +kernel
theorem dX7_counted_124 : decode cX7_counted 124 = .ok (.iconst 0, 1) := by decide +kernel
theorem dX7_counted_125 : decode cX7_counted 125 = .ok (.goto 4, 3) := by decide +kernel
theorem dX7_counted_128 : decode cX7_counted 128 = .ok (.iconst 1, 1) := by decide +kernel
theorem dX7_counted_129 : decode cX7_counted 129 = .ok (.ireturn, 1) := by decide +kernel
theorem dX7_counted_130 : decode cX7_counted 130 = .ok (.aload_n 0, 1) := by decide +kernel
theorem dX7_counted_131 : decode cX7_counted 131 = .ok (.getfield 7, 3) := by decide +kernel
theorem dX7_counted_134 : decode cX7_counted 134 = .ok (.iconst 2, 1) := by decide +kernel
theorem dX7_counted_135 : decode cX7_counted 135 = .ok (.iaload, 1) := by decide +kernel
theorem dX7_counted_136 : decode cX7_counted 136 = .ok (.ireturn, 1) := by decide +kernel
theorem dX7_counted_137 : decode cX7_counted 137 = .ok (.aload_n 0, 1) := by decide +kernel
theorem dX7_counted_138 : decode cX7_counted 138 = .ok (.getfield 7, 3) := by decide +kernel
theorem dX7_counted_141 : decode cX7_counted 141 = .ok (.iconst 3, 1) := by decide +kernel
theorem dX7_counted_142 : decode cX7_counted 142 = .ok (.iaload, 1) := by decide +kernel
theorem dX7_counted_143 : decode cX7_counted 143 = .ok (.ireturn, 1) := by decide +kernel
theorem dX7_counted_144 : decode cX7_counted 144 = .ok (.aload_n 0, 1) := by decide +kernel
theorem dX7_counted_145 : decode cX7_counted 145 = .ok (.iconst 1, 1) := by decide +kernel
theorem dX7_counted_146 : decode cX7_counted 146 = .ok (.invokevirtual 142, 3) := by decide +kernel
theorem dX7_counted_149 : decode cX7_counted 149 = .ok (.ireturn, 1) := by decide +kernel
theorem dX7_counted_150 : decode cX7_counted 150 = .ok (.aload_n 0, 1) := by decide +kernel
theorem dX7_counted_151 : decode cX7_counted 151 = .ok (.getfield 51, 3) := by decide +kernel
theorem dX7_counted_154 : decode cX7_counted 154 = .ok (.ireturn, 1) := by decide +kernel
theorem dX7_count_0 : decode cX7_count 0 = .ok (.aload_n 0, 1) := by decide +kernel
theorem dX7_count_1 : decode cX7_count 1 = .ok (.iload_n 1, 1) := by decide +kernel
theorem dX7_count_2 : decode cX7_count 2 = .ok (.iconst 0, 1) := by decide +kernel
theorem dX7_count_3 : decode cX7_count 3 = .ok (.bipush 11, 2) := by decide +kernel
theorem dX7_count_5 : decode cX7_count 5 = .ok (.invokestatic 58, 3) := by decide +kernel
theorem dX7_count_8 : decode cX7_count 8 = .ok (.iconst 1, 1) := by decide +kernel
theorem dX7_count_9 : decode cX7_count 9 = .ok (.invokevirtual 120, 3) := by decide +kernel
theorem dX7_count_12 : decode cX7_count 12 = .ok (.ifCond .eq 11, 3) := by decide +kernel
theorem dX7_count_15 : decode cX7_count 15 = .ok (.aload_n 0, 1) := by decide +kernel
theorem dX7_count_16 : decode cX7_count 16 = .ok (.iload_n 1, 1) := by decide +kernel
theorem dX7_count_17 : decode cX7_count 17 = .ok (.invokevirtual 186, 3) := by decide +kernel
theorem dX7_count_20 : decode cX7_count 20 = .ok (.goto 4, 3) := by decide +kernel
theorem dX7_count_23 : decode cX7_count 23 = .ok (.iconst 0, 1) := by decide +kernel
theorem dX7_count_24 : decode cX7_count 24 = .ok (.ireturn, 1) := by decide +kernel
theorem dX7_best_0 : decode cX7_best 0 = .ok (.aload_n 0, 1) := by decide +kernel
theorem dX7_best_1 : decode cX7_best 1 = .ok (.iconst 0, 1) := by decide +kernel
theorem dX7_best_2 : decode cX7_best 2 = .ok (.putfield 43, 3) := by decide +kernel
theorem dX7_best_5 : decode cX7_best 5 = .ok (.aload_n 0, 1) := by decide +kernel
theorem dX7_best_6 : decode cX7_best 6 = .ok (.iconst 0, 1) := by decide +kernel
theorem dX7_best_7 : decode cX7_best 7 = .ok (.invokevirtual 142, 3) := by decide +kernel
theorem dX7_best_10 : decode cX7_best 10 = .ok (.ireturn, 1) := by decide +kernel
theorem dX7_lasts_0 : decode cX7_lasts 0 = .ok (.aload_n 0, 1) := by decide +kernel
theorem dX7_lasts_1 : decode cX7_lasts 1 = .ok (.aload_n 0, 1) := by decide +kernel
theorem dX7_lasts_2 : decode cX7_lasts 2 = .ok (.getfield 7, 3) := by decide +kernel
theorem dX7_lasts_5 : decode cX7_lasts 5 = .ok (.iconst 1, 1) := by decide +kernel
theorem dX7_lasts_6 : decode cX7_lasts 6 = .ok (.iaload, 1) := by decide +kernel
theorem dX7_lasts_7 : decode cX7_lasts 7 = .ok (.invokevirtual 73, 3) := by decide +kernel
theorem dX7_lasts_10 : decode cX7_lasts 10 = .ok (.iload_n 1, 1) := by decide +kernel
theorem dX7_lasts_11 : decode cX7_lasts 11 = .ok (.ifCond .eq 7, 3) := by decide +kernel
theorem dX7_lasts_14 : decode cX7_lasts 14 = .ok (.iconst 4, 1) := by decide +kernel
theorem dX7_lasts_15 : decode cX7_lasts 15 = .ok (.goto 5, 3) := by decide +kernel
theorem dX7_lasts_18 : decode cX7_lasts 18 = .ok (.bipush 8, 2) := by decide +kernel
theorem dX7_lasts_20 : decode cX7_lasts 20 = .ok (.ishr, 1) := by decide +kernel
theorem dX7_lasts_21 : decode cX7_lasts 21 = .ok (.bipush 15, 2) := by decide +kernel
theorem dX7_lasts_23 : decode cX7_lasts 23 = .ok (.iand, 1) := by decide +kernel
theorem dX7_lasts_24 : decode cX7_lasts 24 = .ok (.ireturn, 1) := by decide +kernel
theorem dX7_length_0 : decode cX7_length 0 = .ok (.aload_n 0, 1) := by decide +kernel
theorem dX7_length_1 : decode cX7_length 1 = .ok (.iconst 0, 1) := by decide +kernel
theorem dX7_length_2 : decode cX7_length 2 = .ok (.putfield 43, 3) := by decide +kernel
theorem dX7_length_5 : decode cX7_length 5 = .ok (.aload_n 0, 1) := by decide +kernel
theorem dX7_length_6 : decode cX7_length 6 = .ok (.iload_n 1, 1) := by decide +kernel
theorem dX7_length_7 : decode cX7_length 7 = .ok (.invokevirtual 189, 3) := by decide +kernel
theorem dX7_length_10 : decode cX7_length 10 = .ok (.ireturn, 1) := by decide +kernel
theorem dX7_mirror_0 : decode cX7_mirror 0 = .ok (.aload_n 0, 1) := by decide +kernel
theorem dX7_mirror_1 : decode cX7_mirror 1 = .ok (.iload_n 1, 1) := by decide +kernel
theorem dX7_mirror_2 : decode cX7_mirror 2 = .ok (.ifCond .lt 7, 3) := by decide +kernel
theorem dX7_mirror_5 : decode cX7_mirror 5 = .ok (.iconst 1, 1) := by decide +kernel
theorem dX7_mirror_6 : decode cX7_mirror 6 = .ok (.goto 4, 3) := by decide +kernel
theorem dX7_mirror_9 : decode cX7_mirror 9 = .ok (.iconst 0, 1) := by decide +kernel
theorem dX7_mirror_10 : decode cX7_mirror 10 = .ok (.iconst 1, 1) := by decide +kernel
theorem dX7_mirror_11 : decode cX7_mirror 11 = .ok (.invokevirtual 120, 3) := by decide +kernel
theorem dX7_mirror_14 : decode cX7_mirror 14 = .ok (.ifCond .eq 17, 3) := by decide +kernel
theorem dX7_mirror_17 : decode cX7_mirror 17 = .ok (.aload_n 0, 1) := by decide +kernel
theorem dX7_mirror_18 : decode cX7_mirror 18 = .ok (.aload_n 0, 1) := by decide +kernel
theorem dX7_mirror_19 : decode cX7_mirror 19 = .ok (.getfield 7, 3) := by decide +kernel
theorem dX7_mirror_22 : decode cX7_mirror 22 = .ok (.iconst 1, 1) := by decide +kernel
theorem dX7_mirror_23 : decode cX7_mirror 23 = .ok (.iaload, 1) := by decide +kernel
theorem dX7_mirror_24 : decode cX7_mirror 24 = .ok (.iload_n 1, 1) := by decide +kernel
theorem dX7_mirror_25 : decode cX7_mirror 25 = .ok (.invokevirtual 165, 3) := by decide +kernel
theorem dX7_mirror_28 : decode cX7_mirror 28 = .ok (.goto 4, 3) := by decide +kernel
theorem dX7_mirror_31 : decode cX7_mirror 31 = .ok (.iconst 0, 1) := by decide +kernel
theorem dX7_mirror_32 : decode cX7_mirror 32 = .ok (.ireturn, 1) := by decide +kernel
theorem dX7_joined_0 : decode cX7_joined 0 = .ok (.aload_n 0, 1) := by decide +kernel
theorem dX7_joined_1 : decode cX7_joined 1 = .ok (.iload_n 1, 1) := by decide +kernel
theorem dX7_joined_2 : decode cX7_joined 2 = .ok (.iload_n 2, 1) := by decide +kernel
theorem dX7_joined_3 : decode cX7_joined 3 = .ok (.invokevirtual 127, 3) := by decide +kernel
theorem dX7_joined_6 : decode cX7_joined 6 = .ok (.ifCond .ne 5, 3) := by decide +kernel
theorem dX7_joined_9 : decode cX7_joined 9 = .ok (.iconst (-1), 1) := by decide +kernel
theorem dX7_joined_10 : decode cX7_joined 10 = .ok (.ireturn, 1) := by decide +kernel
theorem dX7_joined_11 : decode cX7_joined 11 = .ok (.aload_n 0, 1) := by decide +kernel
theorem dX7_joined_12 : decode cX7_joined 12 = .ok (.iload_n 1, 1) := by decide +kernel
theorem dX7_joined_13 : decode cX7_joined 13 = .ok (.iload_n 2, 1) := by decide +kernel
theorem dX7_joined_14 : decode cX7_joined 14 = .ok (.iconst 1, 1) := by decide +kernel
theorem dX7_joined_15 : decode cX7_joined 15 = .ok (.invokevirtual 100, 3) := by decide +kernel
theorem dX7_joined_18 : decode cX7_joined 18 = .ok (.aload_n 0, 1) := by decide +kernel
theorem dX7_joined_19 : decode cX7_joined 19 = .ok (.aload_n 0, 1) := by decide +kernel
theorem dX7_joined_20 : decode cX7_joined 20 = .ok (.getfield 7, 3) := by decide +kernel
theorem dX7_joined_23 : decode cX7_joined 23 = .ok (.iconst 1, 1) := by decide +kernel
theorem dX7_joined_24 : decode cX7_joined 24 = .ok (.iaload, 1) := by decide +kernel
theorem dX7_joined_25 : decode cX7_joined 25 = .ok (.invokevirtual 139, 3) := by decide +kernel
theorem dX7_joined_28 : decode cX7_joined 28 = .ok (.istore_n 3, 1) := by decide +kernel
theorem dX7_joined_29 : decode cX7_joined 29 = .ok (.aload_n 0, 1) := by decide +kernel
theorem dX7_joined_30 : decode cX7_joined 30 = .ok (.iload_n 1, 1) := by decide +kernel
theorem dX7_joined_31 : decode cX7_joined 31 = .ok (.iload_n 2, 1) := by decide +kernel
theorem dX7_joined_32 : decode cX7_joined 32 = .ok (.iconst 0, 1) := by decide +kernel
theorem dX7_joined_33 : decode cX7_joined 33 = .ok (.invokevirtual 100, 3) := by decide +kernel
theorem dX7_joined_36 : decode cX7_joined 36 = .ok (.iload_n 3, 1) := by decide +kernel
theorem dX7_joined_37 : decode cX7_joined 37 = .ok (.ireturn, 1) := by decide +kernel
theorem dX7_ifJoined_0 : decode cX7_ifJoined 0 = .ok (.aload_n 0, 1) := by decide +kernel
theorem dX7_ifJoined_1 : decode cX7_ifJoined 1 = .ok (.aload_n 0, 1) := by decide +kernel
theorem dX7_ifJoined_2 : decode cX7_ifJoined 2 = .ok (.iload_n 1, 1) := by decide +kernel
theorem dX7_ifJoined_3 : decode cX7_ifJoined 3 = .ok (.invokevirtual 117, 3) := by decide +kernel
theorem dX7_ifJoined_6 : decode cX7_ifJoined 6 = .ok (.ifCond .eq 15, 3) := by decide +kernel
theorem dX7_ifJoined_9 : decode cX7_ifJoined 9 = .ok (.aload_n 0, 1) := by decide +kernel
theorem dX7_ifJoined_10 : decode cX7_ifJoined 10 = .ok (.iload_n 2, 1) := by decide +kernel
theorem dX7_ifJoined_11 : decode cX7_ifJoined 11 = .ok (.invokevirtual 117, 3) := by decide +kernel
theorem dX7_ifJoined_14 : decode cX7_ifJoined 14 = .ok (.ifCond .eq 7, 3) := by decide +kernel
theorem dX7_ifJoined_17 : decode cX7_ifJoined 17 = .ok (.iconst 1, 1) := by decide +kernel
theorem dX7_ifJoined_18 : decode cX7_ifJoined 18 = .ok (.goto 4, 3) := by decide +kernel
theorem dX7_ifJoined_21 : decode cX7_ifJoined 21 = .ok (.iconst 0, 1) := by decide +kernel
theorem dX7_ifJoined_22 : decode cX7_ifJoined 22 = .ok (.iconst 1, 1) := by decide +kernel
theorem dX7_ifJoined_23 : decode cX7_ifJoined 23 = .ok (.invokevirtual 120, 3) := by decide +kernel
theorem dX7_ifJoined_26 : decode cX7_ifJoined 26 = .ok (.ifCond .eq 12, 3) := by decide +kernel
theorem dX7_ifJoined_29 : decode cX7_ifJoined 29 = .ok (.aload_n 0, 1) := by decide +kernel
theorem dX7_ifJoined_30 : decode cX7_ifJoined 30 = .ok (.iload_n 1, 1) := by decide +kernel
theorem dX7_ifJoined_31 : decode cX7_ifJoined 31 = .ok (.iload_n 2, 1) := by decide +kernel
theorem dX7_ifJoined_32 : decode cX7_ifJoined 32 = .ok (.invokevirtual 192, 3) := by decide +kernel
theorem dX7_ifJoined_35 : decode cX7_ifJoined 35 = .ok (.goto 4, 3) := by decide +kernel
theorem dX7_ifJoined_38 : decode cX7_ifJoined 38 = .ok (.iconst 0, 1) := by decide +kernel
theorem dX7_ifJoined_39 : decode cX7_ifJoined 39 = .ok (.ireturn, 1) := by decide +kernel
theorem dX7_value_0 : decode cX7_value 0 = .ok (.aload_n 0, 1) := by decide +kernel
theorem dX7_value_1 : decode cX7_value 1 = .ok (.iload_n 1, 1) := by decide +kernel
theorem dX7_value_2 : decode cX7_value 2 = .ok (.aload_n 0, 1) := by decide +kernel
theorem dX7_value_3 : decode cX7_value 3 = .ok (.getfield 7, 3) := by decide +kernel
theorem dX7_value_6 : decode cX7_value 6 = .ok (.iconst 1, 1) := by decide +kernel
theorem dX7_value_7 : decode cX7_value 7 = .ok (.iaload, 1) := by decide +kernel
theorem dX7_value_8 : decode cX7_value 8 = .ok (.iconst (-1), 1) := by decide +kernel
theorem dX7_value_9 : decode cX7_value 9 = .ok (.ixor, 1) := by decide +kernel
theorem dX7_value_10 : decode cX7_value 10 = .ok (.iand, 1) := by decide +kernel
theorem dX7_value_11 : decode cX7_value 11 = .ok (.ifCond .ne 7, 3) := by decide +kernel
theorem dX7_value_14 : decode cX7_value 14 = .ok (.iconst 1, 1) := by decide +kernel
theorem dX7_value_15 : decode cX7_value 15 = .ok (.goto 4, 3) := by decide +kernel
theorem dX7_value_18 : decode cX7_value 18 = .ok (.iconst 0, 1) := by decide +kernel
theorem dX7_value_19 : decode cX7_value 19 = .ok (.iconst 1, 1) := by decide +kernel
theorem dX7_value_20 : decode cX7_value 20 = .ok (.invokevirtual 120, 3) := by decide +kernel
theorem dX7_value_23 : decode cX7_value 23 = .ok (.ifCond .eq 11, 3) := by decide +kernel
theorem dX7_value_26 : decode cX7_value 26 = .ok (.aload_n 0, 1) := by decide +kernel
theorem dX7_value_27 : decode cX7_value 27 = .ok (.iload_n 1, 1) := by decide +kernel
theorem dX7_value_28 : decode cX7_value 28 = .ok (.invokevirtual 139, 3) := by decide +kernel
theorem dX7_value_31 : decode cX7_value 31 = .ok (.goto 4, 3) := by decide +kernel
theorem dX7_value_34 : decode cX7_value 34 = .ok (.iconst 0, 1) := by decide +kernel
theorem dX7_value_35 : decode cX7_value 35 = .ok (.ireturn, 1) := by decide +kernel
theorem dX7_share_0 : decode cX7_share 0 = .ok (.aload_n 0, 1) := by decide +kernel
theorem dX7_share_1 : decode cX7_share 1 = .ok (.getfield 7, 3) := by decide +kernel
theorem dX7_share_4 : decode cX7_share 4 = .ok (.iconst 1, 1) := by decide +kernel
theorem dX7_share_5 : decode cX7_share 5 = .ok (.iaload, 1) := by decide +kernel
theorem dX7_share_6 : decode cX7_share 6 = .ok (.ifCond .ne 7, 3) := by decide +kernel
theorem dX7_share_9 : decode cX7_share 9 = .ok (.dconst 0, 1) := by decide +kernel
theorem dX7_share_10 : decode cX7_share 10 = .ok (.goto 20, 3) := by decide +kernel
theorem dX7_share_13 : decode cX7_share 13 = .ok (.aload_n 0, 1) := by decide +kernel
theorem dX7_share_14 : decode cX7_share 14 = .ok (.iconst 1, 1) := by decide +kernel
theorem dX7_share_15 : decode cX7_share 15 = .ok (.invokevirtual 142, 3) := by decide +kernel
theorem dX7_share_18 : decode cX7_share 18 = .ok (.i2d, 1) := by decide +kernel
theorem dX7_share_19 : decode cX7_share 19 = .ok (.aload_n 0, 1) := by decide +kernel
theorem dX7_share_20 : decode cX7_share 20 = .ok (.getfield 7, 3) := by decide +kernel
theorem dX7_share_23 : decode cX7_share 23 = .ok (.iconst 1, 1) := by decide +kernel
theorem dX7_share_24 : decode cX7_share 24 = .ok (.iaload, 1) := by decide +kernel
theorem dX7_share_25 : decode cX7_share 25 = .ok (.invokestatic 104, 3) := by decide +kernel
theorem dX7_share_28 : decode cX7_share 28 = .ok (.i2d, 1) := by decide +kernel
theorem dX7_share_29 : decode cX7_share 29 = .ok (.ddiv, 1) := by decide +kernel
theorem dX7_share_30 : decode cX7_share 30 = .ok (.dreturn, 1) := by decide +kernel
theorem dX7_openingShare_0 : decode cX7_openingShare 0 = .ok (.aload_n 0, 1) := by decide +kernel
theorem dX7_openingShare_1 : decode cX7_openingShare 1 = .ok (.iconst 0, 1) := by decide +kernel
theorem dX7_openingShare_2 : decode cX7_openingShare 2 = .ok (.putfield 43, 3) := by decide +kernel
theorem dX7_openingShare_5 : decode cX7_openingShare 5 = .ok (.aload_n 0, 1) := by decide +kernel
theorem dX7_openingShare_6 : decode cX7_openingShare 6 = .ok (.invokevirtual 195, 3) := by decide +kernel
theorem dX7_openingShare_9 : decode cX7_openingShare 9 = .ok (.dreturn, 1) := by decide +kernel
theorem dX7_digest_0 : decode cX7_digest 0 = .ok (.aload_n 0, 1) := by decide +kernel
theorem dX7_digest_1 : decode cX7_digest 1 = .ok (.iconst 0, 1) := by decide +kernel
theorem dX7_digest_2 : decode cX7_digest 2 = .ok (.putfield 43, 3) := by decide +kernel
theorem dX7_digest_5 : decode cX7_digest 5 = .ok (.ldc2_w 199, 3) := by decide +kernel
theorem dX7_digest_8 : decode cX7_digest 8 = .ok (.lstore_n 1, 1) := by decide +kernel
theorem dX7_digest_9 : decode cX7_digest 9 = .ok (.iconst 0, 1) := by decide +kernel
theorem dX7_digest_10 : decode cX7_digest 10 = .ok (.istore_n 3, 1) := by decide +kernel
theorem dX7_digest_11 : decode cX7_digest 11 = .ok (.iload_n 3, 1) := by decide +kernel
theorem dX7_digest_12 : decode cX7_digest 12 = .ok (.bipush 12, 2) := by decide +kernel
theorem dX7_digest_14 : decode cX7_digest 14 = .ok (.if_icmp .ge 22, 3) := by decide +kernel
theorem dX7_digest_17 : decode cX7_digest 17 = .ok (.ldc2_w 201, 3) := by decide +kernel
theorem dX7_digest_20 : decode cX7_digest 20 = .ok (.lload_n 1, 1) := by decide +kernel
theorem dX7_digest_21 : decode cX7_digest 21 = .ok (.lmul, 1) := by decide +kernel
theorem dX7_digest_22 : decode cX7_digest 22 = .ok (.aload_n 0, 1) := by decide +kernel
theorem dX7_digest_23 : decode cX7_digest 23 = .ok (.iload_n 3, 1) := by decide +kernel
theorem dX7_digest_24 : decode cX7_digest 24 = .ok (.invokevirtual 186, 3) := by decide +kernel
theorem dX7_digest_27 : decode cX7_digest 27 = .ok (.i2l, 1) := by decide +kernel
theorem dX7_digest_28 : decode cX7_digest 28 = .ok (.ladd, 1) := by decide +kernel
theorem dX7_digest_29 : decode cX7_digest 29 = .ok (.lstore_n 1, 1) := by decide +kernel
theorem dX7_digest_30 : decode cX7_digest 30 = .ok (.iinc 3 1, 3) := by decide +kernel
theorem dX7_digest_33 : decode cX7_digest 33 = .ok (.goto (-22), 3) := by decide +kernel
theorem dX7_digest_36 : decode cX7_digest 36 = .ok (.iconst 0, 1) := by decide +kernel
theorem dX7_digest_37 : decode cX7_digest 37 = .ok (.istore_n 3, 1) := by decide +kernel
theorem dX7_digest_38 : decode cX7_digest 38 = .ok (.iload_n 3, 1) := by decide +kernel
theorem dX7_digest_39 : decode cX7_digest 39 = .ok (.bipush 6, 2) := by decide +kernel
theorem dX7_digest_41 : decode cX7_digest 41 = .ok (.aload_n 0, 1) := by decide +kernel
theorem dX7_digest_42 : decode cX7_digest 42 = .ok (.getfield 7, 3) := by decide +kernel
theorem dX7_digest_45 : decode cX7_digest 45 = .ok (.iconst 0, 1) := by decide +kernel
theorem dX7_digest_46 : decode cX7_digest 46 = .ok (.iaload, 1) := by decide +kernel
theorem dX7_digest_47 : decode cX7_digest 47 = .ok (.imul, 1) := by decide +kernel
theorem dX7_digest_48 : decode cX7_digest 48 = .ok (.if_icmp .ge 29, 3) := by decide +kernel
theorem dX7_digest_51 : decode cX7_digest 51 = .ok (.ldc2_w 201, 3) := by decide +kernel
theorem dX7_digest_54 : decode cX7_digest 54 = .ok (.lload_n 1, 1) := by decide +kernel
theorem dX7_digest_55 : decode cX7_digest 55 = .ok (.lmul, 1) := by decide +kernel
theorem dX7_digest_56 : decode cX7_digest 56 = .ok (.aload_n 0, 1) := by decide +kernel
theorem dX7_digest_57 : decode cX7_digest 57 = .ok (.iload_n 3, 1) := by decide +kernel
theorem dX7_digest_58 : decode cX7_digest 58 = .ok (.bipush 6, 2) := by decide +kernel
theorem dX7_digest_60 : decode cX7_digest 60 = .ok (.idiv, 1) := by decide +kernel
theorem dX7_digest_61 : decode cX7_digest 61 = .ok (.iload_n 3, 1) := by decide +kernel
theorem dX7_digest_62 : decode cX7_digest 62 = .ok (.bipush 6, 2) := by decide +kernel
theorem dX7_digest_64 : decode cX7_digest 64 = .ok (.irem, 1) := by decide +kernel
theorem dX7_digest_65 : decode cX7_digest 65 = .ok (.invokevirtual 159, 3) := by decide +kernel
theorem dX7_digest_68 : decode cX7_digest 68 = .ok (.i2l, 1) := by decide +kernel
theorem dX7_digest_69 : decode cX7_digest 69 = .ok (.ladd, 1) := by decide +kernel
theorem dX7_digest_70 : decode cX7_digest 70 = .ok (.lstore_n 1, 1) := by decide +kernel
theorem dX7_digest_71 : decode cX7_digest 71 = .ok (.iinc 3 1, 3) := by decide +kernel
theorem dX7_digest_74 : decode cX7_digest 74 = .ok (.goto (-36), 3) := by decide +kernel
theorem dX7_digest_77 : decode cX7_digest 77 = .ok (.aload_n 0, 1) := by decide +kernel
theorem dX7_digest_78 : decode cX7_digest 78 = .ok (.invokevirtual 130, 3) := by decide +kernel
theorem dX7_digest_81 : decode cX7_digest 81 = .ok (.iconst 0, 1) := by decide +kernel
theorem dX7_digest_82 : decode cX7_digest 82 = .ok (.istore_n 3, 1) := by decide +kernel
theorem dX7_digest_83 : decode cX7_digest 83 = .ok (.iload_n 3, 1) := by decide +kernel
theorem dX7_digest_84 : decode cX7_digest 84 = .ok (.bipush 6, 2) := by decide +kernel
theorem dX7_digest_86 : decode cX7_digest 86 = .ok (.aload_n 0, 1) := by decide +kernel
theorem dX7_digest_87 : decode cX7_digest 87 = .ok (.getfield 76, 3) := by decide +kernel
theorem dX7_digest_90 : decode cX7_digest 90 = .ok (.imul, 1) := by decide +kernel
theorem dX7_digest_91 : decode cX7_digest 91 = .ok (.if_icmp .ge 29, 3) := by decide +kernel
theorem dX7_digest_94 : decode cX7_digest 94 = .ok (.ldc2_w 201, 3) := by decide +kernel
theorem dX7_digest_97 : decode cX7_digest 97 = .ok (.lload_n 1, 1) := by decide +kernel
theorem dX7_digest_98 : decode cX7_digest 98 = .ok (.lmul, 1) := by decide +kernel
theorem dX7_digest_99 : decode cX7_digest 99 = .ok (.aload_n 0, 1) := by decide +kernel
theorem dX7_digest_100 : decode cX7_digest 100 = .ok (.iload_n 3, 1) := by decide +kernel
theorem dX7_digest_101 : decode cX7_digest 101 = .ok (.bipush 6, 2) := by decide +kernel
theorem dX7_digest_103 : decode cX7_digest 103 = .ok (.idiv, 1) := by decide +kernel
theorem dX7_digest_104 : decode cX7_digest 104 = .ok (.iload_n 3, 1) := by decide +kernel
theorem dX7_digest_105 : decode cX7_digest 105 = .ok (.bipush 6, 2) := by decide +kernel
theorem dX7_digest_107 : decode cX7_digest 107 = .ok (.irem, 1) := by decide +kernel
theorem dX7_digest_108 : decode cX7_digest 108 = .ok (.invokevirtual 171, 3) := by decide +kernel
theorem dX7_digest_111 : decode cX7_digest 111 = .ok (.i2l, 1) := by decide +kernel
theorem dX7_digest_112 : decode cX7_digest 112 = .ok (.ladd, 1) := by decide +kernel
theorem dX7_digest_113 : decode cX7_digest 113 = .ok (.lstore_n 1, 1) := by decide +kernel
theorem dX7_digest_114 : decode cX7_digest 114 = .ok (.iinc 3 1, 3) := by decide +kernel
theorem dX7_digest_117 : decode cX7_digest 117 = .ok (.goto (-34), 3) := by decide +kernel
theorem dX7_digest_120 : decode cX7_digest 120 = .ok (.ldc2_w 201, 3) := by decide +kernel
theorem dX7_digest_123 : decode cX7_digest 123 = .ok (.lload_n 1, 1) := by decide +kernel
theorem dX7_digest_124 : decode cX7_digest 124 = .ok (.lmul, 1) := by decide +kernel
theorem dX7_digest_125 : decode cX7_digest 125 = .ok (.aload_n 0, 1) := by decide +kernel
theorem dX7_digest_126 : decode cX7_digest 126 = .ok (.iconst 0, 1) := by decide +kernel
theorem dX7_digest_127 : decode cX7_digest 127 = .ok (.invokevirtual 142, 3) := by decide +kernel
theorem dX7_digest_130 : decode cX7_digest 130 = .ok (.i2l, 1) := by decide +kernel
theorem dX7_digest_131 : decode cX7_digest 131 = .ok (.ladd, 1) := by decide +kernel
theorem dX7_digest_132 : decode cX7_digest 132 = .ok (.lstore_n 1, 1) := by decide +kernel
theorem dX7_digest_133 : decode cX7_digest 133 = .ok (.ldc2_w 201, 3) := by decide +kernel
theorem dX7_digest_136 : decode cX7_digest 136 = .ok (.lload_n 1, 1) := by decide +kernel
theorem dX7_digest_137 : decode cX7_digest 137 = .ok (.lmul, 1) := by decide +kernel
theorem dX7_digest_138 : decode cX7_digest 138 = .ok (.aload_n 0, 1) := by decide +kernel
theorem dX7_digest_139 : decode cX7_digest 139 = .ok (.iconst 1, 1) := by decide +kernel
theorem dX7_digest_140 : decode cX7_digest 140 = .ok (.invokevirtual 189, 3) := by decide +kernel
theorem dX7_digest_143 : decode cX7_digest 143 = .ok (.i2l, 1) := by decide +kernel
theorem dX7_digest_144 : decode cX7_digest 144 = .ok (.ladd, 1) := by decide +kernel
theorem dX7_digest_145 : decode cX7_digest 145 = .ok (.lstore_n 1, 1) := by decide +kernel
theorem dX7_digest_146 : decode cX7_digest 146 = .ok (.ldc2_w 201, 3) := by decide +kernel
theorem dX7_digest_149 : decode cX7_digest 149 = .ok (.lload_n 1, 1) := by decide +kernel
theorem dX7_digest_150 : decode cX7_digest 150 = .ok (.lmul, 1) := by decide +kernel
theorem dX7_digest_151 : decode cX7_digest 151 = .ok (.aload_n 0, 1) := by decide +kernel
theorem dX7_digest_152 : decode cX7_digest 152 = .ok (.iconst 0, 1) := by decide +kernel
theorem dX7_digest_153 : decode cX7_digest 153 = .ok (.invokevirtual 189, 3) := by decide +kernel
theorem dX7_digest_156 : decode cX7_digest 156 = .ok (.i2l, 1) := by decide +kernel
theorem dX7_digest_157 : decode cX7_digest 157 = .ok (.ladd, 1) := by decide +kernel
theorem dX7_digest_158 : decode cX7_digest 158 = .ok (.lstore_n 1, 1) := by decide +kernel
theorem dX7_digest_159 : decode cX7_digest 159 = .ok (.iconst 0, 1) := by decide +kernel
theorem dX7_digest_160 : decode cX7_digest 160 = .ok (.istore_n 3, 1) := by decide +kernel
theorem dX7_digest_161 : decode cX7_digest 161 = .ok (.iload_n 3, 1) := by decide +kernel
theorem dX7_digest_162 : decode cX7_digest 162 = .ok (.iconst 4, 1) := by decide +kernel
theorem dX7_digest_163 : decode cX7_digest 163 = .ok (.if_icmp .ge 28, 3) := by decide +kernel
theorem dX7_digest_166 : decode cX7_digest 166 = .ok (.ldc2_w 201, 3) := by decide +kernel
theorem dX7_digest_169 : decode cX7_digest 169 = .ok (.lload_n 1, 1) := by decide +kernel
theorem dX7_digest_170 : decode cX7_digest 170 = .ok (.lmul, 1) := by decide +kernel
theorem dX7_digest_171 : decode cX7_digest 171 = .ok (.aload_n 0, 1) := by decide +kernel
theorem dX7_digest_172 : decode cX7_digest 172 = .ok (.aload_n 0, 1) := by decide +kernel
theorem dX7_digest_173 : decode cX7_digest 173 = .ok (.getfield 7, 3) := by decide +kernel
theorem dX7_digest_176 : decode cX7_digest 176 = .ok (.iconst 1, 1) := by decide +kernel
theorem dX7_digest_177 : decode cX7_digest 177 = .ok (.iaload, 1) := by decide +kernel
theorem dX7_digest_178 : decode cX7_digest 178 = .ok (.iload_n 3, 1) := by decide +kernel
theorem dX7_digest_179 : decode cX7_digest 179 = .ok (.invokevirtual 165, 3) := by decide +kernel
theorem dX7_digest_182 : decode cX7_digest 182 = .ok (.i2l, 1) := by decide +kernel
theorem dX7_digest_183 : decode cX7_digest 183 = .ok (.ladd, 1) := by decide +kernel
theorem dX7_digest_184 : decode cX7_digest 184 = .ok (.lstore_n 1, 1) := by decide +kernel
theorem dX7_digest_185 : decode cX7_digest 185 = .ok (.iinc 3 1, 3) := by decide +kernel
theorem dX7_digest_188 : decode cX7_digest 188 = .ok (.goto (-27), 3) := by decide +kernel
theorem dX7_digest_191 : decode cX7_digest 191 = .ok (.aload_n 0, 1) := by decide +kernel
theorem dX7_digest_192 : decode cX7_digest 192 = .ok (.getfield 7, 3) := by decide +kernel
theorem dX7_digest_195 : decode cX7_digest 195 = .ok (.iconst 0, 1) := by decide +kernel
theorem dX7_digest_196 : decode cX7_digest 196 = .ok (.iaload, 1) := by decide +kernel
theorem dX7_digest_197 : decode cX7_digest 197 = .ok (.ifCond .le 24, 3) := by decide +kernel
theorem dX7_digest_200 : decode cX7_digest 200 = .ok (.ldc2_w 201, 3) := by decide +kernel
theorem dX7_digest_203 : decode cX7_digest 203 = .ok (.lload_n 1, 1) := by decide +kernel
theorem dX7_digest_204 : decode cX7_digest 204 = .ok (.lmul, 1) := by decide +kernel
theorem dX7_digest_205 : decode cX7_digest 205 = .ok (.aload_n 0, 1) := by decide +kernel
theorem dX7_digest_206 : decode cX7_digest 206 = .ok (.iconst 0, 1) := by decide +kernel
theorem dX7_digest_207 : decode cX7_digest 207 = .ok (.aload_n 0, 1) := by decide +kernel
theorem dX7_digest_208 : decode cX7_digest 208 = .ok (.getfield 7, 3) := by decide +kernel
theorem dX7_digest_211 : decode cX7_digest 211 = .ok (.iconst 0, 1) := by decide +kernel
theorem dX7_digest_212 : decode cX7_digest 212 = .ok (.iaload, 1) := by decide +kernel
theorem dX7_digest_213 : decode cX7_digest 213 = .ok (.iconst 1, 1) := by decide +kernel
theorem dX7_digest_214 : decode cX7_digest 214 = .ok (.isub, 1) := by decide +kernel
theorem dX7_digest_215 : decode cX7_digest 215 = .ok (.invokevirtual 192, 3) := by decide +kernel
theorem dX7_digest_218 : decode cX7_digest 218 = .ok (.i2l, 1) := by decide +kernel
theorem dX7_digest_219 : decode cX7_digest 219 = .ok (.ladd, 1) := by decide +kernel
theorem dX7_digest_220 : decode cX7_digest 220 = .ok (.lstore_n 1, 1) := by decide +kernel
theorem dX7_digest_221 : decode cX7_digest 221 = .ok (.ldc2_w 201, 3) := by decide +kernel
theorem dX7_digest_224 : decode cX7_digest 224 = .ok (.lload_n 1, 1) := by decide +kernel
theorem dX7_digest_225 : decode cX7_digest 225 = .ok (.lmul, 1) := by decide +kernel
theorem dX7_digest_226 : decode cX7_digest 226 = .ok (.aload_n 0, 1) := by decide +kernel
theorem dX7_digest_227 : decode cX7_digest 227 = .ok (.invokevirtual 195, 3) := by decide +kernel
theorem dX7_digest_230 : decode cX7_digest 230 = .ok (.invokestatic 203, 3) := by decide +kernel
theorem dX7_digest_233 : decode cX7_digest 233 = .ok (.ladd, 1) := by decide +kernel
theorem dX7_digest_234 : decode cX7_digest 234 = .ok (.lstore_n 1, 1) := by decide +kernel
theorem dX7_digest_235 : decode cX7_digest 235 = .ok (.ldc2_w 201, 3) := by decide +kernel
theorem dX7_digest_238 : decode cX7_digest 238 = .ok (.lload_n 1, 1) := by decide +kernel
theorem dX7_digest_239 : decode cX7_digest 239 = .ok (.lmul, 1) := by decide +kernel
theorem dX7_digest_240 : decode cX7_digest 240 = .ok (.aload_n 0, 1) := by decide +kernel
theorem dX7_digest_241 : decode cX7_digest 241 = .ok (.getfield 13, 3) := by decide +kernel
theorem dX7_digest_244 : decode cX7_digest 244 = .ok (.iconst 0, 1) := by decide +kernel
theorem dX7_digest_245 : decode cX7_digest 245 = .ok (.baload, 1) := by decide +kernel
theorem dX7_digest_246 : decode cX7_digest 246 = .ok (.ifCond .eq 7, 3) := by decide +kernel
theorem dX7_digest_249 : decode cX7_digest 249 = .ok (.iconst 1, 1) := by decide +kernel
theorem dX7_digest_250 : decode cX7_digest 250 = .ok (.goto 4, 3) := by decide +kernel
theorem dX7_digest_253 : decode cX7_digest 253 = .ok (.iconst 0, 1) := by decide +kernel
theorem dX7_digest_254 : decode cX7_digest 254 = .ok (.i2l, 1) := by decide +kernel
theorem dX7_digest_255 : decode cX7_digest 255 = .ok (.ladd, 1) := by decide +kernel
theorem dX7_digest_256 : decode cX7_digest 256 = .ok (.lstore_n 1, 1) := by decide +kernel
theorem dX7_digest_257 : decode cX7_digest 257 = .ok (.ldc2_w 201, 3) := by decide +kernel
theorem dX7_digest_260 : decode cX7_digest 260 = .ok (.lload_n 1, 1) := by decide +kernel
theorem dX7_digest_261 : decode cX7_digest 261 = .ok (.lmul, 1) := by decide +kernel
theorem dX7_digest_262 : decode cX7_digest 262 = .ok (.aload_n 0, 1) := by decide +kernel
theorem dX7_digest_263 : decode cX7_digest 263 = .ok (.getfield 13, 3) := by decide +kernel
theorem dX7_digest_266 : decode cX7_digest 266 = .ok (.iconst 1, 1) := by decide +kernel
theorem dX7_digest_267 : decode cX7_digest 267 = .ok (.baload, 1) := by decide +kernel
theorem dX7_digest_268 : decode cX7_digest 268 = .ok (.ifCond .eq 7, 3) := by decide +kernel
theorem dX7_digest_271 : decode cX7_digest 271 = .ok (.iconst 1, 1) := by decide +kernel
theorem dX7_digest_272 : decode cX7_digest 272 = .ok (.goto 4, 3) := by decide +kernel
theorem dX7_digest_275 : decode cX7_digest 275 = .ok (.iconst 0, 1) := by decide +kernel
theorem dX7_digest_276 : decode cX7_digest 276 = .ok (.i2l, 1) := by decide +kernel
theorem dX7_digest_277 : decode cX7_digest 277 = .ok (.ladd, 1) := by decide +kernel
theorem dX7_digest_278 : decode cX7_digest 278 = .ok (.lstore_n 1, 1) := by decide +kernel
theorem dX7_digest_279 : decode cX7_digest 279 = .ok (.ldc2_w 201, 3) := by decide +kernel
theorem dX7_digest_282 : decode cX7_digest 282 = .ok (.lload_n 1, 1) := by decide +kernel
theorem dX7_digest_283 : decode cX7_digest 283 = .ok (.lmul, 1) := by decide +kernel
theorem dX7_digest_284 : decode cX7_digest 284 = .ok (.aload_n 0, 1) := by decide +kernel
theorem dX7_digest_285 : decode cX7_digest 285 = .ok (.getfield 149, 3) := by decide +kernel
theorem dX7_digest_288 : decode cX7_digest 288 = .ok (.i2l, 1) := by decide +kernel
theorem dX7_digest_289 : decode cX7_digest 289 = .ok (.ladd, 1) := by decide +kernel
theorem dX7_digest_290 : decode cX7_digest 290 = .ok (.lstore_n 1, 1) := by decide +kernel
theorem dX7_digest_291 : decode cX7_digest 291 = .ok (.iconst 0, 1) := by decide +kernel
theorem dX7_digest_292 : decode cX7_digest 292 = .ok (.istore_n 3, 1) := by decide +kernel
theorem dX7_digest_293 : decode cX7_digest 293 = .ok (.iload_n 3, 1) := by decide +kernel
theorem dX7_digest_294 : decode cX7_digest 294 = .ok (.aload_n 0, 1) := by decide +kernel
theorem dX7_digest_295 : decode cX7_digest 295 = .ok (.getfield 149, 3) := by decide +kernel
theorem dX7_digest_298 : decode cX7_digest 298 = .ok (.if_icmp .ge 23, 3) := by decide +kernel
theorem dX7_digest_301 : decode cX7_digest 301 = .ok (.ldc2_w 201, 3) := by decide +kernel
theorem dX7_digest_304 : decode cX7_digest 304 = .ok (.lload_n 1, 1) := by decide +kernel
theorem dX7_digest_305 : decode cX7_digest 305 = .ok (.lmul, 1) := by decide +kernel
theorem dX7_digest_306 : decode cX7_digest 306 = .ok (.aload_n 0, 1) := by decide +kernel
theorem dX7_digest_307 : decode cX7_digest 307 = .ok (.getfield 17, 3) := by decide +kernel
theorem dX7_digest_310 : decode cX7_digest 310 = .ok (.iload_n 3, 1) := by decide +kernel
theorem dX7_digest_311 : decode cX7_digest 311 = .ok (.caload, 1) := by decide +kernel
theorem dX7_digest_312 : decode cX7_digest 312 = .ok (.i2l, 1) := by decide +kernel
theorem dX7_digest_313 : decode cX7_digest 313 = .ok (.ladd, 1) := by decide +kernel
theorem dX7_digest_314 : decode cX7_digest 314 = .ok (.lstore_n 1, 1) := by decide +kernel
theorem dX7_digest_315 : decode cX7_digest 315 = .ok (.iinc 3 1, 3) := by decide +kernel
theorem dX7_digest_318 : decode cX7_digest 318 = .ok (.goto (-25), 3) := by decide +kernel
theorem dX7_digest_321 : decode cX7_digest 321 = .ok (.lload_n 1, 1) := by decide +kernel
theorem dX7_digest_322 : decode cX7_digest 322 = .ok (.lreturn, 1) := by decide +kernel
theorem dJxe99ae_isNaN_b9ae7_0 : decode cJxe99ae_isNaN_b9ae7 0 = .ok (.dload_n 0, 1) := by decide +kernel
theorem dJxe99ae_isNaN_b9ae7_1 : decode cJxe99ae_isNaN_b9ae7 1 = .ok (.dload_n 0, 1) := by decide +kernel
theorem dJxe99ae_isNaN_b9ae7_2 : decode cJxe99ae_isNaN_b9ae7 2 = .ok (.dcmp .l, 1) := by decide +kernel
theorem dJxe99ae_isNaN_b9ae7_3 : decode cJxe99ae_isNaN_b9ae7 3 = .ok (.ifCond .eq 7, 3) := by decide +kernel
theorem dJxe99ae_isNaN_b9ae7_6 : decode cJxe99ae_isNaN_b9ae7 6 = .ok (.iconst 1, 1) := by decide +kernel
theorem dJxe99ae_isNaN_b9ae7_7 : decode cJxe99ae_isNaN_b9ae7 7 = .ok (.goto 4, 3) := by decide +kernel
theorem dJxe99ae_isNaN_b9ae7_10 : decode cJxe99ae_isNaN_b9ae7 10 = .ok (.iconst 0, 1) := by decide +kernel
theorem dJxe99ae_isNaN_b9ae7_11 : decode cJxe99ae_isNaN_b9ae7 11 = .ok (.ireturn, 1) := by decide +kernel
theorem dJxe99ae_doubleToLongBits_ccdee_0 : decode cJxe99ae_doubleToLongBits_ccdee 0 = .ok (.dload_n 0, 1) := by decide +kernel
theorem dJxe99ae_doubleToLongBits_ccdee_1 : decode cJxe99ae_doubleToLongBits_ccdee 1 = .ok (.invokestatic 122, 3) := by decide +kernel
theorem dJxe99ae_doubleToLongBits_ccdee_4 : decode cJxe99ae_doubleToLongBits_ccdee 4 = .ok (.ifCond .ne 8, 3) := by decide +kernel
theorem dJxe99ae_doubleToLongBits_ccdee_7 : decode cJxe99ae_doubleToLongBits_ccdee 7 = .ok (.dload_n 0, 1) := by decide +kernel
theorem dJxe99ae_doubleToLongBits_ccdee_8 : decode cJxe99ae_doubleToLongBits_ccdee 8 = .ok (.invokestatic 134, 3) := by decide +kernel
theorem dJxe99ae_doubleToLongBits_ccdee_11 : decode cJxe99ae_doubleToLongBits_ccdee 11 = .ok (.lreturn, 1) := by decide +kernel
theorem dJxe99ae_doubleToLongBits_ccdee_12 : decode cJxe99ae_doubleToLongBits_ccdee 12 = .ok (.ldc2_w 137, 3) := by decide +kernel
theorem dJxe99ae_doubleToLongBits_ccdee_15 : decode cJxe99ae_doubleToLongBits_ccdee 15 = .ok (.lreturn, 1) := by decide +kernel
theorem dJ6_numberOfLeadingZeros_0f7a4_0 : decode cJ6_numberOfLeadingZeros_0f7a4 0 = .ok (.iload_n 0, 1) := by decide +kernel
theorem dJ6_numberOfLeadingZeros_0f7a4_1 : decode cJ6_numberOfLeadingZeros_0f7a4 1 = .ok (.ifCond .gt 14, 3) := by decide +kernel
theorem dJ6_numberOfLeadingZeros_0f7a4_4 : decode cJ6_numberOfLeadingZeros_0f7a4 4 = .ok (.iload_n 0, 1) := by decide +kernel
theorem dJ6_numberOfLeadingZeros_0f7a4_5 : decode cJ6_numberOfLeadingZeros_0f7a4 5 = .ok (.ifCond .ne 8, 3) := by decide +kernel
theorem dJ6_numberOfLeadingZeros_0f7a4_8 : decode cJ6_numberOfLeadingZeros_0f7a4 8 = .ok (.bipush 32, 2) := by decide +kernel
theorem dJ6_numberOfLeadingZeros_0f7a4_10 : decode cJ6_numberOfLeadingZeros_0f7a4 10 = .ok (.goto 4, 3) := by decide +kernel
theorem dJ6_numberOfLeadingZeros_0f7a4_13 : decode cJ6_numberOfLeadingZeros_0f7a4 13 = .ok (.iconst 0, 1) := by decide +kernel
theorem dJ6_numberOfLeadingZeros_0f7a4_14 : decode cJ6_numberOfLeadingZeros_0f7a4 14 = .ok (.ireturn, 1) := by decide +kernel
theorem dJ6_numberOfLeadingZeros_0f7a4_15 : decode cJ6_numberOfLeadingZeros_0f7a4 15 = .ok (.bipush 31, 2) := by decide +kernel
theorem dJ6_numberOfLeadingZeros_0f7a4_17 : decode cJ6_numberOfLeadingZeros_0f7a4 17 = .ok (.istore_n 1, 1) := by decide +kernel
theorem dJ6_numberOfLeadingZeros_0f7a4_18 : decode cJ6_numberOfLeadingZeros_0f7a4 18 = .ok (.iload_n 0, 1) := by decide +kernel
theorem dJ6_numberOfLeadingZeros_0f7a4_19 : decode cJ6_numberOfLeadingZeros_0f7a4 19 = .ok (.ldc_w 264, 3) := by decide +kernel
theorem dJ6_numberOfLeadingZeros_0f7a4_22 : decode cJ6_numberOfLeadingZeros_0f7a4 22 = .ok (.if_icmp .lt 11, 3) := by decide +kernel
theorem dJ6_numberOfLeadingZeros_0f7a4_25 : decode cJ6_numberOfLeadingZeros_0f7a4 25 = .ok (.iinc 1 (-16), 3) := by decide +kernel
theorem dJ6_numberOfLeadingZeros_0f7a4_28 : decode cJ6_numberOfLeadingZeros_0f7a4 28 = .ok (.iload_n 0, 1) := by decide +kernel
theorem dJ6_numberOfLeadingZeros_0f7a4_29 : decode cJ6_numberOfLeadingZeros_0f7a4 29 = .ok (.bipush 16, 2) := by decide +kernel
theorem dJ6_numberOfLeadingZeros_0f7a4_31 : decode cJ6_numberOfLeadingZeros_0f7a4 31 = .ok (.iushr, 1) := by decide +kernel
theorem dJ6_numberOfLeadingZeros_0f7a4_32 : decode cJ6_numberOfLeadingZeros_0f7a4 32 = .ok (.istore_n 0, 1) := by decide +kernel
theorem dJ6_numberOfLeadingZeros_0f7a4_33 : decode cJ6_numberOfLeadingZeros_0f7a4 33 = .ok (.iload_n 0, 1) := by decide +kernel
theorem dJ6_numberOfLeadingZeros_0f7a4_34 : decode cJ6_numberOfLeadingZeros_0f7a4 34 = .ok (.sipush 256, 3) := by decide +kernel
theorem dJ6_numberOfLeadingZeros_0f7a4_37 : decode cJ6_numberOfLeadingZeros_0f7a4 37 = .ok (.if_icmp .lt 11, 3) := by decide +kernel
theorem dJ6_numberOfLeadingZeros_0f7a4_40 : decode cJ6_numberOfLeadingZeros_0f7a4 40 = .ok (.iinc 1 (-8), 3) := by decide +kernel
theorem dJ6_numberOfLeadingZeros_0f7a4_43 : decode cJ6_numberOfLeadingZeros_0f7a4 43 = .ok (.iload_n 0, 1) := by decide +kernel
theorem dJ6_numberOfLeadingZeros_0f7a4_44 : decode cJ6_numberOfLeadingZeros_0f7a4 44 = .ok (.bipush 8, 2) := by decide +kernel
theorem dJ6_numberOfLeadingZeros_0f7a4_46 : decode cJ6_numberOfLeadingZeros_0f7a4 46 = .ok (.iushr, 1) := by decide +kernel
theorem dJ6_numberOfLeadingZeros_0f7a4_47 : decode cJ6_numberOfLeadingZeros_0f7a4 47 = .ok (.istore_n 0, 1) := by decide +kernel
theorem dJ6_numberOfLeadingZeros_0f7a4_48 : decode cJ6_numberOfLeadingZeros_0f7a4 48 = .ok (.iload_n 0, 1) := by decide +kernel
theorem dJ6_numberOfLeadingZeros_0f7a4_49 : decode cJ6_numberOfLeadingZeros_0f7a4 49 = .ok (.bipush 16, 2) := by decide +kernel
theorem dJ6_numberOfLeadingZeros_0f7a4_51 : decode cJ6_numberOfLeadingZeros_0f7a4 51 = .ok (.if_icmp .lt 10, 3) := by decide +kernel
theorem dJ6_numberOfLeadingZeros_0f7a4_54 : decode cJ6_numberOfLeadingZeros_0f7a4 54 = .ok (.iinc 1 (-4), 3) := by decide +kernel
theorem dJ6_numberOfLeadingZeros_0f7a4_57 : decode cJ6_numberOfLeadingZeros_0f7a4 57 = .ok (.iload_n 0, 1) := by decide +kernel
theorem dJ6_numberOfLeadingZeros_0f7a4_58 : decode cJ6_numberOfLeadingZeros_0f7a4 58 = .ok (.iconst 4, 1) := by decide +kernel
theorem dJ6_numberOfLeadingZeros_0f7a4_59 : decode cJ6_numberOfLeadingZeros_0f7a4 59 = .ok (.iushr, 1) := by decide +kernel
theorem dJ6_numberOfLeadingZeros_0f7a4_60 : decode cJ6_numberOfLeadingZeros_0f7a4 60 = .ok (.istore_n 0, 1) := by decide +kernel
theorem dJ6_numberOfLeadingZeros_0f7a4_61 : decode cJ6_numberOfLeadingZeros_0f7a4 61 = .ok (.iload_n 0, 1) := by decide +kernel
theorem dJ6_numberOfLeadingZeros_0f7a4_62 : decode cJ6_numberOfLeadingZeros_0f7a4 62 = .ok (.iconst 4, 1) := by decide +kernel
theorem dJ6_numberOfLeadingZeros_0f7a4_63 : decode cJ6_numberOfLeadingZeros_0f7a4 63 = .ok (.if_icmp .lt 10, 3) := by decide +kernel
theorem dJ6_numberOfLeadingZeros_0f7a4_66 : decode cJ6_numberOfLeadingZeros_0f7a4 66 = .ok (.iinc 1 (-2), 3) := by decide +kernel
theorem dJ6_numberOfLeadingZeros_0f7a4_69 : decode cJ6_numberOfLeadingZeros_0f7a4 69 = .ok (.iload_n 0, 1) := by decide +kernel
theorem dJ6_numberOfLeadingZeros_0f7a4_70 : decode cJ6_numberOfLeadingZeros_0f7a4 70 = .ok (.iconst 2, 1) := by decide +kernel
theorem dJ6_numberOfLeadingZeros_0f7a4_71 : decode cJ6_numberOfLeadingZeros_0f7a4 71 = .ok (.iushr, 1) := by decide +kernel
theorem dJ6_numberOfLeadingZeros_0f7a4_72 : decode cJ6_numberOfLeadingZeros_0f7a4 72 = .ok (.istore_n 0, 1) := by decide +kernel
theorem dJ6_numberOfLeadingZeros_0f7a4_73 : decode cJ6_numberOfLeadingZeros_0f7a4 73 = .ok (.iload_n 1, 1) := by decide +kernel
theorem dJ6_numberOfLeadingZeros_0f7a4_74 : decode cJ6_numberOfLeadingZeros_0f7a4 74 = .ok (.iload_n 0, 1) := by decide +kernel
theorem dJ6_numberOfLeadingZeros_0f7a4_75 : decode cJ6_numberOfLeadingZeros_0f7a4 75 = .ok (.iconst 1, 1) := by decide +kernel
theorem dJ6_numberOfLeadingZeros_0f7a4_76 : decode cJ6_numberOfLeadingZeros_0f7a4 76 = .ok (.iushr, 1) := by decide +kernel
theorem dJ6_numberOfLeadingZeros_0f7a4_77 : decode cJ6_numberOfLeadingZeros_0f7a4 77 = .ok (.isub, 1) := by decide +kernel
theorem dJ6_numberOfLeadingZeros_0f7a4_78 : decode cJ6_numberOfLeadingZeros_0f7a4 78 = .ok (.ireturn, 1) := by decide +kernel
theorem dJ6_numberOfTrailingZeros_0f7a4_0 : decode cJ6_numberOfTrailingZeros_0f7a4 0 = .ok (.iload_n 0, 1) := by decide +kernel
theorem dJ6_numberOfTrailingZeros_0f7a4_1 : decode cJ6_numberOfTrailingZeros_0f7a4 1 = .ok (.iconst (-1), 1) := by decide +kernel
theorem dJ6_numberOfTrailingZeros_0f7a4_2 : decode cJ6_numberOfTrailingZeros_0f7a4 2 = .ok (.ixor, 1) := by decide +kernel
theorem dJ6_numberOfTrailingZeros_0f7a4_3 : decode cJ6_numberOfTrailingZeros_0f7a4 3 = .ok (.iload_n 0, 1) := by decide +kernel
theorem dJ6_numberOfTrailingZeros_0f7a4_4 : decode cJ6_numberOfTrailingZeros_0f7a4 4 = .ok (.iconst 1, 1) := by decide +kernel
theorem dJ6_numberOfTrailingZeros_0f7a4_5 : decode cJ6_numberOfTrailingZeros_0f7a4 5 = .ok (.isub, 1) := by decide +kernel
theorem dJ6_numberOfTrailingZeros_0f7a4_6 : decode cJ6_numberOfTrailingZeros_0f7a4 6 = .ok (.iand, 1) := by decide +kernel
theorem dJ6_numberOfTrailingZeros_0f7a4_7 : decode cJ6_numberOfTrailingZeros_0f7a4 7 = .ok (.istore_n 0, 1) := by decide +kernel
theorem dJ6_numberOfTrailingZeros_0f7a4_8 : decode cJ6_numberOfTrailingZeros_0f7a4 8 = .ok (.iload_n 0, 1) := by decide +kernel
theorem dJ6_numberOfTrailingZeros_0f7a4_9 : decode cJ6_numberOfTrailingZeros_0f7a4 9 = .ok (.ifCond .gt 8, 3) := by decide +kernel
theorem dJ6_numberOfTrailingZeros_0f7a4_12 : decode cJ6_numberOfTrailingZeros_0f7a4 12 = .ok (.iload_n 0, 1) := by decide +kernel
theorem dJ6_numberOfTrailingZeros_0f7a4_13 : decode cJ6_numberOfTrailingZeros_0f7a4 13 = .ok (.bipush 32, 2) := by decide +kernel
theorem dJ6_numberOfTrailingZeros_0f7a4_15 : decode cJ6_numberOfTrailingZeros_0f7a4 15 = .ok (.iand, 1) := by decide +kernel
theorem dJ6_numberOfTrailingZeros_0f7a4_16 : decode cJ6_numberOfTrailingZeros_0f7a4 16 = .ok (.ireturn, 1) := by decide +kernel
theorem dJ6_numberOfTrailingZeros_0f7a4_17 : decode cJ6_numberOfTrailingZeros_0f7a4 17 = .ok (.iconst 1, 1) := by decide +kernel
theorem dJ6_numberOfTrailingZeros_0f7a4_18 : decode cJ6_numberOfTrailingZeros_0f7a4 18 = .ok (.istore_n 1, 1) := by decide +kernel
theorem dJ6_numberOfTrailingZeros_0f7a4_19 : decode cJ6_numberOfTrailingZeros_0f7a4 19 = .ok (.iload_n 0, 1) := by decide +kernel
theorem dJ6_numberOfTrailingZeros_0f7a4_20 : decode cJ6_numberOfTrailingZeros_0f7a4 20 = .ok (.ldc_w 264, 3) := by decide +kernel
theorem dJ6_numberOfTrailingZeros_0f7a4_23 : decode cJ6_numberOfTrailingZeros_0f7a4 23 = .ok (.if_icmp .le 11, 3) := by decide +kernel
theorem dJ6_numberOfTrailingZeros_0f7a4_26 : decode cJ6_numberOfTrailingZeros_0f7a4 26 = .ok (.iinc 1 16, 3) := by decide +kernel
theorem dJ6_numberOfTrailingZeros_0f7a4_29 : decode cJ6_numberOfTrailingZeros_0f7a4 29 = .ok (.iload_n 0, 1) := by decide +kernel
theorem dJ6_numberOfTrailingZeros_0f7a4_30 : decode cJ6_numberOfTrailingZeros_0f7a4 30 = .ok (.bipush 16, 2) := by decide +kernel
theorem dJ6_numberOfTrailingZeros_0f7a4_32 : decode cJ6_numberOfTrailingZeros_0f7a4 32 = .ok (.iushr, 1) := by decide +kernel
theorem dJ6_numberOfTrailingZeros_0f7a4_33 : decode cJ6_numberOfTrailingZeros_0f7a4 33 = .ok (.istore_n 0, 1) := by decide +kernel
theorem dJ6_numberOfTrailingZeros_0f7a4_34 : decode cJ6_numberOfTrailingZeros_0f7a4 34 = .ok (.iload_n 0, 1) := by decide +kernel
theorem dJ6_numberOfTrailingZeros_0f7a4_35 : decode cJ6_numberOfTrailingZeros_0f7a4 35 = .ok (.sipush 256, 3) := by decide +kernel
theorem dJ6_numberOfTrailingZeros_0f7a4_38 : decode cJ6_numberOfTrailingZeros_0f7a4 38 = .ok (.if_icmp .le 11, 3) := by decide +kernel
theorem dJ6_numberOfTrailingZeros_0f7a4_41 : decode cJ6_numberOfTrailingZeros_0f7a4 41 = .ok (.iinc 1 8, 3) := by decide +kernel
theorem dJ6_numberOfTrailingZeros_0f7a4_44 : decode cJ6_numberOfTrailingZeros_0f7a4 44 = .ok (.iload_n 0, 1) := by decide +kernel
theorem dJ6_numberOfTrailingZeros_0f7a4_45 : decode cJ6_numberOfTrailingZeros_0f7a4 45 = .ok (.bipush 8, 2) := by decide +kernel
theorem dJ6_numberOfTrailingZeros_0f7a4_47 : decode cJ6_numberOfTrailingZeros_0f7a4 47 = .ok (.iushr, 1) := by decide +kernel
theorem dJ6_numberOfTrailingZeros_0f7a4_48 : decode cJ6_numberOfTrailingZeros_0f7a4 48 = .ok (.istore_n 0, 1) := by decide +kernel
theorem dJ6_numberOfTrailingZeros_0f7a4_49 : decode cJ6_numberOfTrailingZeros_0f7a4 49 = .ok (.iload_n 0, 1) := by decide +kernel
theorem dJ6_numberOfTrailingZeros_0f7a4_50 : decode cJ6_numberOfTrailingZeros_0f7a4 50 = .ok (.bipush 16, 2) := by decide +kernel
theorem dJ6_numberOfTrailingZeros_0f7a4_52 : decode cJ6_numberOfTrailingZeros_0f7a4 52 = .ok (.if_icmp .le 10, 3) := by decide +kernel
theorem dJ6_numberOfTrailingZeros_0f7a4_55 : decode cJ6_numberOfTrailingZeros_0f7a4 55 = .ok (.iinc 1 4, 3) := by decide +kernel
theorem dJ6_numberOfTrailingZeros_0f7a4_58 : decode cJ6_numberOfTrailingZeros_0f7a4 58 = .ok (.iload_n 0, 1) := by decide +kernel
theorem dJ6_numberOfTrailingZeros_0f7a4_59 : decode cJ6_numberOfTrailingZeros_0f7a4 59 = .ok (.iconst 4, 1) := by decide +kernel
theorem dJ6_numberOfTrailingZeros_0f7a4_60 : decode cJ6_numberOfTrailingZeros_0f7a4 60 = .ok (.iushr, 1) := by decide +kernel
theorem dJ6_numberOfTrailingZeros_0f7a4_61 : decode cJ6_numberOfTrailingZeros_0f7a4 61 = .ok (.istore_n 0, 1) := by decide +kernel
theorem dJ6_numberOfTrailingZeros_0f7a4_62 : decode cJ6_numberOfTrailingZeros_0f7a4 62 = .ok (.iload_n 0, 1) := by decide +kernel
theorem dJ6_numberOfTrailingZeros_0f7a4_63 : decode cJ6_numberOfTrailingZeros_0f7a4 63 = .ok (.iconst 4, 1) := by decide +kernel
theorem dJ6_numberOfTrailingZeros_0f7a4_64 : decode cJ6_numberOfTrailingZeros_0f7a4 64 = .ok (.if_icmp .le 10, 3) := by decide +kernel
theorem dJ6_numberOfTrailingZeros_0f7a4_67 : decode cJ6_numberOfTrailingZeros_0f7a4 67 = .ok (.iinc 1 2, 3) := by decide +kernel
theorem dJ6_numberOfTrailingZeros_0f7a4_70 : decode cJ6_numberOfTrailingZeros_0f7a4 70 = .ok (.iload_n 0, 1) := by decide +kernel
theorem dJ6_numberOfTrailingZeros_0f7a4_71 : decode cJ6_numberOfTrailingZeros_0f7a4 71 = .ok (.iconst 2, 1) := by decide +kernel
theorem dJ6_numberOfTrailingZeros_0f7a4_72 : decode cJ6_numberOfTrailingZeros_0f7a4 72 = .ok (.iushr, 1) := by decide +kernel
theorem dJ6_numberOfTrailingZeros_0f7a4_73 : decode cJ6_numberOfTrailingZeros_0f7a4 73 = .ok (.istore_n 0, 1) := by decide +kernel
theorem dJ6_numberOfTrailingZeros_0f7a4_74 : decode cJ6_numberOfTrailingZeros_0f7a4 74 = .ok (.iload_n 1, 1) := by decide +kernel
theorem dJ6_numberOfTrailingZeros_0f7a4_75 : decode cJ6_numberOfTrailingZeros_0f7a4 75 = .ok (.iload_n 0, 1) := by decide +kernel
theorem dJ6_numberOfTrailingZeros_0f7a4_76 : decode cJ6_numberOfTrailingZeros_0f7a4 76 = .ok (.iconst 1, 1) := by decide +kernel
theorem dJ6_numberOfTrailingZeros_0f7a4_77 : decode cJ6_numberOfTrailingZeros_0f7a4 77 = .ok (.iushr, 1) := by decide +kernel
theorem dJ6_numberOfTrailingZeros_0f7a4_78 : decode cJ6_numberOfTrailingZeros_0f7a4 78 = .ok (.iadd, 1) := by decide +kernel
theorem dJ6_numberOfTrailingZeros_0f7a4_79 : decode cJ6_numberOfTrailingZeros_0f7a4 79 = .ok (.ireturn, 1) := by decide +kernel
theorem dJ6_bitCount_0f7a4_0 : decode cJ6_bitCount_0f7a4 0 = .ok (.iload_n 0, 1) := by decide +kernel
theorem dJ6_bitCount_0f7a4_1 : decode cJ6_bitCount_0f7a4 1 = .ok (.iload_n 0, 1) := by decide +kernel
theorem dJ6_bitCount_0f7a4_2 : decode cJ6_bitCount_0f7a4 2 = .ok (.iconst 1, 1) := by decide +kernel
theorem dJ6_bitCount_0f7a4_3 : decode cJ6_bitCount_0f7a4 3 = .ok (.iushr, 1) := by decide +kernel
theorem dJ6_bitCount_0f7a4_4 : decode cJ6_bitCount_0f7a4 4 = .ok (.ldc_w 265, 3) := by decide +kernel
theorem dJ6_bitCount_0f7a4_7 : decode cJ6_bitCount_0f7a4 7 = .ok (.iand, 1) := by decide +kernel
theorem dJ6_bitCount_0f7a4_8 : decode cJ6_bitCount_0f7a4 8 = .ok (.isub, 1) := by decide +kernel
theorem dJ6_bitCount_0f7a4_9 : decode cJ6_bitCount_0f7a4 9 = .ok (.istore_n 0, 1) := by decide +kernel
theorem dJ6_bitCount_0f7a4_10 : decode cJ6_bitCount_0f7a4 10 = .ok (.iload_n 0, 1) := by decide +kernel
theorem dJ6_bitCount_0f7a4_11 : decode cJ6_bitCount_0f7a4 11 = .ok (.ldc_w 266, 3) := by decide +kernel
theorem dJ6_bitCount_0f7a4_14 : decode cJ6_bitCount_0f7a4 14 = .ok (.iand, 1) := by decide +kernel
theorem dJ6_bitCount_0f7a4_15 : decode cJ6_bitCount_0f7a4 15 = .ok (.iload_n 0, 1) := by decide +kernel
theorem dJ6_bitCount_0f7a4_16 : decode cJ6_bitCount_0f7a4 16 = .ok (.iconst 2, 1) := by decide +kernel
theorem dJ6_bitCount_0f7a4_17 : decode cJ6_bitCount_0f7a4 17 = .ok (.iushr, 1) := by decide +kernel
theorem dJ6_bitCount_0f7a4_18 : decode cJ6_bitCount_0f7a4 18 = .ok (.ldc_w 266, 3) := by decide +kernel
theorem dJ6_bitCount_0f7a4_21 : decode cJ6_bitCount_0f7a4 21 = .ok (.iand, 1) := by decide +kernel
theorem dJ6_bitCount_0f7a4_22 : decode cJ6_bitCount_0f7a4 22 = .ok (.iadd, 1) := by decide +kernel
theorem dJ6_bitCount_0f7a4_23 : decode cJ6_bitCount_0f7a4 23 = .ok (.istore_n 0, 1) := by decide +kernel
theorem dJ6_bitCount_0f7a4_24 : decode cJ6_bitCount_0f7a4 24 = .ok (.iload_n 0, 1) := by decide +kernel
theorem dJ6_bitCount_0f7a4_25 : decode cJ6_bitCount_0f7a4 25 = .ok (.iload_n 0, 1) := by decide +kernel
theorem dJ6_bitCount_0f7a4_26 : decode cJ6_bitCount_0f7a4 26 = .ok (.iconst 4, 1) := by decide +kernel
theorem dJ6_bitCount_0f7a4_27 : decode cJ6_bitCount_0f7a4 27 = .ok (.iushr, 1) := by decide +kernel
theorem dJ6_bitCount_0f7a4_28 : decode cJ6_bitCount_0f7a4 28 = .ok (.iadd, 1) := by decide +kernel
theorem dJ6_bitCount_0f7a4_29 : decode cJ6_bitCount_0f7a4 29 = .ok (.ldc_w 267, 3) := by decide +kernel
theorem dJ6_bitCount_0f7a4_32 : decode cJ6_bitCount_0f7a4 32 = .ok (.iand, 1) := by decide +kernel
theorem dJ6_bitCount_0f7a4_33 : decode cJ6_bitCount_0f7a4 33 = .ok (.istore_n 0, 1) := by decide +kernel
theorem dJ6_bitCount_0f7a4_34 : decode cJ6_bitCount_0f7a4 34 = .ok (.iload_n 0, 1) := by decide +kernel
theorem dJ6_bitCount_0f7a4_35 : decode cJ6_bitCount_0f7a4 35 = .ok (.iload_n 0, 1) := by decide +kernel
theorem dJ6_bitCount_0f7a4_36 : decode cJ6_bitCount_0f7a4 36 = .ok (.bipush 8, 2) := by decide +kernel
theorem dJ6_bitCount_0f7a4_38 : decode cJ6_bitCount_0f7a4 38 = .ok (.iushr, 1) := by decide +kernel
theorem dJ6_bitCount_0f7a4_39 : decode cJ6_bitCount_0f7a4 39 = .ok (.iadd, 1) := by decide +kernel
theorem dJ6_bitCount_0f7a4_40 : decode cJ6_bitCount_0f7a4 40 = .ok (.istore_n 0, 1) := by decide +kernel
theorem dJ6_bitCount_0f7a4_41 : decode cJ6_bitCount_0f7a4 41 = .ok (.iload_n 0, 1) := by decide +kernel
theorem dJ6_bitCount_0f7a4_42 : decode cJ6_bitCount_0f7a4 42 = .ok (.iload_n 0, 1) := by decide +kernel
theorem dJ6_bitCount_0f7a4_43 : decode cJ6_bitCount_0f7a4 43 = .ok (.bipush 16, 2) := by decide +kernel
theorem dJ6_bitCount_0f7a4_45 : decode cJ6_bitCount_0f7a4 45 = .ok (.iushr, 1) := by decide +kernel
theorem dJ6_bitCount_0f7a4_46 : decode cJ6_bitCount_0f7a4 46 = .ok (.iadd, 1) := by decide +kernel
theorem dJ6_bitCount_0f7a4_47 : decode cJ6_bitCount_0f7a4 47 = .ok (.istore_n 0, 1) := by decide +kernel
theorem dJ6_bitCount_0f7a4_48 : decode cJ6_bitCount_0f7a4 48 = .ok (.iload_n 0, 1) := by decide +kernel
theorem dJ6_bitCount_0f7a4_49 : decode cJ6_bitCount_0f7a4 49 = .ok (.bipush 63, 2) := by decide +kernel
theorem dJ6_bitCount_0f7a4_51 : decode cJ6_bitCount_0f7a4 51 = .ok (.iand, 1) := by decide +kernel
theorem dJ6_bitCount_0f7a4_52 : decode cJ6_bitCount_0f7a4 52 = .ok (.ireturn, 1) := by decide +kernel
theorem dJ9_floorMod_7cf53_0 : decode cJ9_floorMod_7cf53 0 = .ok (.iload_n 0, 1) := by decide +kernel
theorem dJ9_floorMod_7cf53_1 : decode cJ9_floorMod_7cf53 1 = .ok (.iload_n 1, 1) := by decide +kernel
theorem dJ9_floorMod_7cf53_2 : decode cJ9_floorMod_7cf53 2 = .ok (.irem, 1) := by decide +kernel
theorem dJ9_floorMod_7cf53_3 : decode cJ9_floorMod_7cf53 3 = .ok (.istore_n 2, 1) := by decide +kernel
theorem dJ9_floorMod_7cf53_4 : decode cJ9_floorMod_7cf53 4 = .ok (.iload_n 0, 1) := by decide +kernel
theorem dJ9_floorMod_7cf53_5 : decode cJ9_floorMod_7cf53 5 = .ok (.iload_n 1, 1) := by decide +kernel
theorem dJ9_floorMod_7cf53_6 : decode cJ9_floorMod_7cf53 6 = .ok (.ixor, 1) := by decide +kernel
theorem dJ9_floorMod_7cf53_7 : decode cJ9_floorMod_7cf53 7 = .ok (.ifCond .ge 11, 3) := by decide +kernel
theorem dJ9_floorMod_7cf53_10 : decode cJ9_floorMod_7cf53 10 = .ok (.iload_n 2, 1) := by decide +kernel
theorem dJ9_floorMod_7cf53_11 : decode cJ9_floorMod_7cf53 11 = .ok (.ifCond .eq 7, 3) := by decide +kernel
theorem dJ9_floorMod_7cf53_14 : decode cJ9_floorMod_7cf53 14 = .ok (.iload_n 2, 1) := by decide +kernel
theorem dJ9_floorMod_7cf53_15 : decode cJ9_floorMod_7cf53 15 = .ok (.iload_n 1, 1) := by decide +kernel
theorem dJ9_floorMod_7cf53_16 : decode cJ9_floorMod_7cf53 16 = .ok (.iadd, 1) := by decide +kernel
theorem dJ9_floorMod_7cf53_17 : decode cJ9_floorMod_7cf53 17 = .ok (.ireturn, 1) := by decide +kernel
theorem dJ9_floorMod_7cf53_18 : decode cJ9_floorMod_7cf53 18 = .ok (.iload_n 2, 1) := by decide +kernel
theorem dJ9_floorMod_7cf53_19 : decode cJ9_floorMod_7cf53 19 = .ok (.ireturn, 1) := by decide +kernel
theorem dJ9_max_7cf53_0 : decode cJ9_max_7cf53 0 = .ok (.iload_n 0, 1) := by decide +kernel
theorem dJ9_max_7cf53_1 : decode cJ9_max_7cf53 1 = .ok (.iload_n 1, 1) := by decide +kernel
theorem dJ9_max_7cf53_2 : decode cJ9_max_7cf53 2 = .ok (.if_icmp .lt 7, 3) := by decide +kernel
theorem dJ9_max_7cf53_5 : decode cJ9_max_7cf53 5 = .ok (.iload_n 0, 1) := by decide +kernel
theorem dJ9_max_7cf53_6 : decode cJ9_max_7cf53 6 = .ok (.goto 4, 3) := by decide +kernel
theorem dJ9_max_7cf53_9 : decode cJ9_max_7cf53 9 = .ok (.iload_n 1, 1) := by decide +kernel
theorem dJ9_max_7cf53_10 : decode cJ9_max_7cf53 10 = .ok (.ireturn, 1) := by decide +kernel
theorem dJ9_min_7cf53_0 : decode cJ9_min_7cf53 0 = .ok (.iload_n 0, 1) := by decide +kernel
theorem dJ9_min_7cf53_1 : decode cJ9_min_7cf53 1 = .ok (.iload_n 1, 1) := by decide +kernel
theorem dJ9_min_7cf53_2 : decode cJ9_min_7cf53 2 = .ok (.if_icmp .gt 7, 3) := by decide +kernel
theorem dJ9_min_7cf53_5 : decode cJ9_min_7cf53 5 = .ok (.iload_n 0, 1) := by decide +kernel
theorem dJ9_min_7cf53_6 : decode cJ9_min_7cf53 6 = .ok (.goto 4, 3) := by decide +kernel
theorem dJ9_min_7cf53_9 : decode cJ9_min_7cf53 9 = .ok (.iload_n 1, 1) := by decide +kernel
theorem dJ9_min_7cf53_10 : decode cJ9_min_7cf53 10 = .ok (.ireturn, 1) := by decide +kernel
theorem dJ7_fill_53178_0 : decode cJ7_fill_53178 0 = .ok (.iconst 0, 1) := by decide +kernel
theorem dJ7_fill_53178_1 : decode cJ7_fill_53178 1 = .ok (.istore_n 2, 1) := by decide +kernel
theorem dJ7_fill_53178_2 : decode cJ7_fill_53178 2 = .ok (.aload_n 0, 1) := by decide +kernel
theorem dJ7_fill_53178_3 : decode cJ7_fill_53178 3 = .ok (.arraylength, 1) := by decide +kernel
theorem dJ7_fill_53178_4 : decode cJ7_fill_53178 4 = .ok (.istore_n 3, 1) := by decide +kernel
theorem dJ7_fill_53178_5 : decode cJ7_fill_53178 5 = .ok (.iload_n 2, 1) := by decide +kernel
theorem dJ7_fill_53178_6 : decode cJ7_fill_53178 6 = .ok (.iload_n 3, 1) := by decide +kernel
theorem dJ7_fill_53178_7 : decode cJ7_fill_53178 7 = .ok (.if_icmp .ge 13, 3) := by decide +kernel
theorem dJ7_fill_53178_10 : decode cJ7_fill_53178 10 = .ok (.aload_n 0, 1) := by decide +kernel
theorem dJ7_fill_53178_11 : decode cJ7_fill_53178 11 = .ok (.iload_n 2, 1) := by decide +kernel
theorem dJ7_fill_53178_12 : decode cJ7_fill_53178 12 = .ok (.iload_n 1, 1) := by decide +kernel
theorem dJ7_fill_53178_13 : decode cJ7_fill_53178 13 = .ok (.iastore, 1) := by decide +kernel
theorem dJ7_fill_53178_14 : decode cJ7_fill_53178 14 = .ok (.iinc 2 1, 3) := by decide +kernel
theorem dJ7_fill_53178_17 : decode cJ7_fill_53178 17 = .ok (.goto (-12), 3) := by decide +kernel
theorem dJ7_fill_53178_20 : decode cJ7_fill_53178 20 = .ok (.return_, 1) := by decide +kernel
