theorem dL_cell_0 : decode cL_cell 0 = .ok (.iload_n 1, 1) := by decide +kernel
theorem dL_cell_1 : decode cL_cell 1 = .ok (.aload_n 0, 1) := by decide +kernel
theorem dL_cell_2 : decode cL_cell 2 = .ok (.arraylength, 1) := by decide +kernel
theorem dL_cell_3 : decode cL_cell 3 = .ok (.if_icmp .ge 9, 3) := by decide +kernel
theorem dL_cell_6 : decode cL_cell 6 = .ok (.aload_n 0, 1) := by decide +kernel
theorem dL_cell_7 : decode cL_cell 7 = .ok (.iload_n 1, 1) := by decide +kernel
theorem dL_cell_8 : decode cL_cell 8 = .ok (.iaload, 1) := by decide +kernel
theorem dL_cell_9 : decode cL_cell 9 = .ok (.goto 15, 3) := by decide +kernel
theorem dL_cell_12 : decode cL_cell 12 = .ok (.ldc 7, 2) := by decide +kernel
theorem dL_cell_14 : decode cL_cell 14 = .ok (.iload_n 1, 1) := by decide +kernel
theorem dL_cell_15 : decode cL_cell 15 = .ok (.sipush 4096, 3) := by decide +kernel
theorem dL_cell_18 : decode cL_cell 18 = .ok (.irem, 1) := by decide +kernel
theorem dL_cell_19 : decode cL_cell 19 = .ok (.imul, 1) := by decide +kernel
theorem dL_cell_20 : decode cL_cell 20 = .ok (.sipush 263, 3) := by decide +kernel
theorem dL_cell_23 : decode cL_cell 23 = .ok (.iadd, 1) := by decide +kernel
theorem dL_cell_24 : decode cL_cell 24 = .ok (.ldc 8, 2) := by decide +kernel
theorem dL_cell_26 : decode cL_cell 26 = .ok (.iand, 1) := by decide +kernel
theorem dL_cell_27 : decode cL_cell 27 = .ok (.ireturn, 1) := by decide +kernel
theorem dL_node_0 : decode cL_node 0 = .ok (.aload_n 0, 1) := by decide +kernel
theorem dL_node_1 : decode cL_node 1 = .ok (.iload_n 1, 1) := by decide +kernel
theorem dL_node_2 : decode cL_node 2 = .ok (.invokevirtual 9, 3) := by decide +kernel
theorem dL_node_5 : decode cL_node 5 = .ok (.ireturn, 1) := by decide +kernel
theorem dL_node_6 : decode cL_node 6 = .ok (.astore_n 2, 1) := by decide +kernel
theorem dL_node_7 : decode cL_node 7 = .ok (.ldc 17, 2) := by decide +kernel
theorem dL_node_9 : decode cL_node 9 = .ok (.ireturn, 1) := by decide +kernel
theorem dL_node_10 : decode cL_node 10 = .ok (.astore_n 2, 1) := by decide +kernel
theorem dL_node_11 : decode cL_node 11 = .ok (.ldc 20, 2) := by decide +kernel
theorem dL_node_13 : decode cL_node 13 = .ok (.ireturn, 1) := by decide +kernel
theorem dL_join_0 : decode cL_join 0 = .ok (.aload_n 0, 1) := by decide +kernel
theorem dL_join_1 : decode cL_join 1 = .ok (.iload_n 1, 1) := by decide +kernel
theorem dL_join_2 : decode cL_join 2 = .ok (.iload_n 2, 1) := by decide +kernel
theorem dL_join_3 : decode cL_join 3 = .ok (.invokevirtual 21, 3) := by decide +kernel
theorem dL_join_6 : decode cL_join 6 = .ok (.ireturn, 1) := by decide +kernel
theorem dL_join_7 : decode cL_join 7 = .ok (.astore_n 3, 1) := by decide +kernel
theorem dL_join_8 : decode cL_join 8 = .ok (.ldc 17, 2) := by decide +kernel
theorem dL_join_10 : decode cL_join 10 = .ok (.ireturn, 1) := by decide +kernel
theorem dL_join_11 : decode cL_join 11 = .ok (.astore_n 3, 1) := by decide +kernel
theorem dL_join_12 : decode cL_join 12 = .ok (.ldc 20, 2) := by decide +kernel
theorem dL_join_14 : decode cL_join 14 = .ok (.ireturn, 1) := by decide +kernel
theorem dL_cut_0 : decode cL_cut 0 = .ok (.aload_n 0, 1) := by decide +kernel
theorem dL_cut_1 : decode cL_cut 1 = .ok (.iload_n 1, 1) := by decide +kernel
theorem dL_cut_2 : decode cL_cut 2 = .ok (.iload_n 2, 1) := by decide +kernel
theorem dL_cut_3 : decode cL_cut 3 = .ok (.invokevirtual 25, 3) := by decide +kernel
theorem dL_cut_6 : decode cL_cut 6 = .ok (.ireturn, 1) := by decide +kernel
theorem dL_cut_7 : decode cL_cut 7 = .ok (.astore_n 3, 1) := by decide +kernel
theorem dL_cut_8 : decode cL_cut 8 = .ok (.ldc 17, 2) := by decide +kernel
theorem dL_cut_10 : decode cL_cut 10 = .ok (.ireturn, 1) := by decide +kernel
theorem dL_cut_11 : decode cL_cut 11 = .ok (.astore_n 3, 1) := by decide +kernel
theorem dL_cut_12 : decode cL_cut 12 = .ok (.ldc 20, 2) := by decide +kernel
theorem dL_cut_14 : decode cL_cut 14 = .ok (.ireturn, 1) := by decide +kernel
theorem dL_take_0 : decode cL_take 0 = .ok (.aload_n 0, 1) := by decide +kernel
theorem dL_take_1 : decode cL_take 1 = .ok (.iload_n 1, 1) := by decide +kernel
theorem dL_take_2 : decode cL_take 2 = .ok (.invokevirtual 28, 3) := by decide +kernel
theorem dL_take_5 : decode cL_take 5 = .ok (.ireturn, 1) := by decide +kernel
theorem dL_take_6 : decode cL_take 6 = .ok (.astore_n 2, 1) := by decide +kernel
theorem dL_take_7 : decode cL_take 7 = .ok (.ldc 17, 2) := by decide +kernel
theorem dL_take_9 : decode cL_take 9 = .ok (.ireturn, 1) := by decide +kernel
theorem dL_take_10 : decode cL_take 10 = .ok (.astore_n 2, 1) := by decide +kernel
theorem dL_take_11 : decode cL_take 11 = .ok (.ldc 20, 2) := by decide +kernel
theorem dL_take_13 : decode cL_take 13 = .ok (.ireturn, 1) := by decide +kernel
theorem dL_reply_0 : decode cL_reply 0 = .ok (.aload_n 0, 1) := by decide +kernel
theorem dL_reply_1 : decode cL_reply 1 = .ok (.invokevirtual 31, 3) := by decide +kernel
theorem dL_reply_4 : decode cL_reply 4 = .ok (.ireturn, 1) := by decide +kernel
theorem dL_reply_5 : decode cL_reply 5 = .ok (.astore_n 1, 1) := by decide +kernel
theorem dL_reply_6 : decode cL_reply 6 = .ok (.ldc 17, 2) := by decide +kernel
theorem dL_reply_8 : decode cL_reply 8 = .ok (.ireturn, 1) := by decide +kernel
theorem dL_append_0 : decode cL_append 0 = .ok (.aload_n 0, 1) := by decide +kernel
theorem dL_append_1 : decode cL_append 1 = .ok (.iload_n 1, 1) := by decide +kernel
theorem dL_append_2 : decode cL_append 2 = .ok (.invokevirtual 35, 3) := by decide +kernel
theorem dL_append_5 : decode cL_append 5 = .ok (.ireturn, 1) := by decide +kernel
theorem dL_append_6 : decode cL_append 6 = .ok (.astore_n 2, 1) := by decide +kernel
theorem dL_append_7 : decode cL_append 7 = .ok (.ldc 17, 2) := by decide +kernel
theorem dL_append_9 : decode cL_append 9 = .ok (.ireturn, 1) := by decide +kernel
theorem dL_append_10 : decode cL_append 10 = .ok (.astore_n 2, 1) := by decide +kernel
theorem dL_append_11 : decode cL_append 11 = .ok (.ldc 20, 2) := by decide +kernel
theorem dL_append_13 : decode cL_append 13 = .ok (.ireturn, 1) := by decide +kernel
theorem dL_load_0 : decode cL_load 0 = .ok (.aload_n 0, 1) := by decide +kernel
theorem dL_load_1 : decode cL_load 1 = .ok (.invokevirtual 40, 3) := by decide +kernel
theorem dL_load_4 : decode cL_load 4 = .ok (.ireturn, 1) := by decide +kernel
theorem dL_load_5 : decode cL_load 5 = .ok (.astore_n 1, 1) := by decide +kernel
theorem dL_load_6 : decode cL_load 6 = .ok (.ldc 17, 2) := by decide +kernel
theorem dL_load_8 : decode cL_load 8 = .ok (.ireturn, 1) := by decide +kernel
theorem dL_keep_0 : decode cL_keep 0 = .ok (.aload_n 0, 1) := by decide +kernel
theorem dL_keep_1 : decode cL_keep 1 = .ok (.iload_n 1, 1) := by decide +kernel
theorem dL_keep_2 : decode cL_keep 2 = .ok (.invokevirtual 43, 3) := by decide +kernel
theorem dL_keep_5 : decode cL_keep 5 = .ok (.ireturn, 1) := by decide +kernel
theorem dL_keep_6 : decode cL_keep 6 = .ok (.astore_n 2, 1) := by decide +kernel
theorem dL_keep_7 : decode cL_keep 7 = .ok (.ldc 17, 2) := by decide +kernel
theorem dL_keep_9 : decode cL_keep 9 = .ok (.ireturn, 1) := by decide +kernel
theorem dL_goBack_0 : decode cL_goBack 0 = .ok (.aload_n 0, 1) := by decide +kernel
theorem dL_goBack_1 : decode cL_goBack 1 = .ok (.iload_n 1, 1) := by decide +kernel
theorem dL_goBack_2 : decode cL_goBack 2 = .ok (.invokevirtual 46, 3) := by decide +kernel
theorem dL_goBack_5 : decode cL_goBack 5 = .ok (.ireturn, 1) := by decide +kernel
theorem dL_goBack_6 : decode cL_goBack 6 = .ok (.astore_n 2, 1) := by decide +kernel
theorem dL_goBack_7 : decode cL_goBack 7 = .ok (.ldc 17, 2) := by decide +kernel
theorem dL_goBack_9 : decode cL_goBack 9 = .ok (.ireturn, 1) := by decide +kernel
theorem dL_goBack_10 : decode cL_goBack 10 = .ok (.astore_n 2, 1) := by decide +kernel
theorem dL_goBack_11 : decode cL_goBack 11 = .ok (.ldc 20, 2) := by decide +kernel
theorem dL_goBack_13 : decode cL_goBack 13 = .ok (.ireturn, 1) := by decide +kernel
theorem dL_undo_0 : decode cL_undo 0 = .ok (.aload_n 0, 1) := by decide +kernel
theorem dL_undo_1 : decode cL_undo 1 = .ok (.invokevirtual 49, 3) := by decide +kernel
theorem dL_undo_4 : decode cL_undo 4 = .ok (.ireturn, 1) := by decide +kernel
theorem dL_undo_5 : decode cL_undo 5 = .ok (.astore_n 1, 1) := by decide +kernel
theorem dL_undo_6 : decode cL_undo 6 = .ok (.ldc 17, 2) := by decide +kernel
theorem dL_undo_8 : decode cL_undo 8 = .ok (.ireturn, 1) := by decide +kernel
theorem dL_nodeOf_0 : decode cL_nodeOf 0 = .ok (.aload_n 0, 1) := by decide +kernel
theorem dL_nodeOf_1 : decode cL_nodeOf 1 = .ok (.iload_n 1, 1) := by decide +kernel
theorem dL_nodeOf_2 : decode cL_nodeOf 2 = .ok (.iload_n 2, 1) := by decide +kernel
theorem dL_nodeOf_3 : decode cL_nodeOf 3 = .ok (.invokevirtual 52, 3) := by decide +kernel
theorem dL_nodeOf_6 : decode cL_nodeOf 6 = .ok (.ireturn, 1) := by decide +kernel
theorem dL_nodeOf_7 : decode cL_nodeOf 7 = .ok (.astore_n 3, 1) := by decide +kernel
theorem dL_nodeOf_8 : decode cL_nodeOf 8 = .ok (.ldc 17, 2) := by decide +kernel
theorem dL_nodeOf_10 : decode cL_nodeOf 10 = .ok (.ireturn, 1) := by decide +kernel
theorem dL_nodeOf_11 : decode cL_nodeOf 11 = .ok (.astore_n 3, 1) := by decide +kernel
theorem dL_nodeOf_12 : decode cL_nodeOf 12 = .ok (.ldc 20, 2) := by decide +kernel
theorem dL_nodeOf_14 : decode cL_nodeOf 14 = .ok (.ireturn, 1) := by decide +kernel
theorem dL_treeOf_0 : decode cL_treeOf 0 = .ok (.aload_n 0, 1) := by decide +kernel
theorem dL_treeOf_1 : decode cL_treeOf 1 = .ok (.iload_n 1, 1) := by decide +kernel
theorem dL_treeOf_2 : decode cL_treeOf 2 = .ok (.iload_n 2, 1) := by decide +kernel
theorem dL_treeOf_3 : decode cL_treeOf 3 = .ok (.invokevirtual 55, 3) := by decide +kernel
theorem dL_treeOf_6 : decode cL_treeOf 6 = .ok (.ireturn, 1) := by decide +kernel
theorem dL_treeOf_7 : decode cL_treeOf 7 = .ok (.astore_n 3, 1) := by decide +kernel
theorem dL_treeOf_8 : decode cL_treeOf 8 = .ok (.ldc 17, 2) := by decide +kernel
theorem dL_treeOf_10 : decode cL_treeOf 10 = .ok (.ireturn, 1) := by decide +kernel
theorem dL_treeOf_11 : decode cL_treeOf 11 = .ok (.astore_n 3, 1) := by decide +kernel
theorem dL_treeOf_12 : decode cL_treeOf 12 = .ok (.ldc 20, 2) := by decide +kernel
theorem dL_treeOf_14 : decode cL_treeOf 14 = .ok (.ireturn, 1) := by decide +kernel
theorem dL_count_0 : decode cL_count 0 = .ok (.aload_n 0, 1) := by decide +kernel
theorem dL_count_1 : decode cL_count 1 = .ok (.iload_n 1, 1) := by decide +kernel
theorem dL_count_2 : decode cL_count 2 = .ok (.invokevirtual 58, 3) := by decide +kernel
theorem dL_count_5 : decode cL_count 5 = .ok (.ireturn, 1) := by decide +kernel
theorem dL_count_6 : decode cL_count 6 = .ok (.astore_n 2, 1) := by decide +kernel
theorem dL_count_7 : decode cL_count 7 = .ok (.ldc 17, 2) := by decide +kernel
theorem dL_count_9 : decode cL_count 9 = .ok (.ireturn, 1) := by decide +kernel
theorem dL_mirror_0 : decode cL_mirror 0 = .ok (.aload_n 0, 1) := by decide +kernel
theorem dL_mirror_1 : decode cL_mirror 1 = .ok (.iload_n 1, 1) := by decide +kernel
theorem dL_mirror_2 : decode cL_mirror 2 = .ok (.invokevirtual 61, 3) := by decide +kernel
theorem dL_mirror_5 : decode cL_mirror 5 = .ok (.ireturn, 1) := by decide +kernel
theorem dL_mirror_6 : decode cL_mirror 6 = .ok (.astore_n 2, 1) := by decide +kernel
theorem dL_mirror_7 : decode cL_mirror 7 = .ok (.ldc 17, 2) := by decide +kernel
theorem dL_mirror_9 : decode cL_mirror 9 = .ok (.ireturn, 1) := by decide +kernel
theorem dL_ifJoined_0 : decode cL_ifJoined 0 = .ok (.aload_n 0, 1) := by decide +kernel
theorem dL_ifJoined_1 : decode cL_ifJoined 1 = .ok (.iload_n 1, 1) := by decide +kernel
theorem dL_ifJoined_2 : decode cL_ifJoined 2 = .ok (.iload_n 2, 1) := by decide +kernel
theorem dL_ifJoined_3 : decode cL_ifJoined 3 = .ok (.invokevirtual 64, 3) := by decide +kernel
theorem dL_ifJoined_6 : decode cL_ifJoined 6 = .ok (.ireturn, 1) := by decide +kernel
theorem dL_ifJoined_7 : decode cL_ifJoined 7 = .ok (.astore_n 3, 1) := by decide +kernel
theorem dL_ifJoined_8 : decode cL_ifJoined 8 = .ok (.ldc 17, 2) := by decide +kernel
theorem dL_ifJoined_10 : decode cL_ifJoined 10 = .ok (.ireturn, 1) := by decide +kernel
theorem dL_value_0 : decode cL_value 0 = .ok (.aload_n 0, 1) := by decide +kernel
theorem dL_value_1 : decode cL_value 1 = .ok (.iload_n 1, 1) := by decide +kernel
theorem dL_value_2 : decode cL_value 2 = .ok (.invokevirtual 67, 3) := by decide +kernel
theorem dL_value_5 : decode cL_value 5 = .ok (.ireturn, 1) := by decide +kernel
theorem dL_value_6 : decode cL_value 6 = .ok (.astore_n 2, 1) := by decide +kernel
theorem dL_value_7 : decode cL_value 7 = .ok (.ldc 17, 2) := by decide +kernel
theorem dL_value_9 : decode cL_value 9 = .ok (.ireturn, 1) := by decide +kernel
theorem dL_acts_0 : decode cL_acts 0 = .ok (.iload_n 1, 1) := by decide +kernel
theorem dL_acts_1 : decode cL_acts 1 = .ok (.bipush 16, 2) := by decide +kernel
theorem dL_acts_3 : decode cL_acts 3 = .ok (.idiv, 1) := by decide +kernel
theorem dL_acts_4 : decode cL_acts 4 = .ok (.istore_n 2, 1) := by decide +kernel
theorem dL_acts_5 : decode cL_acts 5 = .ok (.iload_n 1, 1) := by decide +kernel
theorem dL_acts_6 : decode cL_acts 6 = .ok (.bipush 16, 2) := by decide +kernel
theorem dL_acts_8 : decode cL_acts 8 = .ok (.irem, 1) := by decide +kernel
theorem dL_acts_9 : decode cL_acts 9 = .ok (.tableswitch 157 0 12 #[67, 67, 67, 67, 78, 78, 94, 110, 110, 110, 119, 124, 129], 67) := by decide +kernel
theorem dL_acts_76 : decode cL_acts 76 = .ok (.aload_n 0, 1) := by decide +kernel
theorem dL_acts_77 : decode cL_acts 77 = .ok (.iload_n 2, 1) := by decide +kernel
theorem dL_acts_78 : decode cL_acts 78 = .ok (.bipush 12, 2) := by decide +kernel
theorem dL_acts_80 : decode cL_acts 80 = .ok (.irem, 1) := by decide +kernel
theorem dL_acts_81 : decode cL_acts 81 = .ok (.iconst 1, 1) := by decide +kernel
theorem dL_acts_82 : decode cL_acts 82 = .ok (.isub, 1) := by decide +kernel
theorem dL_acts_83 : decode cL_acts 83 = .ok (.invokestatic 70, 3) := by decide +kernel
theorem dL_acts_86 : decode cL_acts 86 = .ok (.ireturn, 1) := by decide +kernel
theorem dL_acts_87 : decode cL_acts 87 = .ok (.aload_n 0, 1) := by decide +kernel
theorem dL_acts_88 : decode cL_acts 88 = .ok (.iload_n 2, 1) := by decide +kernel
theorem dL_acts_89 : decode cL_acts 89 = .ok (.bipush 10, 2) := by decide +kernel
theorem dL_acts_91 : decode cL_acts 91 = .ok (.irem, 1) := by decide +kernel
theorem dL_acts_92 : decode cL_acts 92 = .ok (.iload_n 2, 1) := by decide +kernel
theorem dL_acts_93 : decode cL_acts 93 = .ok (.bipush 16, 2) := by decide +kernel
theorem dL_acts_95 : decode cL_acts 95 = .ok (.idiv, 1) := by decide +kernel
theorem dL_acts_96 : decode cL_acts 96 = .ok (.bipush 10, 2) := by decide +kernel
theorem dL_acts_98 : decode cL_acts 98 = .ok (.irem, 1) := by decide +kernel
theorem dL_acts_99 : decode cL_acts 99 = .ok (.invokestatic 75, 3) := by decide +kernel
theorem dL_acts_102 : decode cL_acts 102 = .ok (.ireturn, 1) := by decide +kernel
theorem dL_acts_103 : decode cL_acts 103 = .ok (.aload_n 0, 1) := by decide +kernel
theorem dL_acts_104 : decode cL_acts 104 = .ok (.iload_n 2, 1) := by decide +kernel
theorem dL_acts_105 : decode cL_acts 105 = .ok (.bipush 10, 2) := by decide +kernel
theorem dL_acts_107 : decode cL_acts 107 = .ok (.irem, 1) := by decide +kernel
theorem dL_acts_108 : decode cL_acts 108 = .ok (.iload_n 2, 1) := by decide +kernel
theorem dL_acts_109 : decode cL_acts 109 = .ok (.bipush 16, 2) := by decide +kernel
theorem dL_acts_111 : decode cL_acts 111 = .ok (.idiv, 1) := by decide +kernel
theorem dL_acts_112 : decode cL_acts 112 = .ok (.bipush 10, 2) := by decide +kernel
theorem dL_acts_114 : decode cL_acts 114 = .ok (.irem, 1) := by decide +kernel
theorem dL_acts_115 : decode cL_acts 115 = .ok (.invokestatic 78, 3) := by decide +kernel
theorem dL_acts_118 : decode cL_acts 118 = .ok (.ireturn, 1) := by decide +kernel
theorem dL_acts_119 : decode cL_acts 119 = .ok (.aload_n 0, 1) := by decide +kernel
theorem dL_acts_120 : decode cL_acts 120 = .ok (.iload_n 2, 1) := by decide +kernel
theorem dL_acts_121 : decode cL_acts 121 = .ok (.bipush 10, 2) := by decide +kernel
theorem dL_acts_123 : decode cL_acts 123 = .ok (.irem, 1) := by decide +kernel
theorem dL_acts_124 : decode cL_acts 124 = .ok (.invokestatic 80, 3) := by decide +kernel
theorem dL_acts_127 : decode cL_acts 127 = .ok (.ireturn, 1) := by decide +kernel
theorem dL_acts_128 : decode cL_acts 128 = .ok (.aload_n 0, 1) := by decide +kernel
theorem dL_acts_129 : decode cL_acts 129 = .ok (.invokestatic 82, 3) := by decide +kernel
theorem dL_acts_132 : decode cL_acts 132 = .ok (.ireturn, 1) := by decide +kernel
theorem dL_acts_133 : decode cL_acts 133 = .ok (.aload_n 0, 1) := by decide +kernel
theorem dL_acts_134 : decode cL_acts 134 = .ok (.invokevirtual 85, 3) := by decide +kernel
theorem dL_acts_137 : decode cL_acts 137 = .ok (.ireturn, 1) := by decide +kernel
theorem dL_acts_138 : decode cL_acts 138 = .ok (.iload_n 2, 1) := by decide +kernel
theorem dL_acts_139 : decode cL_acts 139 = .ok (.iconst 2, 1) := by decide +kernel
theorem dL_acts_140 : decode cL_acts 140 = .ok (.irem, 1) := by decide +kernel
theorem dL_acts_141 : decode cL_acts 141 = .ok (.ifCond .ne 15, 3) := by decide +kernel
theorem dL_acts_144 : decode cL_acts 144 = .ok (.aload_n 0, 1) := by decide +kernel
theorem dL_acts_145 : decode cL_acts 145 = .ok (.iload_n 2, 1) := by decide +kernel
theorem dL_acts_146 : decode cL_acts 146 = .ok (.iconst 2, 1) := by decide +kernel
theorem dL_acts_147 : decode cL_acts 147 = .ok (.idiv, 1) := by decide +kernel
theorem dL_acts_148 : decode cL_acts 148 = .ok (.iconst 2, 1) := by decide +kernel
theorem dL_acts_149 : decode cL_acts 149 = .ok (.irem, 1) := by decide +kernel
theorem dL_acts_150 : decode cL_acts 150 = .ok (.invokestatic 88, 3) := by decide +kernel
theorem dL_acts_153 : decode cL_acts 153 = .ok (.goto 12, 3) := by decide +kernel
theorem dL_acts_156 : decode cL_acts 156 = .ok (.aload_n 0, 1) := by decide +kernel
theorem dL_acts_157 : decode cL_acts 157 = .ok (.iload_n 2, 1) := by decide +kernel
theorem dL_acts_158 : decode cL_acts 158 = .ok (.iconst 2, 1) := by decide +kernel
theorem dL_acts_159 : decode cL_acts 159 = .ok (.idiv, 1) := by decide +kernel
theorem dL_acts_160 : decode cL_acts 160 = .ok (.iconst 2, 1) := by decide +kernel
theorem dL_acts_161 : decode cL_acts 161 = .ok (.irem, 1) := by decide +kernel
theorem dL_acts_162 : decode cL_acts 162 = .ok (.invokestatic 90, 3) := by decide +kernel
theorem dL_acts_165 : decode cL_acts 165 = .ok (.ireturn, 1) := by decide +kernel
theorem dL_acts_166 : decode cL_acts 166 = .ok (.aload_n 0, 1) := by decide +kernel
theorem dL_acts_167 : decode cL_acts 167 = .ok (.iload_n 2, 1) := by decide +kernel
theorem dL_acts_168 : decode cL_acts 168 = .ok (.iconst 4, 1) := by decide +kernel
theorem dL_acts_169 : decode cL_acts 169 = .ok (.irem, 1) := by decide +kernel
theorem dL_acts_170 : decode cL_acts 170 = .ok (.ifCond .ne 7, 3) := by decide +kernel
theorem dL_acts_173 : decode cL_acts 173 = .ok (.iconst (-1), 1) := by decide +kernel
theorem dL_acts_174 : decode cL_acts 174 = .ok (.goto 10, 3) := by decide +kernel
theorem dL_acts_177 : decode cL_acts 177 = .ok (.aload_n 0, 1) := by decide +kernel
theorem dL_acts_178 : decode cL_acts 178 = .ok (.iconst 0, 1) := by decide +kernel
theorem dL_acts_179 : decode cL_acts 179 = .ok (.invokestatic 92, 3) := by decide +kernel
theorem dL_acts_182 : decode cL_acts 182 = .ok (.iconst 1, 1) := by decide +kernel
theorem dL_acts_183 : decode cL_acts 183 = .ok (.isub, 1) := by decide +kernel
theorem dL_acts_184 : decode cL_acts 184 = .ok (.invokestatic 70, 3) := by decide +kernel
theorem dL_acts_187 : decode cL_acts 187 = .ok (.ireturn, 1) := by decide +kernel
theorem dL_bits_0 : decode cL_bits 0 = .ok (.iconst 0, 1) := by decide +kernel
theorem dL_bits_1 : decode cL_bits 1 = .ok (.istore_n 1, 1) := by decide +kernel
theorem dL_bits_2 : decode cL_bits 2 = .ok (.iconst 0, 1) := by decide +kernel
theorem dL_bits_3 : decode cL_bits 3 = .ok (.istore_n 2, 1) := by decide +kernel
theorem dL_bits_4 : decode cL_bits 4 = .ok (.iload_n 2, 1) := by decide +kernel
theorem dL_bits_5 : decode cL_bits 5 = .ok (.bipush 14, 2) := by decide +kernel
theorem dL_bits_7 : decode cL_bits 7 = .ok (.if_icmp .ge 17, 3) := by decide +kernel
theorem dL_bits_10 : decode cL_bits 10 = .ok (.iload_n 1, 1) := by decide +kernel
theorem dL_bits_11 : decode cL_bits 11 = .ok (.iload_n 0, 1) := by decide +kernel
theorem dL_bits_12 : decode cL_bits 12 = .ok (.iload_n 2, 1) := by decide +kernel
theorem dL_bits_13 : decode cL_bits 13 = .ok (.ishr, 1) := by decide +kernel
theorem dL_bits_14 : decode cL_bits 14 = .ok (.iconst 1, 1) := by decide +kernel
theorem dL_bits_15 : decode cL_bits 15 = .ok (.iand, 1) := by decide +kernel
theorem dL_bits_16 : decode cL_bits 16 = .ok (.iadd, 1) := by decide +kernel
theorem dL_bits_17 : decode cL_bits 17 = .ok (.istore_n 1, 1) := by decide +kernel
theorem dL_bits_18 : decode cL_bits 18 = .ok (.iinc 2 1, 3) := by decide +kernel
theorem dL_bits_21 : decode cL_bits 21 = .ok (.goto (-17), 3) := by decide +kernel
theorem dL_bits_24 : decode cL_bits 24 = .ok (.iload_n 1, 1) := by decide +kernel
theorem dL_bits_25 : decode cL_bits 25 = .ok (.ireturn, 1) := by decide +kernel
theorem dL_least_0 : decode cL_least 0 = .ok (.iconst 0, 1) := by decide +kernel
theorem dL_least_1 : decode cL_least 1 = .ok (.istore_n 1, 1) := by decide +kernel
theorem dL_least_2 : decode cL_least 2 = .ok (.iload_n 0, 1) := by decide +kernel
theorem dL_least_3 : decode cL_least 3 = .ok (.iload_n 1, 1) := by decide +kernel
theorem dL_least_4 : decode cL_least 4 = .ok (.ishr, 1) := by decide +kernel
theorem dL_least_5 : decode cL_least 5 = .ok (.iconst 1, 1) := by decide +kernel
theorem dL_least_6 : decode cL_least 6 = .ok (.iand, 1) := by decide +kernel
theorem dL_least_7 : decode cL_least 7 = .ok (.iconst 1, 1) := by decide +kernel
theorem dL_least_8 : decode cL_least 8 = .ok (.if_icmp .ne 9, 3) := by decide +kernel
theorem dL_least_11 : decode cL_least 11 = .ok (.iinc 1 1, 3) := by decide +kernel
theorem dL_least_14 : decode cL_least 14 = .ok (.goto (-12), 3) := by decide +kernel
theorem dL_least_17 : decode cL_least 17 = .ok (.iload_n 1, 1) := by decide +kernel
theorem dL_least_18 : decode cL_least 18 = .ok (.ireturn, 1) := by decide +kernel
theorem kw_L_node : kcW yL_node cL_node 3 (some .int) [(0, 5, 6, 15), (0, 5, 10, 18)] 2 := ⟨mw_437, mw_438, mw_374, ⟨by decide +kernel, by decide +kernel, by decide +kernel⟩⟩
theorem kw_L_join : kcW yL_join cL_join 4 (some .int) [(0, 6, 7, 15), (0, 6, 11, 18)] 3 := ⟨mw_440, mw_438, mw_378, ⟨by decide +kernel, by decide +kernel, by decide +kernel⟩⟩
theorem kw_L_cut : kcW yL_cut cL_cut 4 (some .int) [(0, 6, 7, 15), (0, 6, 11, 18)] 3 := ⟨mw_442, mw_438, mw_382, ⟨by decide +kernel, by decide +kernel, by decide +kernel⟩⟩
theorem kw_L_take : kcW yL_take cL_take 3 (some .int) [(0, 5, 6, 15), (0, 5, 10, 18)] 2 := ⟨mw_444, mw_438, mw_386, ⟨by decide +kernel, by decide +kernel, by decide +kernel⟩⟩
theorem kw_L_reply : kcW yL_reply cL_reply 2 (some .int) [(0, 4, 5, 18)] 1 := ⟨mw_446, mw_438, mw_390, ⟨by decide +kernel, by decide +kernel, by decide +kernel⟩⟩
theorem kw_L_append : kcW yL_append cL_append 3 (some .int) [(0, 5, 6, 38), (0, 5, 10, 18)] 2 := ⟨mw_499, mw_438, mw_391, ⟨by decide +kernel, by decide +kernel, by decide +kernel⟩⟩
theorem kw_L_load : kcW yL_load cL_load 2 (some .int) [(0, 4, 5, 38)] 1 := ⟨mw_489, mw_438, mw_399, ⟨by decide +kernel, by decide +kernel, by decide +kernel⟩⟩
theorem kw_L_keep : kcW yL_keep cL_keep 3 (some .int) [(0, 5, 6, 38)] 2 := ⟨mw_453, mw_438, mw_403, ⟨by decide +kernel, by decide +kernel, by decide +kernel⟩⟩
theorem kw_L_goBack : kcW yL_goBack cL_goBack 3 (some .int) [(0, 5, 6, 38), (0, 5, 10, 18)] 2 := ⟨mw_451, mw_438, mw_407, ⟨by decide +kernel, by decide +kernel, by decide +kernel⟩⟩
theorem kw_L_undo : kcW yL_undo cL_undo 2 (some .int) [(0, 4, 5, 18)] 1 := ⟨mw_484, mw_438, mw_411, ⟨by decide +kernel, by decide +kernel, by decide +kernel⟩⟩
theorem kw_L_nodeOf : kcW yL_nodeOf cL_nodeOf 4 (some .int) [(0, 6, 7, 15), (0, 6, 11, 38)] 3 := ⟨mw_460, mw_438, mw_415, ⟨by decide +kernel, by decide +kernel, by decide +kernel⟩⟩
theorem kw_L_treeOf : kcW yL_treeOf cL_treeOf 4 (some .int) [(0, 6, 7, 15), (0, 6, 11, 38)] 3 := ⟨mw_462, mw_438, mw_419, ⟨by decide +kernel, by decide +kernel, by decide +kernel⟩⟩
theorem kw_L_count : kcW yL_count cL_count 3 (some .int) [(0, 5, 6, 38)] 2 := ⟨mw_455, mw_438, mw_423, ⟨by decide +kernel, by decide +kernel, by decide +kernel⟩⟩
theorem kw_L_mirror : kcW yL_mirror cL_mirror 3 (some .int) [(0, 5, 6, 38)] 2 := ⟨mw_476, mw_438, mw_427, ⟨by decide +kernel, by decide +kernel, by decide +kernel⟩⟩
theorem kw_L_ifJoined : kcW yL_ifJoined cL_ifJoined 4 (some .int) [(0, 6, 7, 15)] 3 := ⟨mw_495, mw_438, mw_431, ⟨by decide +kernel, by decide +kernel, by decide +kernel⟩⟩
theorem kw_L_value : kcW yL_value cL_value 3 (some .int) [(0, 5, 6, 38)] 2 := ⟨mw_466, mw_438, mw_435, ⟨by decide +kernel, by decide +kernel, by decide +kernel⟩⟩
theorem kv_L_cell : kcS yL_cell cL_cell 2 (some .int) 2 := ⟨mw_493, mw_438, mw_364, ⟨by decide +kernel, by decide +kernel, by decide +kernel⟩⟩
theorem kv_L_acts : kcS yL_acts cL_acts 3 (some .int) 2 := ⟨mw_497, mw_438, mw_456, ⟨by decide +kernel, by decide +kernel, by decide +kernel⟩⟩
theorem kv_L_bits : kcS yL_bits cL_bits 3 (some .int) 1 := ⟨mw_464, mw_438, mw_457, ⟨by decide +kernel, by decide +kernel, by decide +kernel⟩⟩
theorem kv_L_least : kcS yL_least cL_least 2 (some .int) 1 := ⟨mw_471, mw_438, mw_458, ⟨by decide +kernel, by decide +kernel, by decide +kernel⟩⟩
theorem kv_L_hangs : kcS yL_hangs cL_hangs 19 (some .boolean) 1 := ⟨mw_491, mw_438, mw_477, ⟨by decide +kernel, by decide +kernel, by decide +kernel⟩⟩
