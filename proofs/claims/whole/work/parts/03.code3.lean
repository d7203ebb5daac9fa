theorem dX6_dutyOn_6 : decode cX6_dutyOn 6 = .ok (.iaload, 1) := by decide +kernel
theorem dX6_dutyOn_7 : decode cX6_dutyOn 7 = .ok (.if_icmp .le 25, 3) := by decide +kernel
theorem dX6_dutyOn_10 : decode cX6_dutyOn 10 = .ok (.iload_n 1, 1) := by decide +kernel
theorem dX6_dutyOn_11 : decode cX6_dutyOn 11 = .ok (.aload_n 0, 1) := by decide +kernel
theorem dX6_dutyOn_12 : decode cX6_dutyOn 12 = .ok (.getfield 7, 3) := by decide +kernel
theorem dX6_dutyOn_15 : decode cX6_dutyOn 15 = .ok (.iconst 5, 1) := by decide +kernel
theorem dX6_dutyOn_16 : decode cX6_dutyOn 16 = .ok (.iaload, 1) := by decide +kernel
theorem dX6_dutyOn_17 : decode cX6_dutyOn 17 = .ok (.isub, 1) := by decide +kernel
theorem dX6_dutyOn_18 : decode cX6_dutyOn 18 = .ok (.aload_n 0, 1) := by decide +kernel
theorem dX6_dutyOn_19 : decode cX6_dutyOn 19 = .ok (.getfield 7, 3) := by decide +kernel
theorem dX6_dutyOn_22 : decode cX6_dutyOn 22 = .ok (.bipush 6, 2) := by decide +kernel
theorem dX6_dutyOn_24 : decode cX6_dutyOn 24 = .ok (.iaload, 1) := by decide +kernel
theorem dX6_dutyOn_25 : decode cX6_dutyOn 25 = .ok (.imul, 1) := by decide +kernel
theorem dX6_dutyOn_26 : decode cX6_dutyOn 26 = .ok (.bipush 100, 2) := by decide +kernel
theorem dX6_dutyOn_28 : decode cX6_dutyOn 28 = .ok (.idiv, 1) := by decide +kernel
theorem dX6_dutyOn_29 : decode cX6_dutyOn 29 = .ok (.goto 4, 3) := by decide +kernel
theorem dX6_dutyOn_32 : decode cX6_dutyOn 32 = .ok (.iconst 0, 1) := by decide +kernel
theorem dX6_dutyOn_33 : decode cX6_dutyOn 33 = .ok (.ireturn, 1) := by decide +kernel
theorem dX6_shares_0 : decode cX6_shares 0 = .ok (.iconst 0, 1) := by decide +kernel
theorem dX6_shares_1 : decode cX6_shares 1 = .ok (.istore_n 2, 1) := by decide +kernel
theorem dX6_shares_2 : decode cX6_shares 2 = .ok (.iconst 0, 1) := by decide +kernel
theorem dX6_shares_3 : decode cX6_shares 3 = .ok (.istore_n 3, 1) := by decide +kernel
theorem dX6_shares_4 : decode cX6_shares 4 = .ok (.iload_n 3, 1) := by decide +kernel
theorem dX6_shares_5 : decode cX6_shares 5 = .ok (.bipush 6, 2) := by decide +kernel
theorem dX6_shares_7 : decode cX6_shares 7 = .ok (.if_icmp .ge 18, 3) := by decide +kernel
theorem dX6_shares_10 : decode cX6_shares 10 = .ok (.iload_n 2, 1) := by decide +kernel
theorem dX6_shares_11 : decode cX6_shares 11 = .ok (.aload_n 0, 1) := by decide +kernel
theorem dX6_shares_12 : decode cX6_shares 12 = .ok (.getfield 29, 3) := by decide +kernel
theorem dX6_shares_15 : decode cX6_shares 15 = .ok (.iload_n 3, 1) := by decide +kernel
theorem dX6_shares_16 : decode cX6_shares 16 = .ok (.iaload, 1) := by decide +kernel
theorem dX6_shares_17 : decode cX6_shares 17 = .ok (.iadd, 1) := by decide +kernel
theorem dX6_shares_18 : decode cX6_shares 18 = .ok (.istore_n 2, 1) := by decide +kernel
theorem dX6_shares_19 : decode cX6_shares 19 = .ok (.iinc 3 1, 3) := by decide +kernel
theorem dX6_shares_22 : decode cX6_shares 22 = .ok (.goto (-18), 3) := by decide +kernel
theorem dX6_shares_25 : decode cX6_shares 25 = .ok (.iload_n 1, 1) := by decide +kernel
theorem dX6_shares_26 : decode cX6_shares 26 = .ok (.istore_n 3, 1) := by decide +kernel
theorem dX6_shares_27 : decode cX6_shares 27 = .ok (.iconst 0, 1) := by decide +kernel
theorem dX6_shares_28 : decode cX6_shares 28 = .ok (.istore 4, 2) := by decide +kernel
theorem dX6_shares_30 : decode cX6_shares 30 = .ok (.iload 4, 2) := by decide +kernel
theorem dX6_shares_32 : decode cX6_shares 32 = .ok (.bipush 6, 2) := by decide +kernel
theorem dX6_shares_34 : decode cX6_shares 34 = .ok (.if_icmp .ge 45, 3) := by decide +kernel
theorem dX6_shares_37 : decode cX6_shares 37 = .ok (.aload_n 0, 1) := by decide +kernel
theorem dX6_shares_38 : decode cX6_shares 38 = .ok (.getfield 32, 3) := by decide +kernel
theorem dX6_shares_41 : decode cX6_shares 41 = .ok (.iload 4, 2) := by decide +kernel
theorem dX6_shares_43 : decode cX6_shares 43 = .ok (.iload_n 2, 1) := by decide +kernel
theorem dX6_shares_44 : decode cX6_shares 44 = .ok (.ifCond .ne 7, 3) := by decide +kernel
theorem dX6_shares_47 : decode cX6_shares 47 = .ok (.iconst 0, 1) := by decide +kernel
theorem dX6_shares_48 : decode cX6_shares 48 = .ok (.goto 14, 3) := by decide +kernel
theorem dX6_shares_51 : decode cX6_shares 51 = .ok (.iload_n 1, 1) := by decide +kernel
theorem dX6_shares_52 : decode cX6_shares 52 = .ok (.aload_n 0, 1) := by decide +kernel
theorem dX6_shares_53 : decode cX6_shares 53 = .ok (.getfield 29, 3) := by decide +kernel
theorem dX6_shares_56 : decode cX6_shares 56 = .ok (.iload 4, 2) := by decide +kernel
theorem dX6_shares_58 : decode cX6_shares 58 = .ok (.iaload, 1) := by decide +kernel
theorem dX6_shares_59 : decode cX6_shares 59 = .ok (.imul, 1) := by decide +kernel
theorem dX6_shares_60 : decode cX6_shares 60 = .ok (.iload_n 2, 1) := by decide +kernel
theorem dX6_shares_61 : decode cX6_shares 61 = .ok (.idiv, 1) := by decide +kernel
theorem dX6_shares_62 : decode cX6_shares 62 = .ok (.iastore, 1) := by decide +kernel
theorem dX6_shares_63 : decode cX6_shares 63 = .ok (.iload_n 3, 1) := by decide +kernel
theorem dX6_shares_64 : decode cX6_shares 64 = .ok (.aload_n 0, 1) := by decide +kernel
theorem dX6_shares_65 : decode cX6_shares 65 = .ok (.getfield 32, 3) := by decide +kernel
theorem dX6_shares_68 : decode cX6_shares 68 = .ok (.iload 4, 2) := by decide +kernel
theorem dX6_shares_70 : decode cX6_shares 70 = .ok (.iaload, 1) := by decide +kernel
theorem dX6_shares_71 : decode cX6_shares 71 = .ok (.isub, 1) := by decide +kernel
theorem dX6_shares_72 : decode cX6_shares 72 = .ok (.istore_n 3, 1) := by decide +kernel
theorem dX6_shares_73 : decode cX6_shares 73 = .ok (.iinc 4 1, 3) := by decide +kernel
theorem dX6_shares_76 : decode cX6_shares 76 = .ok (.goto (-46), 3) := by decide +kernel
theorem dX6_shares_79 : decode cX6_shares 79 = .ok (.iconst 0, 1) := by decide +kernel
theorem dX6_shares_80 : decode cX6_shares 80 = .ok (.istore 4, 2) := by decide +kernel
theorem dX6_shares_82 : decode cX6_shares 82 = .ok (.iload 4, 2) := by decide +kernel
theorem dX6_shares_84 : decode cX6_shares 84 = .ok (.bipush 6, 2) := by decide +kernel
theorem dX6_shares_86 : decode cX6_shares 86 = .ok (.if_icmp .ge 67, 3) := by decide +kernel
theorem dX6_shares_89 : decode cX6_shares 89 = .ok (.iload_n 2, 1) := by decide +kernel
theorem dX6_shares_90 : decode cX6_shares 90 = .ok (.ifCond .le 63, 3) := by decide +kernel
theorem dX6_shares_93 : decode cX6_shares 93 = .ok (.aload_n 0, 1) := by decide +kernel
theorem dX6_shares_94 : decode cX6_shares 94 = .ok (.getfield 29, 3) := by decide +kernel
theorem dX6_shares_97 : decode cX6_shares 97 = .ok (.iload 4, 2) := by decide +kernel
theorem dX6_shares_99 : decode cX6_shares 99 = .ok (.iaload, 1) := by decide +kernel
theorem dX6_shares_100 : decode cX6_shares 100 = .ok (.ifCond .le 11, 3) := by decide +kernel
theorem dX6_shares_103 : decode cX6_shares 103 = .ok (.iload_n 3, 1) := by decide +kernel
theorem dX6_shares_104 : decode cX6_shares 104 = .ok (.ifCond .le 7, 3) := by decide +kernel
theorem dX6_shares_107 : decode cX6_shares 107 = .ok (.iconst 1, 1) := by decide +kernel
theorem dX6_shares_108 : decode cX6_shares 108 = .ok (.goto 4, 3) := by decide +kernel
theorem dX6_shares_111 : decode cX6_shares 111 = .ok (.iconst 0, 1) := by decide +kernel
theorem dX6_shares_112 : decode cX6_shares 112 = .ok (.istore 5, 2) := by decide +kernel
theorem dX6_shares_114 : decode cX6_shares 114 = .ok (.aload_n 0, 1) := by decide +kernel
theorem dX6_shares_115 : decode cX6_shares 115 = .ok (.getfield 32, 3) := by decide +kernel
theorem dX6_shares_118 : decode cX6_shares 118 = .ok (.iload 4, 2) := by decide +kernel
theorem dX6_shares_120 : decode cX6_shares 120 = .ok (.dup2, 1) := by decide +kernel
theorem dX6_shares_121 : decode cX6_shares 121 = .ok (.iaload, 1) := by decide +kernel
theorem dX6_shares_122 : decode cX6_shares 122 = .ok (.iload 5, 2) := by decide +kernel
theorem dX6_shares_124 : decode cX6_shares 124 = .ok (.ifCond .eq 7, 3) := by decide +kernel
theorem dX6_shares_127 : decode cX6_shares 127 = .ok (.iconst 1, 1) := by decide +kernel
theorem dX6_shares_128 : decode cX6_shares 128 = .ok (.goto 4, 3) := by decide +kernel
theorem dX6_shares_131 : decode cX6_shares 131 = .ok (.iconst 0, 1) := by decide +kernel
theorem dX6_shares_132 : decode cX6_shares 132 = .ok (.iadd, 1) := by decide +kernel
theorem dX6_shares_133 : decode cX6_shares 133 = .ok (.iastore, 1) := by decide +kernel
theorem dX6_shares_134 : decode cX6_shares 134 = .ok (.iload_n 3, 1) := by decide +kernel
theorem dX6_shares_135 : decode cX6_shares 135 = .ok (.iload 5, 2) := by decide +kernel
theorem dX6_shares_137 : decode cX6_shares 137 = .ok (.ifCond .eq 7, 3) := by decide +kernel
theorem dX6_shares_140 : decode cX6_shares 140 = .ok (.iconst 1, 1) := by decide +kernel
theorem dX6_shares_141 : decode cX6_shares 141 = .ok (.goto 4, 3) := by decide +kernel
theorem dX6_shares_144 : decode cX6_shares 144 = .ok (.iconst 0, 1) := by decide +kernel
theorem dX6_shares_145 : decode cX6_shares 145 = .ok (.isub, 1) := by decide +kernel
theorem dX6_shares_146 : decode cX6_shares 146 = .ok (.istore_n 3, 1) := by decide +kernel
theorem dX6_shares_147 : decode cX6_shares 147 = .ok (.iinc 4 1, 3) := by decide +kernel
theorem dX6_shares_150 : decode cX6_shares 150 = .ok (.goto (-68), 3) := by decide +kernel
theorem dX6_shares_153 : decode cX6_shares 153 = .ok (.return_, 1) := by decide +kernel
theorem dX6_ownOf_0 : decode cX6_ownOf 0 = .ok (.iconst 0, 1) := by decide +kernel
theorem dX6_ownOf_1 : decode cX6_ownOf 1 = .ok (.istore_n 3, 1) := by decide +kernel
theorem dX6_ownOf_2 : decode cX6_ownOf 2 = .ok (.iconst 0, 1) := by decide +kernel
theorem dX6_ownOf_3 : decode cX6_ownOf 3 = .ok (.istore 4, 2) := by decide +kernel
theorem dX6_ownOf_5 : decode cX6_ownOf 5 = .ok (.iload 4, 2) := by decide +kernel
theorem dX6_ownOf_7 : decode cX6_ownOf 7 = .ok (.bipush 8, 2) := by decide +kernel
theorem dX6_ownOf_9 : decode cX6_ownOf 9 = .ok (.if_icmp .ge 42, 3) := by decide +kernel
theorem dX6_ownOf_12 : decode cX6_ownOf 12 = .ok (.iload_n 1, 1) := by decide +kernel
theorem dX6_ownOf_13 : decode cX6_ownOf 13 = .ok (.iload_n 2, 1) := by decide +kernel
theorem dX6_ownOf_14 : decode cX6_ownOf 14 = .ok (.invokestatic 43, 3) := by decide +kernel
theorem dX6_ownOf_17 : decode cX6_ownOf 17 = .ok (.ifCond .eq 34, 3) := by decide +kernel
theorem dX6_ownOf_20 : decode cX6_ownOf 20 = .ok (.iload_n 3, 1) := by decide +kernel
theorem dX6_ownOf_21 : decode cX6_ownOf 21 = .ok (.aload_n 0, 1) := by decide +kernel
theorem dX6_ownOf_22 : decode cX6_ownOf 22 = .ok (.getfield 7, 3) := by decide +kernel
theorem dX6_ownOf_25 : decode cX6_ownOf 25 = .ok (.iload_n 2, 1) := by decide +kernel
theorem dX6_ownOf_26 : decode cX6_ownOf 26 = .ok (.bipush 14, 2) := by decide +kernel
theorem dX6_ownOf_28 : decode cX6_ownOf 28 = .ok (.iload 4, 2) := by decide +kernel
theorem dX6_ownOf_30 : decode cX6_ownOf 30 = .ok (.iadd, 1) := by decide +kernel
theorem dX6_ownOf_31 : decode cX6_ownOf 31 = .ok (.invokestatic 47, 3) := by decide +kernel
theorem dX6_ownOf_34 : decode cX6_ownOf 34 = .ok (.iaload, 1) := by decide +kernel
theorem dX6_ownOf_35 : decode cX6_ownOf 35 = .ok (.aload_n 0, 1) := by decide +kernel
theorem dX6_ownOf_36 : decode cX6_ownOf 36 = .ok (.iload_n 1, 1) := by decide +kernel
theorem dX6_ownOf_37 : decode cX6_ownOf 37 = .ok (.iload 4, 2) := by decide +kernel
theorem dX6_ownOf_39 : decode cX6_ownOf 39 = .ok (.invokevirtual 58, 3) := by decide +kernel
theorem dX6_ownOf_42 : decode cX6_ownOf 42 = .ok (.imul, 1) := by decide +kernel
theorem dX6_ownOf_43 : decode cX6_ownOf 43 = .ok (.iadd, 1) := by decide +kernel
theorem dX6_ownOf_44 : decode cX6_ownOf 44 = .ok (.istore_n 3, 1) := by decide +kernel
theorem dX6_ownOf_45 : decode cX6_ownOf 45 = .ok (.iinc 4 1, 3) := by decide +kernel
theorem dX6_ownOf_48 : decode cX6_ownOf 48 = .ok (.goto (-43), 3) := by decide +kernel
theorem dX6_ownOf_51 : decode cX6_ownOf 51 = .ok (.iload_n 3, 1) := by decide +kernel
theorem dX6_ownOf_52 : decode cX6_ownOf 52 = .ok (.ireturn, 1) := by decide +kernel
theorem dX6_sharesPost_0 : decode cX6_sharesPost 0 = .ok (.iconst 0, 1) := by decide +kernel
theorem dX6_sharesPost_1 : decode cX6_sharesPost 1 = .ok (.istore_n 2, 1) := by decide +kernel
theorem dX6_sharesPost_2 : decode cX6_sharesPost 2 = .ok (.iload_n 2, 1) := by decide +kernel
theorem dX6_sharesPost_3 : decode cX6_sharesPost 3 = .ok (.bipush 6, 2) := by decide +kernel
theorem dX6_sharesPost_5 : decode cX6_sharesPost 5 = .ok (.if_icmp .ge 34, 3) := by decide +kernel
theorem dX6_sharesPost_8 : decode cX6_sharesPost 8 = .ok (.aload_n 0, 1) := by decide +kernel
theorem dX6_sharesPost_9 : decode cX6_sharesPost 9 = .ok (.getfield 29, 3) := by decide +kernel
theorem dX6_sharesPost_12 : decode cX6_sharesPost 12 = .ok (.iload_n 2, 1) := by decide +kernel
theorem dX6_sharesPost_13 : decode cX6_sharesPost 13 = .ok (.iload_n 1, 1) := by decide +kernel
theorem dX6_sharesPost_14 : decode cX6_sharesPost 14 = .ok (.iload_n 2, 1) := by decide +kernel
theorem dX6_sharesPost_15 : decode cX6_sharesPost 15 = .ok (.invokestatic 43, 3) := by decide +kernel
theorem dX6_sharesPost_18 : decode cX6_sharesPost 18 = .ok (.ifCond .eq 13, 3) := by decide +kernel
theorem dX6_sharesPost_21 : decode cX6_sharesPost 21 = .ok (.aload_n 0, 1) := by decide +kernel
theorem dX6_sharesPost_22 : decode cX6_sharesPost 22 = .ok (.iconst 1, 1) := by decide +kernel
theorem dX6_sharesPost_23 : decode cX6_sharesPost 23 = .ok (.iload_n 2, 1) := by decide +kernel
theorem dX6_sharesPost_24 : decode cX6_sharesPost 24 = .ok (.ishl, 1) := by decide +kernel
theorem dX6_sharesPost_25 : decode cX6_sharesPost 25 = .ok (.invokevirtual 64, 3) := by decide +kernel
theorem dX6_sharesPost_28 : decode cX6_sharesPost 28 = .ok (.goto 4, 3) := by decide +kernel
theorem dX6_sharesPost_31 : decode cX6_sharesPost 31 = .ok (.iconst 0, 1) := by decide +kernel
theorem dX6_sharesPost_32 : decode cX6_sharesPost 32 = .ok (.iastore, 1) := by decide +kernel
theorem dX6_sharesPost_33 : decode cX6_sharesPost 33 = .ok (.iinc 2 1, 3) := by decide +kernel
theorem dX6_sharesPost_36 : decode cX6_sharesPost 36 = .ok (.goto (-34), 3) := by decide +kernel
theorem dX6_sharesPost_39 : decode cX6_sharesPost 39 = .ok (.aload_n 0, 1) := by decide +kernel
theorem dX6_sharesPost_40 : decode cX6_sharesPost 40 = .ok (.aload_n 0, 1) := by decide +kernel
theorem dX6_sharesPost_41 : decode cX6_sharesPost 41 = .ok (.iload_n 1, 1) := by decide +kernel
theorem dX6_sharesPost_42 : decode cX6_sharesPost 42 = .ok (.invokevirtual 70, 3) := by decide +kernel
theorem dX6_sharesPost_45 : decode cX6_sharesPost 45 = .ok (.invokevirtual 73, 3) := by decide +kernel
theorem dX6_sharesPost_48 : decode cX6_sharesPost 48 = .ok (.return_, 1) := by decide +kernel
theorem dX6_chest_0 : decode cX6_chest 0 = .ok (.iconst 0, 1) := by decide +kernel
theorem dX6_chest_1 : decode cX6_chest 1 = .ok (.istore_n 1, 1) := by decide +kernel
theorem dX6_chest_2 : decode cX6_chest 2 = .ok (.iconst 0, 1) := by decide +kernel
theorem dX6_chest_3 : decode cX6_chest 3 = .ok (.istore_n 2, 1) := by decide +kernel
theorem dX6_chest_4 : decode cX6_chest 4 = .ok (.iload_n 2, 1) := by decide +kernel
theorem dX6_chest_5 : decode cX6_chest 5 = .ok (.bipush 6, 2) := by decide +kernel
theorem dX6_chest_7 : decode cX6_chest 7 = .ok (.if_icmp .ge 22, 3) := by decide +kernel
theorem dX6_chest_10 : decode cX6_chest 10 = .ok (.iload_n 1, 1) := by decide +kernel
theorem dX6_chest_11 : decode cX6_chest 11 = .ok (.aload_n 0, 1) := by decide +kernel
theorem dX6_chest_12 : decode cX6_chest 12 = .ok (.getfield 7, 3) := by decide +kernel
theorem dX6_chest_15 : decode cX6_chest 15 = .ok (.iload_n 2, 1) := by decide +kernel
theorem dX6_chest_16 : decode cX6_chest 16 = .ok (.iconst 0, 1) := by decide +kernel
theorem dX6_chest_17 : decode cX6_chest 17 = .ok (.invokestatic 47, 3) := by decide +kernel
theorem dX6_chest_20 : decode cX6_chest 20 = .ok (.iaload, 1) := by decide +kernel
theorem dX6_chest_21 : decode cX6_chest 21 = .ok (.iadd, 1) := by decide +kernel
theorem dX6_chest_22 : decode cX6_chest 22 = .ok (.istore_n 1, 1) := by decide +kernel
theorem dX6_chest_23 : decode cX6_chest 23 = .ok (.iinc 2 1, 3) := by decide +kernel
theorem dX6_chest_26 : decode cX6_chest 26 = .ok (.goto (-22), 3) := by decide +kernel
theorem dX6_chest_29 : decode cX6_chest 29 = .ok (.iload_n 1, 1) := by decide +kernel
theorem dX6_chest_30 : decode cX6_chest 30 = .ok (.ireturn, 1) := by decide +kernel
theorem dX6_draw_0 : decode cX6_draw 0 = .ok (.aload_n 0, 1) := by decide +kernel
theorem dX6_draw_1 : decode cX6_draw 1 = .ok (.getfield 7, 3) := by decide +kernel
theorem dX6_draw_4 : decode cX6_draw 4 = .ok (.bipush 10, 2) := by decide +kernel
theorem dX6_draw_6 : decode cX6_draw 6 = .ok (.iaload, 1) := by decide +kernel
theorem dX6_draw_7 : decode cX6_draw 7 = .ok (.i2l, 1) := by decide +kernel
theorem dX6_draw_8 : decode cX6_draw 8 = .ok (.ldc2_w 77, 3) := by decide +kernel
theorem dX6_draw_11 : decode cX6_draw 11 = .ok (.lmul, 1) := by decide +kernel
theorem dX6_draw_12 : decode cX6_draw 12 = .ok (.ldc2_w 79, 3) := by decide +kernel
theorem dX6_draw_15 : decode cX6_draw 15 = .ok (.ladd, 1) := by decide +kernel
theorem dX6_draw_16 : decode cX6_draw 16 = .ok (.ldc2_w 81, 3) := by decide +kernel
theorem dX6_draw_19 : decode cX6_draw 19 = .ok (.lrem, 1) := by decide +kernel
theorem dX6_draw_20 : decode cX6_draw 20 = .ok (.lstore_n 2, 1) := by decide +kernel
theorem dX6_draw_21 : decode cX6_draw 21 = .ok (.aload_n 0, 1) := by decide +kernel
theorem dX6_draw_22 : decode cX6_draw 22 = .ok (.getfield 7, 3) := by decide +kernel
theorem dX6_draw_25 : decode cX6_draw 25 = .ok (.bipush 10, 2) := by decide +kernel
theorem dX6_draw_27 : decode cX6_draw 27 = .ok (.lload_n 2, 1) := by decide +kernel
theorem dX6_draw_28 : decode cX6_draw 28 = .ok (.l2i, 1) := by decide +kernel
theorem dX6_draw_29 : decode cX6_draw 29 = .ok (.iastore, 1) := by decide +kernel
theorem dX6_draw_30 : decode cX6_draw 30 = .ok (.aload_n 0, 1) := by decide +kernel
theorem dX6_draw_31 : decode cX6_draw 31 = .ok (.getfield 7, 3) := by decide +kernel
theorem dX6_draw_34 : decode cX6_draw 34 = .ok (.bipush 10, 2) := by decide +kernel
theorem dX6_draw_36 : decode cX6_draw 36 = .ok (.iaload, 1) := by decide +kernel
theorem dX6_draw_37 : decode cX6_draw 37 = .ok (.ldc 83, 2) := by decide +kernel
theorem dX6_draw_39 : decode cX6_draw 39 = .ok (.idiv, 1) := by decide +kernel
theorem dX6_draw_40 : decode cX6_draw 40 = .ok (.iload_n 1, 1) := by decide +kernel
theorem dX6_draw_41 : decode cX6_draw 41 = .ok (.irem, 1) := by decide +kernel
theorem dX6_draw_42 : decode cX6_draw 42 = .ok (.ireturn, 1) := by decide +kernel
theorem dX6_ofString_0 : decode cX6_ofString 0 = .ok (.iload_n 0, 1) := by decide +kernel
theorem dX6_ofString_1 : decode cX6_ofString 1 = .ok (.iconst 3, 1) := by decide +kernel
theorem dX6_ofString_2 : decode cX6_ofString 2 = .ok (.bipush 8, 2) := by decide +kernel
theorem dX6_ofString_4 : decode cX6_ofString 4 = .ok (.iload_n 1, 1) := by decide +kernel
theorem dX6_ofString_5 : decode cX6_ofString 5 = .ok (.imul, 1) := by decide +kernel
theorem dX6_ofString_6 : decode cX6_ofString 6 = .ok (.iadd, 1) := by decide +kernel
theorem dX6_ofString_7 : decode cX6_ofString 7 = .ok (.iload_n 2, 1) := by decide +kernel
theorem dX6_ofString_8 : decode cX6_ofString 8 = .ok (.iadd, 1) := by decide +kernel
theorem dX6_ofString_9 : decode cX6_ofString 9 = .ok (.invokestatic 84, 3) := by decide +kernel
theorem dX6_ofString_12 : decode cX6_ofString 12 = .ok (.ireturn, 1) := by decide +kernel
theorem dX6_stringsIn_0 : decode cX6_stringsIn 0 = .ok (.iconst 0, 1) := by decide +kernel
theorem dX6_stringsIn_1 : decode cX6_stringsIn 1 = .ok (.istore_n 2, 1) := by decide +kernel
theorem dX6_stringsIn_2 : decode cX6_stringsIn 2 = .ok (.iconst 0, 1) := by decide +kernel
theorem dX6_stringsIn_3 : decode cX6_stringsIn 3 = .ok (.istore_n 3, 1) := by decide +kernel
theorem dX6_stringsIn_4 : decode cX6_stringsIn 4 = .ok (.iload_n 3, 1) := by decide +kernel
theorem dX6_stringsIn_5 : decode cX6_stringsIn 5 = .ok (.bipush 48, 2) := by decide +kernel
theorem dX6_stringsIn_7 : decode cX6_stringsIn 7 = .ok (.if_icmp .ge 24, 3) := by decide +kernel
theorem dX6_stringsIn_10 : decode cX6_stringsIn 10 = .ok (.iload_n 2, 1) := by decide +kernel
theorem dX6_stringsIn_11 : decode cX6_stringsIn 11 = .ok (.aload_n 0, 1) := by decide +kernel
theorem dX6_stringsIn_12 : decode cX6_stringsIn 12 = .ok (.getfield 7, 3) := by decide +kernel
theorem dX6_stringsIn_15 : decode cX6_stringsIn 15 = .ok (.iload_n 1, 1) := by decide +kernel
theorem dX6_stringsIn_16 : decode cX6_stringsIn 16 = .ok (.iconst 3, 1) := by decide +kernel
theorem dX6_stringsIn_17 : decode cX6_stringsIn 17 = .ok (.iload_n 3, 1) := by decide +kernel
theorem dX6_stringsIn_18 : decode cX6_stringsIn 18 = .ok (.iadd, 1) := by decide +kernel
theorem dX6_stringsIn_19 : decode cX6_stringsIn 19 = .ok (.invokestatic 84, 3) := by decide +kernel
theorem dX6_stringsIn_22 : decode cX6_stringsIn 22 = .ok (.iaload, 1) := by decide +kernel
theorem dX6_stringsIn_23 : decode cX6_stringsIn 23 = .ok (.iadd, 1) := by decide +kernel
theorem dX6_stringsIn_24 : decode cX6_stringsIn 24 = .ok (.istore_n 2, 1) := by decide +kernel
theorem dX6_stringsIn_25 : decode cX6_stringsIn 25 = .ok (.iinc 3 1, 3) := by decide +kernel
theorem dX6_stringsIn_28 : decode cX6_stringsIn 28 = .ok (.goto (-24), 3) := by decide +kernel
theorem dX6_stringsIn_31 : decode cX6_stringsIn 31 = .ok (.iload_n 2, 1) := by decide +kernel
theorem dX6_stringsIn_32 : decode cX6_stringsIn 32 = .ok (.ireturn, 1) := by decide +kernel
theorem dX6_comesHome_0 : decode cX6_comesHome 0 = .ok (.iconst 0, 1) := by decide +kernel
theorem dX6_comesHome_1 : decode cX6_comesHome 1 = .ok (.istore_n 2, 1) := by decide +kernel
theorem dX6_comesHome_2 : decode cX6_comesHome 2 = .ok (.iload_n 2, 1) := by decide +kernel
theorem dX6_comesHome_3 : decode cX6_comesHome 3 = .ok (.bipush 6, 2) := by decide +kernel
theorem dX6_comesHome_5 : decode cX6_comesHome 5 = .ok (.if_icmp .ge 113, 3) := by decide +kernel
theorem dX6_comesHome_8 : decode cX6_comesHome 8 = .ok (.iconst 0, 1) := by decide +kernel
theorem dX6_comesHome_9 : decode cX6_comesHome 9 = .ok (.istore_n 3, 1) := by decide +kernel
theorem dX6_comesHome_10 : decode cX6_comesHome 10 = .ok (.iload_n 3, 1) := by decide +kernel
theorem dX6_comesHome_11 : decode cX6_comesHome 11 = .ok (.bipush 8, 2) := by decide +kernel
theorem dX6_comesHome_13 : decode cX6_comesHome 13 = .ok (.if_icmp .ge 99, 3) := by decide +kernel
theorem dX6_comesHome_16 : decode cX6_comesHome 16 = .ok (.aload_n 0, 1) := by decide +kernel
theorem dX6_comesHome_17 : decode cX6_comesHome 17 = .ok (.getfield 7, 3) := by decide +kernel
theorem dX6_comesHome_20 : decode cX6_comesHome 20 = .ok (.iload_n 2, 1) := by decide +kernel
theorem dX6_comesHome_21 : decode cX6_comesHome 21 = .ok (.bipush 6, 2) := by decide +kernel
theorem dX6_comesHome_23 : decode cX6_comesHome 23 = .ok (.iload_n 3, 1) := by decide +kernel
theorem dX6_comesHome_24 : decode cX6_comesHome 24 = .ok (.iadd, 1) := by decide +kernel
theorem dX6_comesHome_25 : decode cX6_comesHome 25 = .ok (.invokestatic 47, 3) := by decide +kernel
theorem dX6_comesHome_28 : decode cX6_comesHome 28 = .ok (.iaload, 1) := by decide +kernel
theorem dX6_comesHome_29 : decode cX6_comesHome 29 = .ok (.aload_n 0, 1) := by decide +kernel
theorem dX6_comesHome_30 : decode cX6_comesHome 30 = .ok (.getfield 7, 3) := by decide +kernel
theorem dX6_comesHome_33 : decode cX6_comesHome 33 = .ok (.iload_n 1, 1) := by decide +kernel
theorem dX6_comesHome_34 : decode cX6_comesHome 34 = .ok (.iload_n 2, 1) := by decide +kernel
theorem dX6_comesHome_35 : decode cX6_comesHome 35 = .ok (.iload_n 3, 1) := by decide +kernel
theorem dX6_comesHome_36 : decode cX6_comesHome 36 = .ok (.invokestatic 87, 3) := by decide +kernel
theorem dX6_comesHome_39 : decode cX6_comesHome 39 = .ok (.iaload, 1) := by decide +kernel
theorem dX6_comesHome_40 : decode cX6_comesHome 40 = .ok (.iadd, 1) := by decide +kernel
theorem dX6_comesHome_41 : decode cX6_comesHome 41 = .ok (.istore 4, 2) := by decide +kernel
theorem dX6_comesHome_43 : decode cX6_comesHome 43 = .ok (.iload 4, 2) := by decide +kernel
theorem dX6_comesHome_45 : decode cX6_comesHome 45 = .ok (.bipush 99, 2) := by decide +kernel
theorem dX6_comesHome_47 : decode cX6_comesHome 47 = .ok (.if_icmp .le 11, 3) := by decide +kernel
theorem dX6_comesHome_50 : decode cX6_comesHome 50 = .ok (.iload 4, 2) := by decide +kernel
theorem dX6_comesHome_52 : decode cX6_comesHome 52 = .ok (.bipush 99, 2) := by decide +kernel
theorem dX6_comesHome_54 : decode cX6_comesHome 54 = .ok (.isub, 1) := by decide +kernel
theorem dX6_comesHome_55 : decode cX6_comesHome 55 = .ok (.goto 4, 3) := by decide +kernel
theorem dX6_comesHome_58 : decode cX6_comesHome 58 = .ok (.iconst 0, 1) := by decide +kernel
theorem dX6_comesHome_59 : decode cX6_comesHome 59 = .ok (.istore 5, 2) := by decide +kernel
theorem dX6_comesHome_61 : decode cX6_comesHome 61 = .ok (.aload_n 0, 1) := by decide +kernel
theorem dX6_comesHome_62 : decode cX6_comesHome 62 = .ok (.getfield 7, 3) := by decide +kernel
theorem dX6_comesHome_65 : decode cX6_comesHome 65 = .ok (.iload_n 2, 1) := by decide +kernel
theorem dX6_comesHome_66 : decode cX6_comesHome 66 = .ok (.bipush 6, 2) := by decide +kernel
theorem dX6_comesHome_68 : decode cX6_comesHome 68 = .ok (.iload_n 3, 1) := by decide +kernel
theorem dX6_comesHome_69 : decode cX6_comesHome 69 = .ok (.iadd, 1) := by decide +kernel
theorem dX6_comesHome_70 : decode cX6_comesHome 70 = .ok (.invokestatic 47, 3) := by decide +kernel
theorem dX6_comesHome_73 : decode cX6_comesHome 73 = .ok (.iload 4, 2) := by decide +kernel
theorem dX6_comesHome_75 : decode cX6_comesHome 75 = .ok (.iload 5, 2) := by decide +kernel
theorem dX6_comesHome_77 : decode cX6_comesHome 77 = .ok (.isub, 1) := by decide +kernel
theorem dX6_comesHome_78 : decode cX6_comesHome 78 = .ok (.iastore, 1) := by decide +kernel
theorem dX6_comesHome_79 : decode cX6_comesHome 79 = .ok (.aload_n 0, 1) := by decide +kernel
theorem dX6_comesHome_80 : decode cX6_comesHome 80 = .ok (.getfield 7, 3) := by decide +kernel
theorem dX6_comesHome_83 : decode cX6_comesHome 83 = .ok (.iload_n 2, 1) := by decide +kernel
theorem dX6_comesHome_84 : decode cX6_comesHome 84 = .ok (.iconst 5, 1) := by decide +kernel
theorem dX6_comesHome_85 : decode cX6_comesHome 85 = .ok (.invokestatic 47, 3) := by decide +kernel
theorem dX6_comesHome_88 : decode cX6_comesHome 88 = .ok (.dup2, 1) := by decide +kernel
theorem dX6_comesHome_89 : decode cX6_comesHome 89 = .ok (.iaload, 1) := by decide +kernel
theorem dX6_comesHome_90 : decode cX6_comesHome 90 = .ok (.iload 5, 2) := by decide +kernel
theorem dX6_comesHome_92 : decode cX6_comesHome 92 = .ok (.iadd, 1) := by decide +kernel
theorem dX6_comesHome_93 : decode cX6_comesHome 93 = .ok (.iastore, 1) := by decide +kernel
theorem dX6_comesHome_94 : decode cX6_comesHome 94 = .ok (.aload_n 0, 1) := by decide +kernel
theorem dX6_comesHome_95 : decode cX6_comesHome 95 = .ok (.getfield 7, 3) := by decide +kernel
theorem dX6_comesHome_98 : decode cX6_comesHome 98 = .ok (.bipush 13, 2) := by decide +kernel
theorem dX6_comesHome_100 : decode cX6_comesHome 100 = .ok (.dup2, 1) := by decide +kernel
theorem dX6_comesHome_101 : decode cX6_comesHome 101 = .ok (.iaload, 1) := by decide +kernel
theorem dX6_comesHome_102 : decode cX6_comesHome 102 = .ok (.iload 5, 2) := by decide +kernel
theorem dX6_comesHome_104 : decode cX6_comesHome 104 = .ok (.iadd, 1) := by decide +kernel
theorem dX6_comesHome_105 : decode cX6_comesHome 105 = .ok (.iastore, 1) := by decide +kernel
theorem dX6_comesHome_106 : decode cX6_comesHome 106 = .ok (.iinc 3 1, 3) := by decide +kernel
theorem dX6_comesHome_109 : decode cX6_comesHome 109 = .ok (.goto (-99), 3) := by decide +kernel
theorem dX6_comesHome_112 : decode cX6_comesHome 112 = .ok (.iinc 2 1, 3) := by decide +kernel
theorem dX6_comesHome_115 : decode cX6_comesHome 115 = .ok (.goto (-113), 3) := by decide +kernel
theorem dX6_comesHome_118 : decode cX6_comesHome 118 = .ok (.aload_n 0, 1) := by decide +kernel
theorem dX6_comesHome_119 : decode cX6_comesHome 119 = .ok (.getfield 7, 3) := by decide +kernel
theorem dX6_comesHome_122 : decode cX6_comesHome 122 = .ok (.bipush 14, 2) := by decide +kernel
theorem dX6_comesHome_124 : decode cX6_comesHome 124 = .ok (.dup2, 1) := by decide +kernel
theorem dX6_comesHome_125 : decode cX6_comesHome 125 = .ok (.iaload, 1) := by decide +kernel
theorem dX6_comesHome_126 : decode cX6_comesHome 126 = .ok (.iconst 1, 1) := by decide +kernel
theorem dX6_comesHome_127 : decode cX6_comesHome 127 = .ok (.isub, 1) := by decide +kernel
theorem dX6_comesHome_128 : decode cX6_comesHome 128 = .ok (.iastore, 1) := by decide +kernel
theorem dX6_comesHome_129 : decode cX6_comesHome 129 = .ok (.iload_n 1, 1) := by decide +kernel
theorem dX6_comesHome_130 : decode cX6_comesHome 130 = .ok (.iconst 0, 1) := by decide +kernel
theorem dX6_comesHome_131 : decode cX6_comesHome 131 = .ok (.invokestatic 84, 3) := by decide +kernel
theorem dX6_comesHome_134 : decode cX6_comesHome 134 = .ok (.istore_n 2, 1) := by decide +kernel
theorem dX6_comesHome_135 : decode cX6_comesHome 135 = .ok (.iload_n 2, 1) := by decide +kernel
theorem dX6_comesHome_136 : decode cX6_comesHome 136 = .ok (.aload_n 0, 1) := by decide +kernel
theorem dX6_comesHome_137 : decode cX6_comesHome 137 = .ok (.getfield 7, 3) := by decide +kernel
theorem dX6_comesHome_140 : decode cX6_comesHome 140 = .ok (.bipush 14, 2) := by decide +kernel
theorem dX6_comesHome_142 : decode cX6_comesHome 142 = .ok (.iaload, 1) := by decide +kernel
theorem dX6_comesHome_143 : decode cX6_comesHome 143 = .ok (.iconst 0, 1) := by decide +kernel
theorem dX6_comesHome_144 : decode cX6_comesHome 144 = .ok (.invokestatic 84, 3) := by decide +kernel
theorem dX6_comesHome_147 : decode cX6_comesHome 147 = .ok (.if_icmp .ge 24, 3) := by decide +kernel
theorem dX6_comesHome_150 : decode cX6_comesHome 150 = .ok (.aload_n 0, 1) := by decide +kernel
theorem dX6_comesHome_151 : decode cX6_comesHome 151 = .ok (.getfield 7, 3) := by decide +kernel
theorem dX6_comesHome_154 : decode cX6_comesHome 154 = .ok (.iload_n 2, 1) := by decide +kernel
theorem dX6_comesHome_155 : decode cX6_comesHome 155 = .ok (.aload_n 0, 1) := by decide +kernel
theorem dX6_comesHome_156 : decode cX6_comesHome 156 = .ok (.getfield 7, 3) := by decide +kernel
theorem dX6_comesHome_159 : decode cX6_comesHome 159 = .ok (.iload_n 2, 1) := by decide +kernel
theorem dX6_comesHome_160 : decode cX6_comesHome 160 = .ok (.bipush 51, 2) := by decide +kernel
theorem dX6_comesHome_162 : decode cX6_comesHome 162 = .ok (.iadd, 1) := by decide +kernel
theorem dX6_comesHome_163 : decode cX6_comesHome 163 = .ok (.iaload, 1) := by decide +kernel
theorem dX6_comesHome_164 : decode cX6_comesHome 164 = .ok (.iastore, 1) := by decide +kernel
theorem dX6_comesHome_165 : decode cX6_comesHome 165 = .ok (.iinc 2 1, 3) := by decide +kernel
theorem dX6_comesHome_168 : decode cX6_comesHome 168 = .ok (.goto (-33), 3) := by decide +kernel
theorem dX6_comesHome_171 : decode cX6_comesHome 171 = .ok (.iconst 0, 1) := by decide +kernel
theorem dX6_comesHome_172 : decode cX6_comesHome 172 = .ok (.istore_n 2, 1) := by decide +kernel
theorem dX6_comesHome_173 : decode cX6_comesHome 173 = .ok (.iload_n 2, 1) := by decide +kernel
theorem dX6_comesHome_174 : decode cX6_comesHome 174 = .ok (.bipush 51, 2) := by decide +kernel
theorem dX6_comesHome_176 : decode cX6_comesHome 176 = .ok (.if_icmp .ge 26, 3) := by decide +kernel
theorem dX6_comesHome_179 : decode cX6_comesHome 179 = .ok (.aload_n 0, 1) := by decide +kernel
theorem dX6_comesHome_180 : decode cX6_comesHome 180 = .ok (.getfield 7, 3) := by decide +kernel
theorem dX6_comesHome_183 : decode cX6_comesHome 183 = .ok (.aload_n 0, 1) := by decide +kernel
theorem dX6_comesHome_184 : decode cX6_comesHome 184 = .ok (.getfield 7, 3) := by decide +kernel
theorem dX6_comesHome_187 : decode cX6_comesHome 187 = .ok (.bipush 14, 2) := by decide +kernel
theorem dX6_comesHome_189 : decode cX6_comesHome 189 = .ok (.iaload, 1) := by decide +kernel
theorem dX6_comesHome_190 : decode cX6_comesHome 190 = .ok (.iload_n 2, 1) := by decide +kernel
theorem dX6_comesHome_191 : decode cX6_comesHome 191 = .ok (.invokestatic 84, 3) := by decide +kernel
theorem dX6_comesHome_194 : decode cX6_comesHome 194 = .ok (.iconst 0, 1) := by decide +kernel
theorem dX6_comesHome_195 : decode cX6_comesHome 195 = .ok (.iastore, 1) := by decide +kernel
theorem dX6_comesHome_196 : decode cX6_comesHome 196 = .ok (.iinc 2 1, 3) := by decide +kernel
theorem dX6_comesHome_199 : decode cX6_comesHome 199 = .ok (.goto (-26), 3) := by decide +kernel
theorem dX6_comesHome_202 : decode cX6_comesHome 202 = .ok (.return_, 1) := by decide +kernel
theorem dX6_paysDuty_0 : decode cX6_paysDuty 0 = .ok (.aload_n 0, 1) := by decide +kernel
theorem dX6_paysDuty_1 : decode cX6_paysDuty 1 = .ok (.aload_n 0, 1) := by decide +kernel
theorem dX6_paysDuty_2 : decode cX6_paysDuty 2 = .ok (.getfield 7, 3) := by decide +kernel
theorem dX6_paysDuty_5 : decode cX6_paysDuty 5 = .ok (.iload_n 1, 1) := by decide +kernel
theorem dX6_paysDuty_6 : decode cX6_paysDuty 6 = .ok (.iconst 0, 1) := by decide +kernel
theorem dX6_paysDuty_7 : decode cX6_paysDuty 7 = .ok (.invokestatic 84, 3) := by decide +kernel
theorem dX6_paysDuty_10 : decode cX6_paysDuty 10 = .ok (.iaload, 1) := by decide +kernel
theorem dX6_paysDuty_11 : decode cX6_paysDuty 11 = .ok (.invokevirtual 91, 3) := by decide +kernel
theorem dX6_paysDuty_14 : decode cX6_paysDuty 14 = .ok (.istore_n 2, 1) := by decide +kernel
theorem dX6_paysDuty_15 : decode cX6_paysDuty 15 = .ok (.iconst 0, 1) := by decide +kernel
theorem dX6_paysDuty_16 : decode cX6_paysDuty 16 = .ok (.istore_n 3, 1) := by decide +kernel
theorem dX6_paysDuty_17 : decode cX6_paysDuty 17 = .ok (.iload_n 3, 1) := by decide +kernel
theorem dX6_paysDuty_18 : decode cX6_paysDuty 18 = .ok (.bipush 6, 2) := by decide +kernel
theorem dX6_paysDuty_20 : decode cX6_paysDuty 20 = .ok (.if_icmp .ge 59, 3) := by decide +kernel
theorem dX6_paysDuty_23 : decode cX6_paysDuty 23 = .ok (.aload_n 0, 1) := by decide +kernel
theorem dX6_paysDuty_24 : decode cX6_paysDuty 24 = .ok (.getfield 29, 3) := by decide +kernel
theorem dX6_paysDuty_27 : decode cX6_paysDuty 27 = .ok (.iload_n 3, 1) := by decide +kernel
theorem dX6_paysDuty_28 : decode cX6_paysDuty 28 = .ok (.iconst 0, 1) := by decide +kernel
theorem dX6_paysDuty_29 : decode cX6_paysDuty 29 = .ok (.iastore, 1) := by decide +kernel
theorem dX6_paysDuty_30 : decode cX6_paysDuty 30 = .ok (.iconst 0, 1) := by decide +kernel
theorem dX6_paysDuty_31 : decode cX6_paysDuty 31 = .ok (.istore 4, 2) := by decide +kernel
theorem dX6_paysDuty_33 : decode cX6_paysDuty 33 = .ok (.iload 4, 2) := by decide +kernel
theorem dX6_paysDuty_35 : decode cX6_paysDuty 35 = .ok (.bipush 8, 2) := by decide +kernel
theorem dX6_paysDuty_37 : decode cX6_paysDuty 37 = .ok (.if_icmp .ge 36, 3) := by decide +kernel
theorem dX6_paysDuty_40 : decode cX6_paysDuty 40 = .ok (.aload_n 0, 1) := by decide +kernel
theorem dX6_paysDuty_41 : decode cX6_paysDuty 41 = .ok (.getfield 29, 3) := by decide +kernel
theorem dX6_paysDuty_44 : decode cX6_paysDuty 44 = .ok (.iload_n 3, 1) := by decide +kernel
theorem dX6_paysDuty_45 : decode cX6_paysDuty 45 = .ok (.dup2, 1) := by decide +kernel
theorem dX6_paysDuty_46 : decode cX6_paysDuty 46 = .ok (.iaload, 1) := by decide +kernel
theorem dX6_paysDuty_47 : decode cX6_paysDuty 47 = .ok (.iload 4, 2) := by decide +kernel
theorem dX6_paysDuty_49 : decode cX6_paysDuty 49 = .ok (.invokestatic 54, 3) := by decide +kernel
theorem dX6_paysDuty_52 : decode cX6_paysDuty 52 = .ok (.aload_n 0, 1) := by decide +kernel
theorem dX6_paysDuty_53 : decode cX6_paysDuty 53 = .ok (.getfield 7, 3) := by decide +kernel
theorem dX6_paysDuty_56 : decode cX6_paysDuty 56 = .ok (.iload_n 1, 1) := by decide +kernel
theorem dX6_paysDuty_57 : decode cX6_paysDuty 57 = .ok (.iload_n 3, 1) := by decide +kernel
theorem dX6_paysDuty_58 : decode cX6_paysDuty 58 = .ok (.iload 4, 2) := by decide +kernel
theorem dX6_paysDuty_60 : decode cX6_paysDuty 60 = .ok (.invokestatic 87, 3) := by decide +kernel
theorem dX6_paysDuty_63 : decode cX6_paysDuty 63 = .ok (.iaload, 1) := by decide +kernel
theorem dX6_paysDuty_64 : decode cX6_paysDuty 64 = .ok (.imul, 1) := by decide +kernel
theorem dX6_paysDuty_65 : decode cX6_paysDuty 65 = .ok (.iadd, 1) := by decide +kernel
theorem dX6_paysDuty_66 : decode cX6_paysDuty 66 = .ok (.iastore, 1) := by decide +kernel
theorem dX6_paysDuty_67 : decode cX6_paysDuty 67 = .ok (.iinc 4 1, 3) := by decide +kernel
theorem dX6_paysDuty_70 : decode cX6_paysDuty 70 = .ok (.goto (-37), 3) := by decide +kernel
theorem dX6_paysDuty_73 : decode cX6_paysDuty 73 = .ok (.iinc 3 1, 3) := by decide +kernel
theorem dX6_paysDuty_76 : decode cX6_paysDuty 76 = .ok (.goto (-59), 3) := by decide +kernel
theorem dX6_paysDuty_79 : decode cX6_paysDuty 79 = .ok (.aload_n 0, 1) := by decide +kernel
theorem dX6_paysDuty_80 : decode cX6_paysDuty 80 = .ok (.iload_n 2, 1) := by decide +kernel
theorem dX6_paysDuty_81 : decode cX6_paysDuty 81 = .ok (.invokevirtual 73, 3) := by decide +kernel
theorem dX6_paysDuty_84 : decode cX6_paysDuty 84 = .ok (.iconst 0, 1) := by decide +kernel
theorem dX6_paysDuty_85 : decode cX6_paysDuty 85 = .ok (.istore_n 3, 1) := by decide +kernel
theorem dX6_paysDuty_86 : decode cX6_paysDuty 86 = .ok (.iload_n 3, 1) := by decide +kernel
theorem dX6_paysDuty_87 : decode cX6_paysDuty 87 = .ok (.bipush 6, 2) := by decide +kernel
theorem dX6_paysDuty_89 : decode cX6_paysDuty 89 = .ok (.if_icmp .ge 47, 3) := by decide +kernel
theorem dX6_paysDuty_92 : decode cX6_paysDuty 92 = .ok (.aload_n 0, 1) := by decide +kernel
theorem dX6_paysDuty_93 : decode cX6_paysDuty 93 = .ok (.getfield 7, 3) := by decide +kernel
theorem dX6_paysDuty_96 : decode cX6_paysDuty 96 = .ok (.iload_n 3, 1) := by decide +kernel
theorem dX6_paysDuty_97 : decode cX6_paysDuty 97 = .ok (.iconst 0, 1) := by decide +kernel
theorem dX6_paysDuty_98 : decode cX6_paysDuty 98 = .ok (.invokestatic 47, 3) := by decide +kernel
theorem dX6_paysDuty_101 : decode cX6_paysDuty 101 = .ok (.dup2, 1) := by decide +kernel
theorem dX6_paysDuty_102 : decode cX6_paysDuty 102 = .ok (.iaload, 1) := by decide +kernel
theorem dX6_paysDuty_103 : decode cX6_paysDuty 103 = .ok (.aload_n 0, 1) := by decide +kernel
theorem dX6_paysDuty_104 : decode cX6_paysDuty 104 = .ok (.getfield 32, 3) := by decide +kernel
theorem dX6_paysDuty_107 : decode cX6_paysDuty 107 = .ok (.iload_n 3, 1) := by decide +kernel
theorem dX6_paysDuty_108 : decode cX6_paysDuty 108 = .ok (.iaload, 1) := by decide +kernel
theorem dX6_paysDuty_109 : decode cX6_paysDuty 109 = .ok (.isub, 1) := by decide +kernel
theorem dX6_paysDuty_110 : decode cX6_paysDuty 110 = .ok (.iastore, 1) := by decide +kernel
theorem dX6_paysDuty_111 : decode cX6_paysDuty 111 = .ok (.aload_n 0, 1) := by decide +kernel
theorem dX6_paysDuty_112 : decode cX6_paysDuty 112 = .ok (.getfield 7, 3) := by decide +kernel
theorem dX6_paysDuty_115 : decode cX6_paysDuty 115 = .ok (.iload_n 3, 1) := by decide +kernel
theorem dX6_paysDuty_116 : decode cX6_paysDuty 116 = .ok (.iconst 4, 1) := by decide +kernel
theorem dX6_paysDuty_117 : decode cX6_paysDuty 117 = .ok (.invokestatic 47, 3) := by decide +kernel
theorem dX6_paysDuty_120 : decode cX6_paysDuty 120 = .ok (.dup2, 1) := by decide +kernel
theorem dX6_paysDuty_121 : decode cX6_paysDuty 121 = .ok (.iaload, 1) := by decide +kernel
theorem dX6_paysDuty_122 : decode cX6_paysDuty 122 = .ok (.aload_n 0, 1) := by decide +kernel
theorem dX6_paysDuty_123 : decode cX6_paysDuty 123 = .ok (.getfield 32, 3) := by decide +kernel
theorem dX6_paysDuty_126 : decode cX6_paysDuty 126 = .ok (.iload_n 3, 1) := by decide +kernel
theorem dX6_paysDuty_127 : decode cX6_paysDuty 127 = .ok (.iaload, 1) := by decide +kernel
theorem dX6_paysDuty_128 : decode cX6_paysDuty 128 = .ok (.iadd, 1) := by decide +kernel
theorem dX6_paysDuty_129 : decode cX6_paysDuty 129 = .ok (.iastore, 1) := by decide +kernel
theorem dX6_paysDuty_130 : decode cX6_paysDuty 130 = .ok (.iinc 3 1, 3) := by decide +kernel
theorem dX6_paysDuty_133 : decode cX6_paysDuty 133 = .ok (.goto (-47), 3) := by decide +kernel
theorem dX6_paysDuty_136 : decode cX6_paysDuty 136 = .ok (.aload_n 0, 1) := by decide +kernel
theorem dX6_paysDuty_137 : decode cX6_paysDuty 137 = .ok (.getfield 7, 3) := by decide +kernel
theorem dX6_paysDuty_140 : decode cX6_paysDuty 140 = .ok (.bipush 12, 2) := by decide +kernel
theorem dX6_paysDuty_142 : decode cX6_paysDuty 142 = .ok (.dup2, 1) := by decide +kernel
theorem dX6_paysDuty_143 : decode cX6_paysDuty 143 = .ok (.iaload, 1) := by decide +kernel
theorem dX6_paysDuty_144 : decode cX6_paysDuty 144 = .ok (.iload_n 2, 1) := by decide +kernel
theorem dX6_paysDuty_145 : decode cX6_paysDuty 145 = .ok (.iadd, 1) := by decide +kernel
theorem dX6_paysDuty_146 : decode cX6_paysDuty 146 = .ok (.iastore, 1) := by decide +kernel
theorem dX6_paysDuty_147 : decode cX6_paysDuty 147 = .ok (.return_, 1) := by decide +kernel
theorem dX6_loses_0 : decode cX6_loses 0 = .ok (.aload_n 0, 1) := by decide +kernel
theorem dX6_loses_1 : decode cX6_loses 1 = .ok (.aload_n 0, 1) := by decide +kernel
theorem dX6_loses_2 : decode cX6_loses 2 = .ok (.iload_n 1, 1) := by decide +kernel
theorem dX6_loses_3 : decode cX6_loses 3 = .ok (.invokevirtual 94, 3) := by decide +kernel
theorem dX6_loses_6 : decode cX6_loses 6 = .ok (.invokevirtual 97, 3) := by decide +kernel
theorem dX6_loses_9 : decode cX6_loses 9 = .ok (.istore_n 2, 1) := by decide +kernel
theorem dX6_loses_10 : decode cX6_loses 10 = .ok (.iconst 0, 1) := by decide +kernel
theorem dX6_loses_11 : decode cX6_loses 11 = .ok (.istore_n 3, 1) := by decide +kernel
theorem dX6_loses_12 : decode cX6_loses 12 = .ok (.iload_n 2, 1) := by decide +kernel
theorem dX6_loses_13 : decode cX6_loses 13 = .ok (.aload_n 0, 1) := by decide +kernel
theorem dX6_loses_14 : decode cX6_loses 14 = .ok (.getfield 7, 3) := by decide +kernel
theorem dX6_loses_17 : decode cX6_loses 17 = .ok (.iload_n 1, 1) := by decide +kernel
theorem dX6_loses_18 : decode cX6_loses 18 = .ok (.iconst 3, 1) := by decide +kernel
theorem dX6_loses_19 : decode cX6_loses 19 = .ok (.iload_n 3, 1) := by decide +kernel
theorem dX6_loses_20 : decode cX6_loses 20 = .ok (.iadd, 1) := by decide +kernel
theorem dX6_loses_21 : decode cX6_loses 21 = .ok (.invokestatic 84, 3) := by decide +kernel
theorem dX6_loses_24 : decode cX6_loses 24 = .ok (.iaload, 1) := by decide +kernel
theorem dX6_loses_25 : decode cX6_loses 25 = .ok (.if_icmp .lt 24, 3) := by decide +kernel
theorem dX6_loses_28 : decode cX6_loses 28 = .ok (.iload_n 2, 1) := by decide +kernel
theorem dX6_loses_29 : decode cX6_loses 29 = .ok (.aload_n 0, 1) := by decide +kernel
theorem dX6_loses_30 : decode cX6_loses 30 = .ok (.getfield 7, 3) := by decide +kernel
theorem dX6_loses_33 : decode cX6_loses 33 = .ok (.iload_n 1, 1) := by decide +kernel
theorem dX6_loses_34 : decode cX6_loses 34 = .ok (.iconst 3, 1) := by decide +kernel
theorem dX6_loses_35 : decode cX6_loses 35 = .ok (.iload_n 3, 1) := by decide +kernel
theorem dX6_loses_36 : decode cX6_loses 36 = .ok (.iadd, 1) := by decide +kernel
theorem dX6_loses_37 : decode cX6_loses 37 = .ok (.invokestatic 84, 3) := by decide +kernel
theorem dX6_loses_40 : decode cX6_loses 40 = .ok (.iaload, 1) := by decide +kernel
theorem dX6_loses_41 : decode cX6_loses 41 = .ok (.isub, 1) := by decide +kernel
theorem dX6_loses_42 : decode cX6_loses 42 = .ok (.istore_n 2, 1) := by decide +kernel
theorem dX6_loses_43 : decode cX6_loses 43 = .ok (.iinc 3 1, 3) := by decide +kernel
theorem dX6_loses_46 : decode cX6_loses 46 = .ok (.goto (-34), 3) := by decide +kernel
theorem dX6_loses_49 : decode cX6_loses 49 = .ok (.aload_n 0, 1) := by decide +kernel
theorem dX6_loses_50 : decode cX6_loses 50 = .ok (.getfield 7, 3) := by decide +kernel
theorem dX6_loses_53 : decode cX6_loses 53 = .ok (.iload_n 1, 1) := by decide +kernel
theorem dX6_loses_54 : decode cX6_loses 54 = .ok (.iconst 3, 1) := by decide +kernel
theorem dX6_loses_55 : decode cX6_loses 55 = .ok (.iload_n 3, 1) := by decide +kernel
theorem dX6_loses_56 : decode cX6_loses 56 = .ok (.iadd, 1) := by decide +kernel
theorem dX6_loses_57 : decode cX6_loses 57 = .ok (.invokestatic 84, 3) := by decide +kernel
theorem dX6_loses_60 : decode cX6_loses 60 = .ok (.dup2, 1) := by decide +kernel
theorem dX6_loses_61 : decode cX6_loses 61 = .ok (.iaload, 1) := by decide +kernel
theorem dX6_loses_62 : decode cX6_loses 62 = .ok (.iconst 1, 1) := by decide +kernel
theorem dX6_loses_63 : decode cX6_loses 63 = .ok (.isub, 1) := by decide +kernel
theorem dX6_loses_64 : decode cX6_loses 64 = .ok (.iastore, 1) := by decide +kernel
theorem dX6_loses_65 : decode cX6_loses 65 = .ok (.aload_n 0, 1) := by decide +kernel
theorem dX6_loses_66 : decode cX6_loses 66 = .ok (.getfield 7, 3) := by decide +kernel
theorem dX6_loses_69 : decode cX6_loses 69 = .ok (.iload_n 3, 1) := by decide +kernel
theorem dX6_loses_70 : decode cX6_loses 70 = .ok (.bipush 8, 2) := by decide +kernel
theorem dX6_loses_72 : decode cX6_loses 72 = .ok (.idiv, 1) := by decide +kernel
theorem dX6_loses_73 : decode cX6_loses 73 = .ok (.iconst 5, 1) := by decide +kernel
theorem dX6_loses_74 : decode cX6_loses 74 = .ok (.invokestatic 47, 3) := by decide +kernel
theorem dX6_loses_77 : decode cX6_loses 77 = .ok (.dup2, 1) := by decide +kernel
theorem dX6_loses_78 : decode cX6_loses 78 = .ok (.iaload, 1) := by decide +kernel
theorem dX6_loses_79 : decode cX6_loses 79 = .ok (.iconst 1, 1) := by decide +kernel
theorem dX6_loses_80 : decode cX6_loses 80 = .ok (.iadd, 1) := by decide +kernel
theorem dX6_loses_81 : decode cX6_loses 81 = .ok (.iastore, 1) := by decide +kernel
theorem dX6_loses_82 : decode cX6_loses 82 = .ok (.aload_n 0, 1) := by decide +kernel
theorem dX6_loses_83 : decode cX6_loses 83 = .ok (.getfield 7, 3) := by decide +kernel
theorem dX6_loses_86 : decode cX6_loses 86 = .ok (.bipush 13, 2) := by decide +kernel
theorem dX6_loses_88 : decode cX6_loses 88 = .ok (.dup2, 1) := by decide +kernel
theorem dX6_loses_89 : decode cX6_loses 89 = .ok (.iaload, 1) := by decide +kernel
theorem dX6_loses_90 : decode cX6_loses 90 = .ok (.iconst 1, 1) := by decide +kernel
theorem dX6_loses_91 : decode cX6_loses 91 = .ok (.iadd, 1) := by decide +kernel
theorem dX6_loses_92 : decode cX6_loses 92 = .ok (.iastore, 1) := by decide +kernel
theorem dX6_loses_93 : decode cX6_loses 93 = .ok (.return_, 1) := by decide +kernel
theorem dX6_comesToCustoms_0 : decode cX6_comesToCustoms 0 = .ok (.aload_n 0, 1) := by decide +kernel
theorem dX6_comesToCustoms_1 : decode cX6_comesToCustoms 1 = .ok (.bipush 100, 2) := by decide +kernel
theorem dX6_comesToCustoms_3 : decode cX6_comesToCustoms 3 = .ok (.invokevirtual 97, 3) := by decide +kernel
theorem dX6_comesToCustoms_6 : decode cX6_comesToCustoms 6 = .ok (.aload_n 0, 1) := by decide +kernel
theorem dX6_comesToCustoms_7 : decode cX6_comesToCustoms 7 = .ok (.getfield 7, 3) := by decide +kernel
theorem dX6_comesToCustoms_10 : decode cX6_comesToCustoms 10 = .ok (.bipush 7, 2) := by decide +kernel
theorem dX6_comesToCustoms_12 : decode cX6_comesToCustoms 12 = .ok (.iaload, 1) := by decide +kernel
theorem dX6_comesToCustoms_13 : decode cX6_comesToCustoms 13 = .ok (.if_icmp .lt 5, 3) := by decide +kernel
theorem dX6_comesToCustoms_16 : decode cX6_comesToCustoms 16 = .ok (.iconst 1, 1) := by decide +kernel
theorem dX6_comesToCustoms_17 : decode cX6_comesToCustoms 17 = .ok (.ireturn, 1) := by decide +kernel
theorem dX6_comesToCustoms_18 : decode cX6_comesToCustoms 18 = .ok (.aload_n 0, 1) := by decide +kernel
theorem dX6_comesToCustoms_19 : decode cX6_comesToCustoms 19 = .ok (.getfield 7, 3) := by decide +kernel
theorem dX6_comesToCustoms_22 : decode cX6_comesToCustoms 22 = .ok (.bipush 11, 2) := by decide +kernel
theorem dX6_comesToCustoms_24 : decode cX6_comesToCustoms 24 = .ok (.dup2, 1) := by decide +kernel
theorem dX6_comesToCustoms_25 : decode cX6_comesToCustoms 25 = .ok (.iaload, 1) := by decide +kernel
theorem dX6_comesToCustoms_26 : decode cX6_comesToCustoms 26 = .ok (.iconst 1, 1) := by decide +kernel
theorem dX6_comesToCustoms_27 : decode cX6_comesToCustoms 27 = .ok (.iadd, 1) := by decide +kernel
theorem dX6_comesToCustoms_28 : decode cX6_comesToCustoms 28 = .ok (.iastore, 1) := by decide +kernel
theorem dX6_comesToCustoms_29 : decode cX6_comesToCustoms 29 = .ok (.aload_n 0, 1) := by decide +kernel
theorem dX6_comesToCustoms_30 : decode cX6_comesToCustoms 30 = .ok (.getfield 7, 3) := by decide +kernel
theorem dX6_comesToCustoms_33 : decode cX6_comesToCustoms 33 = .ok (.iload_n 1, 1) := by decide +kernel
theorem dX6_comesToCustoms_34 : decode cX6_comesToCustoms 34 = .ok (.iconst 2, 1) := by decide +kernel
theorem dX6_comesToCustoms_35 : decode cX6_comesToCustoms 35 = .ok (.invokestatic 84, 3) := by decide +kernel
theorem dX6_comesToCustoms_38 : decode cX6_comesToCustoms 38 = .ok (.iconst 1, 1) := by decide +kernel
theorem dX6_comesToCustoms_39 : decode cX6_comesToCustoms 39 = .ok (.iastore, 1) := by decide +kernel
theorem dX6_comesToCustoms_40 : decode cX6_comesToCustoms 40 = .ok (.aload_n 0, 1) := by decide +kernel
theorem dX6_comesToCustoms_41 : decode cX6_comesToCustoms 41 = .ok (.iload_n 1, 1) := by decide +kernel
theorem dX6_comesToCustoms_42 : decode cX6_comesToCustoms 42 = .ok (.invokevirtual 100, 3) := by decide +kernel
theorem dX6_comesToCustoms_45 : decode cX6_comesToCustoms 45 = .ok (.aload_n 0, 1) := by decide +kernel
theorem dX6_comesToCustoms_46 : decode cX6_comesToCustoms 46 = .ok (.bipush 100, 2) := by decide +kernel
theorem dX6_comesToCustoms_48 : decode cX6_comesToCustoms 48 = .ok (.invokevirtual 97, 3) := by decide +kernel
theorem dX6_comesToCustoms_51 : decode cX6_comesToCustoms 51 = .ok (.aload_n 0, 1) := by decide +kernel
theorem dX6_comesToCustoms_52 : decode cX6_comesToCustoms 52 = .ok (.getfield 7, 3) := by decide +kernel
theorem dX6_comesToCustoms_55 : decode cX6_comesToCustoms 55 = .ok (.bipush 8, 2) := by decide +kernel
theorem dX6_comesToCustoms_57 : decode cX6_comesToCustoms 57 = .ok (.iaload, 1) := by decide +kernel
theorem dX6_comesToCustoms_58 : decode cX6_comesToCustoms 58 = .ok (.if_icmp .ge 8, 3) := by decide +kernel
theorem dX6_comesToCustoms_61 : decode cX6_comesToCustoms 61 = .ok (.aload_n 0, 1) := by decide +kernel
theorem dX6_comesToCustoms_62 : decode cX6_comesToCustoms 62 = .ok (.iload_n 1, 1) := by decide +kernel
theorem dX6_comesToCustoms_63 : decode cX6_comesToCustoms 63 = .ok (.invokevirtual 103, 3) := by decide +kernel
theorem dX6_comesToCustoms_66 : decode cX6_comesToCustoms 66 = .ok (.aload_n 0, 1) := by decide +kernel
theorem dX6_comesToCustoms_67 : decode cX6_comesToCustoms 67 = .ok (.getfield 7, 3) := by decide +kernel
theorem dX6_comesToCustoms_70 : decode cX6_comesToCustoms 70 = .ok (.iload_n 1, 1) := by decide +kernel
theorem dX6_comesToCustoms_71 : decode cX6_comesToCustoms 71 = .ok (.iconst 1, 1) := by decide +kernel
theorem dX6_comesToCustoms_72 : decode cX6_comesToCustoms 72 = .ok (.invokestatic 84, 3) := by decide +kernel
theorem dX6_comesToCustoms_75 : decode cX6_comesToCustoms 75 = .ok (.aload_n 0, 1) := by decide +kernel
theorem dX6_comesToCustoms_76 : decode cX6_comesToCustoms 76 = .ok (.getfield 7, 3) := by decide +kernel
theorem dX6_comesToCustoms_79 : decode cX6_comesToCustoms 79 = .ok (.bipush 9, 2) := by decide +kernel
theorem dX6_comesToCustoms_81 : decode cX6_comesToCustoms 81 = .ok (.iaload, 1) := by decide +kernel
theorem dX6_comesToCustoms_82 : decode cX6_comesToCustoms 82 = .ok (.aload_n 0, 1) := by decide +kernel
theorem dX6_comesToCustoms_83 : decode cX6_comesToCustoms 83 = .ok (.getfield 7, 3) := by decide +kernel
theorem dX6_comesToCustoms_86 : decode cX6_comesToCustoms 86 = .ok (.iconst 4, 1) := by decide +kernel
theorem dX6_comesToCustoms_87 : decode cX6_comesToCustoms 87 = .ok (.iaload, 1) := by decide +kernel
theorem dX6_comesToCustoms_88 : decode cX6_comesToCustoms 88 = .ok (.iadd, 1) := by decide +kernel
theorem dX6_comesToCustoms_89 : decode cX6_comesToCustoms 89 = .ok (.iastore, 1) := by decide +kernel
theorem dX6_comesToCustoms_90 : decode cX6_comesToCustoms 90 = .ok (.aload_n 0, 1) := by decide +kernel
theorem dX6_comesToCustoms_91 : decode cX6_comesToCustoms 91 = .ok (.getfield 7, 3) := by decide +kernel
theorem dX6_comesToCustoms_94 : decode cX6_comesToCustoms 94 = .ok (.iconst 4, 1) := by decide +kernel
theorem dX6_comesToCustoms_95 : decode cX6_comesToCustoms 95 = .ok (.iaload, 1) := by decide +kernel
theorem dX6_comesToCustoms_96 : decode cX6_comesToCustoms 96 = .ok (.ifCond .ne 7, 3) := by decide +kernel
theorem dX6_comesToCustoms_99 : decode cX6_comesToCustoms 99 = .ok (.iconst 1, 1) := by decide +kernel
theorem dX6_comesToCustoms_100 : decode cX6_comesToCustoms 100 = .ok (.goto 4, 3) := by decide +kernel
theorem dX6_comesToCustoms_103 : decode cX6_comesToCustoms 103 = .ok (.iconst 0, 1) := by decide +kernel
theorem dX6_comesToCustoms_104 : decode cX6_comesToCustoms 104 = .ok (.ireturn, 1) := by decide +kernel
theorem dX6_day_0 : decode cX6_day 0 = .ok (.aload_n 0, 1) := by decide +kernel
theorem dX6_day_1 : decode cX6_day 1 = .ok (.getfield 7, 3) := by decide +kernel
theorem dX6_day_4 : decode cX6_day 4 = .ok (.bipush 9, 2) := by decide +kernel
theorem dX6_day_6 : decode cX6_day 6 = .ok (.dup2, 1) := by decide +kernel
theorem dX6_day_7 : decode cX6_day 7 = .ok (.iaload, 1) := by decide +kernel
theorem dX6_day_8 : decode cX6_day 8 = .ok (.iconst 1, 1) := by decide +kernel
theorem dX6_day_9 : decode cX6_day 9 = .ok (.iadd, 1) := by decide +kernel
theorem dX6_day_10 : decode cX6_day 10 = .ok (.iastore, 1) := by decide +kernel
theorem dX6_day_11 : decode cX6_day 11 = .ok (.iconst 0, 1) := by decide +kernel
theorem dX6_day_12 : decode cX6_day 12 = .ok (.istore_n 1, 1) := by decide +kernel
theorem dX6_day_13 : decode cX6_day 13 = .ok (.iconst 0, 1) := by decide +kernel
theorem dX6_day_14 : decode cX6_day 14 = .ok (.istore_n 2, 1) := by decide +kernel
theorem dX6_day_15 : decode cX6_day 15 = .ok (.iload_n 2, 1) := by decide +kernel
theorem dX6_day_16 : decode cX6_day 16 = .ok (.aload_n 0, 1) := by decide +kernel
theorem dX6_day_17 : decode cX6_day 17 = .ok (.getfield 7, 3) := by decide +kernel
theorem dX6_day_20 : decode cX6_day 20 = .ok (.bipush 14, 2) := by decide +kernel
theorem dX6_day_22 : decode cX6_day 22 = .ok (.iaload, 1) := by decide +kernel
theorem dX6_day_23 : decode cX6_day 23 = .ok (.if_icmp .ge 84, 3) := by decide +kernel
theorem dX6_day_26 : decode cX6_day 26 = .ok (.aload_n 0, 1) := by decide +kernel
theorem dX6_day_27 : decode cX6_day 27 = .ok (.getfield 7, 3) := by decide +kernel
theorem dX6_day_30 : decode cX6_day 30 = .ok (.iload_n 2, 1) := by decide +kernel
theorem dX6_day_31 : decode cX6_day 31 = .ok (.iconst 1, 1) := by decide +kernel
theorem dX6_day_32 : decode cX6_day 32 = .ok (.invokestatic 84, 3) := by decide +kernel
theorem dX6_day_35 : decode cX6_day 35 = .ok (.iaload, 1) := by decide +kernel
theorem dX6_day_36 : decode cX6_day 36 = .ok (.aload_n 0, 1) := by decide +kernel
theorem dX6_day_37 : decode cX6_day 37 = .ok (.getfield 7, 3) := by decide +kernel
theorem dX6_day_40 : decode cX6_day 40 = .ok (.bipush 9, 2) := by decide +kernel
theorem dX6_day_42 : decode cX6_day 42 = .ok (.iaload, 1) := by decide +kernel
theorem dX6_day_43 : decode cX6_day 43 = .ok (.if_icmp .ne 7, 3) := by decide +kernel
theorem dX6_day_46 : decode cX6_day 46 = .ok (.iconst 1, 1) := by decide +kernel
theorem dX6_day_47 : decode cX6_day 47 = .ok (.goto 4, 3) := by decide +kernel
theorem dX6_day_50 : decode cX6_day 50 = .ok (.iconst 0, 1) := by decide +kernel
theorem dX6_day_51 : decode cX6_day 51 = .ok (.istore_n 3, 1) := by decide +kernel
theorem dX6_day_52 : decode cX6_day 52 = .ok (.iload_n 3, 1) := by decide +kernel
theorem dX6_day_53 : decode cX6_day 53 = .ok (.ifCond .eq 29, 3) := by decide +kernel
theorem dX6_day_56 : decode cX6_day 56 = .ok (.aload_n 0, 1) := by decide +kernel
theorem dX6_day_57 : decode cX6_day 57 = .ok (.getfield 7, 3) := by decide +kernel
theorem dX6_day_60 : decode cX6_day 60 = .ok (.iload_n 2, 1) := by decide +kernel
theorem dX6_day_61 : decode cX6_day 61 = .ok (.iconst 2, 1) := by decide +kernel
theorem dX6_day_62 : decode cX6_day 62 = .ok (.invokestatic 84, 3) := by decide +kernel
theorem dX6_day_65 : decode cX6_day 65 = .ok (.iaload, 1) := by decide +kernel
theorem dX6_day_66 : decode cX6_day 66 = .ok (.iconst 1, 1) := by decide +kernel
theorem dX6_day_67 : decode cX6_day 67 = .ok (.if_icmp .eq 11, 3) := by decide +kernel
theorem dX6_day_70 : decode cX6_day 70 = .ok (.aload_n 0, 1) := by decide +kernel
theorem dX6_day_71 : decode cX6_day 71 = .ok (.iload_n 2, 1) := by decide +kernel
theorem dX6_day_72 : decode cX6_day 72 = .ok (.invokevirtual 106, 3) := by decide +kernel
theorem dX6_day_75 : decode cX6_day 75 = .ok (.ifCond .eq 7, 3) := by decide +kernel
theorem dX6_day_78 : decode cX6_day 78 = .ok (.iconst 1, 1) := by decide +kernel
theorem dX6_day_79 : decode cX6_day 79 = .ok (.goto 4, 3) := by decide +kernel
theorem dX6_day_82 : decode cX6_day 82 = .ok (.iconst 0, 1) := by decide +kernel
theorem dX6_day_83 : decode cX6_day 83 = .ok (.istore 4, 2) := by decide +kernel
theorem dX6_day_85 : decode cX6_day 85 = .ok (.iload 4, 2) := by decide +kernel
theorem dX6_day_87 : decode cX6_day 87 = .ok (.ifCond .eq 14, 3) := by decide +kernel
theorem dX6_day_90 : decode cX6_day 90 = .ok (.aload_n 0, 1) := by decide +kernel
theorem dX6_day_91 : decode cX6_day 91 = .ok (.iload_n 2, 1) := by decide +kernel
theorem dX6_day_92 : decode cX6_day 92 = .ok (.invokevirtual 110, 3) := by decide +kernel
theorem dX6_day_95 : decode cX6_day 95 = .ok (.iinc 1 1, 3) := by decide +kernel
theorem dX6_day_98 : decode cX6_day 98 = .ok (.goto 6, 3) := by decide +kernel
theorem dX6_day_101 : decode cX6_day 101 = .ok (.iinc 2 1, 3) := by decide +kernel
theorem dX6_day_104 : decode cX6_day 104 = .ok (.goto (-89), 3) := by decide +kernel
theorem dX6_day_107 : decode cX6_day 107 = .ok (.iload_n 1, 1) := by decide +kernel
theorem dX6_day_108 : decode cX6_day 108 = .ok (.ireturn, 1) := by decide +kernel
theorem dX6_least_0 : decode cX6_least 0 = .ok (.iload_n 0, 1) := by decide +kernel
theorem dX6_least_1 : decode cX6_least 1 = .ok (.ifCond .ne 7, 3) := by decide +kernel
theorem dX6_least_4 : decode cX6_least 4 = .ok (.iconst 2, 1) := by decide +kernel
theorem dX6_least_5 : decode cX6_least 5 = .ok (.goto 13, 3) := by decide +kernel
theorem dX6_least_8 : decode cX6_least 8 = .ok (.iload_n 0, 1) := by decide +kernel
theorem dX6_least_9 : decode cX6_least 9 = .ok (.iconst 3, 1) := by decide +kernel
theorem dX6_least_10 : decode cX6_least 10 = .ok (.if_icmp .ne 7, 3) := by decide +kernel
theorem dX6_least_13 : decode cX6_least 13 = .ok (.iconst 1, 1) := by decide +kernel
theorem dX6_least_14 : decode cX6_least 14 = .ok (.goto 4, 3) := by decide +kernel
theorem dX6_least_17 : decode cX6_least 17 = .ok (.iconst 0, 1) := by decide +kernel
theorem dX6_least_18 : decode cX6_least 18 = .ok (.ireturn, 1) := by decide +kernel
theorem dX6_most_0 : decode cX6_most 0 = .ok (.iload_n 0, 1) := by decide +kernel
theorem dX6_most_1 : decode cX6_most 1 = .ok (.tableswitch 62 0 6 #[43, 46, 49, 43, 52, 55, 59], 43) := by decide +kernel
theorem dX6_most_44 : decode cX6_most 44 = .ok (.bipush 20, 2) := by decide +kernel
theorem dX6_most_46 : decode cX6_most 46 = .ok (.ireturn, 1) := by decide +kernel
theorem dX6_most_47 : decode cX6_most 47 = .ok (.bipush 99, 2) := by decide +kernel
theorem dX6_most_49 : decode cX6_most 49 = .ok (.ireturn, 1) := by decide +kernel
theorem dX6_most_50 : decode cX6_most 50 = .ok (.bipush 9, 2) := by decide +kernel
theorem dX6_most_52 : decode cX6_most 52 = .ok (.ireturn, 1) := by decide +kernel
theorem dX6_most_53 : decode cX6_most 53 = .ok (.bipush 30, 2) := by decide +kernel
theorem dX6_most_55 : decode cX6_most 55 = .ok (.ireturn, 1) := by decide +kernel
theorem dX6_most_56 : decode cX6_most 56 = .ok (.sipush 500, 3) := by decide +kernel
theorem dX6_most_59 : decode cX6_most 59 = .ok (.ireturn, 1) := by decide +kernel
theorem dX6_most_60 : decode cX6_most 60 = .ok (.bipush 50, 2) := by decide +kernel
theorem dX6_most_62 : decode cX6_most 62 = .ok (.ireturn, 1) := by decide +kernel
theorem dX6_most_63 : decode cX6_most 63 = .ok (.bipush 100, 2) := by decide +kernel
theorem dX6_most_65 : decode cX6_most 65 = .ok (.ireturn, 1) := by decide +kernel
theorem dX6_lays_0 : decode cX6_lays 0 = .ok (.aload_n 0, 1) := by decide +kernel
theorem dX6_lays_1 : decode cX6_lays 1 = .ok (.invokevirtual 113, 3) := by decide +kernel
theorem dX6_lays_4 : decode cX6_lays 4 = .ok (.aload_n 0, 1) := by decide +kernel
theorem dX6_lays_5 : decode cX6_lays 5 = .ok (.getfield 7, 3) := by decide +kernel
theorem dX6_lays_8 : decode cX6_lays 8 = .ok (.iload_n 1, 1) := by decide +kernel
theorem dX6_lays_9 : decode cX6_lays 9 = .ok (.iaload, 1) := by decide +kernel
theorem dX6_lays_10 : decode cX6_lays 10 = .ok (.istore_n 3, 1) := by decide +kernel
theorem dX6_lays_11 : decode cX6_lays 11 = .ok (.aload_n 0, 1) := by decide +kernel
theorem dX6_lays_12 : decode cX6_lays 12 = .ok (.getfield 7, 3) := by decide +kernel
theorem dX6_lays_15 : decode cX6_lays 15 = .ok (.iload_n 1, 1) := by decide +kernel
theorem dX6_lays_16 : decode cX6_lays 16 = .ok (.iload_n 2, 1) := by decide +kernel
theorem dX6_lays_17 : decode cX6_lays 17 = .ok (.iastore, 1) := by decide +kernel
theorem dX6_lays_18 : decode cX6_lays 18 = .ok (.iload_n 3, 1) := by decide +kernel
theorem dX6_lays_19 : decode cX6_lays 19 = .ok (.ireturn, 1) := by decide +kernel
theorem dX6_set_0 : decode cX6_set 0 = .ok (.iload_n 1, 1) := by decide +kernel
theorem dX6_set_1 : decode cX6_set 1 = .ok (.iconst 0, 1) := by decide +kernel
theorem dX6_set_2 : decode cX6_set 2 = .ok (.bipush 8, 2) := by decide +kernel
theorem dX6_set_4 : decode cX6_set 4 = .ok (.invokestatic 35, 3) := by decide +kernel
theorem dX6_set_7 : decode cX6_set 7 = .ok (.ifCond .eq 27, 3) := by decide +kernel
theorem dX6_set_10 : decode cX6_set 10 = .ok (.iload_n 2, 1) := by decide +kernel
theorem dX6_set_11 : decode cX6_set 11 = .ok (.iload_n 1, 1) := by decide +kernel
theorem dX6_set_12 : decode cX6_set 12 = .ok (.invokestatic 116, 3) := by decide +kernel
theorem dX6_set_15 : decode cX6_set 15 = .ok (.iload_n 1, 1) := by decide +kernel
theorem dX6_set_16 : decode cX6_set 16 = .ok (.invokestatic 119, 3) := by decide +kernel
theorem dX6_set_19 : decode cX6_set 19 = .ok (.invokestatic 35, 3) := by decide +kernel
theorem dX6_set_22 : decode cX6_set 22 = .ok (.ifCond .eq 12, 3) := by decide +kernel
theorem dX6_set_25 : decode cX6_set 25 = .ok (.aload_n 0, 1) := by decide +kernel
theorem dX6_set_26 : decode cX6_set 26 = .ok (.iload_n 1, 1) := by decide +kernel
theorem dX6_set_27 : decode cX6_set 27 = .ok (.iload_n 2, 1) := by decide +kernel
theorem dX6_set_28 : decode cX6_set 28 = .ok (.invokevirtual 122, 3) := by decide +kernel
theorem dX6_set_31 : decode cX6_set 31 = .ok (.goto 5, 3) := by decide +kernel
theorem dX6_set_34 : decode cX6_set 34 = .ok (.ldc 125, 2) := by decide +kernel
theorem dX6_set_36 : decode cX6_set 36 = .ok (.ireturn, 1) := by decide +kernel
theorem dX6_bits_0 : decode cX6_bits 0 = .ok (.iconst 0, 1) := by decide +kernel
theorem dX6_bits_1 : decode cX6_bits 1 = .ok (.istore_n 1, 1) := by decide +kernel
theorem dX6_bits_2 : decode cX6_bits 2 = .ok (.iconst 0, 1) := by decide +kernel
theorem dX6_bits_3 : decode cX6_bits 3 = .ok (.istore_n 2, 1) := by decide +kernel
theorem dX6_bits_4 : decode cX6_bits 4 = .ok (.iload_n 2, 1) := by decide +kernel
theorem dX6_bits_5 : decode cX6_bits 5 = .ok (.bipush 8, 2) := by decide +kernel
theorem dX6_bits_7 : decode cX6_bits 7 = .ok (.if_icmp .ge 17, 3) := by decide +kernel
theorem dX6_bits_10 : decode cX6_bits 10 = .ok (.iload_n 1, 1) := by decide +kernel
theorem dX6_bits_11 : decode cX6_bits 11 = .ok (.iload_n 0, 1) := by decide +kernel
theorem dX6_bits_12 : decode cX6_bits 12 = .ok (.iload_n 2, 1) := by decide +kernel
theorem dX6_bits_13 : decode cX6_bits 13 = .ok (.ishr, 1) := by decide +kernel
theorem dX6_bits_14 : decode cX6_bits 14 = .ok (.iconst 1, 1) := by decide +kernel
theorem dX6_bits_15 : decode cX6_bits 15 = .ok (.iand, 1) := by decide +kernel
theorem dX6_bits_16 : decode cX6_bits 16 = .ok (.iadd, 1) := by decide +kernel
theorem dX6_bits_17 : decode cX6_bits 17 = .ok (.istore_n 1, 1) := by decide +kernel
theorem dX6_bits_18 : decode cX6_bits 18 = .ok (.iinc 2 1, 3) := by decide +kernel
theorem dX6_bits_21 : decode cX6_bits 21 = .ok (.goto (-17), 3) := by decide +kernel
theorem dX6_bits_24 : decode cX6_bits 24 = .ok (.iload_n 1, 1) := by decide +kernel
theorem dX6_bits_25 : decode cX6_bits 25 = .ok (.ireturn, 1) := by decide +kernel
theorem dX6_snap_0 : decode cX6_snap 0 = .ok (.iload_n 1, 1) := by decide +kernel
theorem dX6_snap_1 : decode cX6_snap 1 = .ok (.invokestatic 126, 3) := by decide +kernel
theorem dX6_snap_4 : decode cX6_snap 4 = .ok (.ifCond .eq 10, 3) := by decide +kernel
theorem dX6_snap_7 : decode cX6_snap 7 = .ok (.iload_n 2, 1) := by decide +kernel
theorem dX6_snap_8 : decode cX6_snap 8 = .ok (.invokestatic 129, 3) := by decide +kernel
theorem dX6_snap_11 : decode cX6_snap 11 = .ok (.ifCond .ne 6, 3) := by decide +kernel
theorem dX6_snap_14 : decode cX6_snap 14 = .ok (.ldc 132, 2) := by decide +kernel
theorem dX6_snap_16 : decode cX6_snap 16 = .ok (.ireturn, 1) := by decide +kernel
theorem dX6_snap_17 : decode cX6_snap 17 = .ok (.aload_n 0, 1) := by decide +kernel
theorem dX6_snap_18 : decode cX6_snap 18 = .ok (.getfield 7, 3) := by decide +kernel
theorem dX6_snap_21 : decode cX6_snap 21 = .ok (.iload_n 1, 1) := by decide +kernel
theorem dX6_snap_22 : decode cX6_snap 22 = .ok (.iconst 1, 1) := by decide +kernel
theorem dX6_snap_23 : decode cX6_snap 23 = .ok (.invokestatic 47, 3) := by decide +kernel
theorem dX6_snap_26 : decode cX6_snap 26 = .ok (.iaload, 1) := by decide +kernel
theorem dX6_snap_27 : decode cX6_snap 27 = .ok (.iload_n 2, 1) := by decide +kernel
theorem dX6_snap_28 : decode cX6_snap 28 = .ok (.invokestatic 43, 3) := by decide +kernel
theorem dX6_snap_31 : decode cX6_snap 31 = .ok (.ifCond .eq 6, 3) := by decide +kernel
theorem dX6_snap_34 : decode cX6_snap 34 = .ok (.ldc 133, 2) := by decide +kernel
theorem dX6_snap_36 : decode cX6_snap 36 = .ok (.ireturn, 1) := by decide +kernel
theorem dX6_snap_37 : decode cX6_snap 37 = .ok (.aload_n 0, 1) := by decide +kernel
theorem dX6_snap_38 : decode cX6_snap 38 = .ok (.invokevirtual 113, 3) := by decide +kernel
theorem dX6_snap_41 : decode cX6_snap 41 = .ok (.aload_n 0, 1) := by decide +kernel
theorem dX6_snap_42 : decode cX6_snap 42 = .ok (.getfield 7, 3) := by decide +kernel
theorem dX6_snap_45 : decode cX6_snap 45 = .ok (.iload_n 1, 1) := by decide +kernel
theorem dX6_snap_46 : decode cX6_snap 46 = .ok (.iconst 1, 1) := by decide +kernel
theorem dX6_snap_47 : decode cX6_snap 47 = .ok (.invokestatic 47, 3) := by decide +kernel
theorem dX6_snap_50 : decode cX6_snap 50 = .ok (.dup2, 1) := by decide +kernel
theorem dX6_snap_51 : decode cX6_snap 51 = .ok (.iaload, 1) := by decide +kernel
theorem dX6_snap_52 : decode cX6_snap 52 = .ok (.iconst 1, 1) := by decide +kernel
theorem dX6_snap_53 : decode cX6_snap 53 = .ok (.iload_n 2, 1) := by decide +kernel
theorem dX6_snap_54 : decode cX6_snap 54 = .ok (.ishl, 1) := by decide +kernel
theorem dX6_snap_55 : decode cX6_snap 55 = .ok (.ior, 1) := by decide +kernel
theorem dX6_snap_56 : decode cX6_snap 56 = .ok (.iastore, 1) := by decide +kernel
theorem dX6_snap_57 : decode cX6_snap 57 = .ok (.aload_n 0, 1) := by decide +kernel
theorem dX6_snap_58 : decode cX6_snap 58 = .ok (.getfield 7, 3) := by decide +kernel
theorem dX6_snap_61 : decode cX6_snap 61 = .ok (.iload_n 1, 1) := by decide +kernel
theorem dX6_snap_62 : decode cX6_snap 62 = .ok (.iconst 1, 1) := by decide +kernel
theorem dX6_snap_63 : decode cX6_snap 63 = .ok (.invokestatic 47, 3) := by decide +kernel
theorem dX6_snap_66 : decode cX6_snap 66 = .ok (.iaload, 1) := by decide +kernel
theorem dX6_snap_67 : decode cX6_snap 67 = .ok (.invokestatic 134, 3) := by decide +kernel
theorem dX6_snap_70 : decode cX6_snap 70 = .ok (.ireturn, 1) := by decide +kernel
theorem dX6_does_0 : decode cX6_does 0 = .ok (.iload_n 3, 1) := by decide +kernel
theorem dX6_does_1 : decode cX6_does 1 = .ok (.invokestatic 129, 3) := by decide +kernel
theorem dX6_does_4 : decode cX6_does 4 = .ok (.ifCond .eq 53, 3) := by decide +kernel
theorem dX6_does_7 : decode cX6_does 7 = .ok (.iload_n 3, 1) := by decide +kernel
theorem dX6_does_8 : decode cX6_does 8 = .ok (.iload_n 2, 1) := by decide +kernel
theorem dX6_does_9 : decode cX6_does 9 = .ok (.iconst 1, 1) := by decide +kernel
theorem dX6_does_10 : decode cX6_does 10 = .ok (.isub, 1) := by decide +kernel
theorem dX6_does_11 : decode cX6_does 11 = .ok (.iload_n 2, 1) := by decide +kernel
theorem dX6_does_12 : decode cX6_does 12 = .ok (.iconst 1, 1) := by decide +kernel
theorem dX6_does_13 : decode cX6_does 13 = .ok (.iadd, 1) := by decide +kernel
theorem dX6_does_14 : decode cX6_does 14 = .ok (.invokestatic 35, 3) := by decide +kernel
theorem dX6_does_17 : decode cX6_does 17 = .ok (.ifCond .eq 40, 3) := by decide +kernel
theorem dX6_does_20 : decode cX6_does 20 = .ok (.aload_n 0, 1) := by decide +kernel
theorem dX6_does_21 : decode cX6_does 21 = .ok (.getfield 7, 3) := by decide +kernel
theorem dX6_does_24 : decode cX6_does 24 = .ok (.iload_n 1, 1) := by decide +kernel
theorem dX6_does_25 : decode cX6_does 25 = .ok (.iconst 1, 1) := by decide +kernel
theorem dX6_does_26 : decode cX6_does 26 = .ok (.invokestatic 47, 3) := by decide +kernel
theorem dX6_does_29 : decode cX6_does 29 = .ok (.iaload, 1) := by decide +kernel
theorem dX6_does_30 : decode cX6_does 30 = .ok (.iload_n 2, 1) := by decide +kernel
theorem dX6_does_31 : decode cX6_does 31 = .ok (.invokestatic 43, 3) := by decide +kernel
theorem dX6_does_34 : decode cX6_does 34 = .ok (.ifCond .eq 23, 3) := by decide +kernel
theorem dX6_does_37 : decode cX6_does 37 = .ok (.aload_n 0, 1) := by decide +kernel
theorem dX6_does_38 : decode cX6_does 38 = .ok (.getfield 7, 3) := by decide +kernel
theorem dX6_does_41 : decode cX6_does 41 = .ok (.iload_n 1, 1) := by decide +kernel
theorem dX6_does_42 : decode cX6_does 42 = .ok (.bipush 6, 2) := by decide +kernel
theorem dX6_does_44 : decode cX6_does 44 = .ok (.iload_n 3, 1) := by decide +kernel
theorem dX6_does_45 : decode cX6_does 45 = .ok (.iadd, 1) := by decide +kernel
theorem dX6_does_46 : decode cX6_does 46 = .ok (.invokestatic 47, 3) := by decide +kernel
theorem dX6_does_49 : decode cX6_does 49 = .ok (.iaload, 1) := by decide +kernel
theorem dX6_does_50 : decode cX6_does 50 = .ok (.ifCond .le 7, 3) := by decide +kernel
theorem dX6_does_53 : decode cX6_does 53 = .ok (.iconst 1, 1) := by decide +kernel
theorem dX6_does_54 : decode cX6_does 54 = .ok (.goto 4, 3) := by decide +kernel
theorem dX6_does_57 : decode cX6_does 57 = .ok (.iconst 0, 1) := by decide +kernel
theorem dX6_does_58 : decode cX6_does 58 = .ok (.ireturn, 1) := by decide +kernel
theorem dX6_fit_0 : decode cX6_fit 0 = .ok (.iload_n 1, 1) := by decide +kernel
theorem dX6_fit_1 : decode cX6_fit 1 = .ok (.invokestatic 126, 3) := by decide +kernel
theorem dX6_fit_4 : decode cX6_fit 4 = .ok (.ifCond .eq 17, 3) := by decide +kernel
theorem dX6_fit_7 : decode cX6_fit 7 = .ok (.iload_n 2, 1) := by decide +kernel
theorem dX6_fit_8 : decode cX6_fit 8 = .ok (.invokestatic 129, 3) := by decide +kernel
theorem dX6_fit_11 : decode cX6_fit 11 = .ok (.ifCond .eq 10, 3) := by decide +kernel
theorem dX6_fit_14 : decode cX6_fit 14 = .ok (.iload_n 3, 1) := by decide +kernel
theorem dX6_fit_15 : decode cX6_fit 15 = .ok (.invokestatic 129, 3) := by decide +kernel
theorem dX6_fit_18 : decode cX6_fit 18 = .ok (.ifCond .ne 6, 3) := by decide +kernel
theorem dX6_fit_21 : decode cX6_fit 21 = .ok (.ldc 132, 2) := by decide +kernel
theorem dX6_fit_23 : decode cX6_fit 23 = .ok (.ireturn, 1) := by decide +kernel
theorem dX6_fit_24 : decode cX6_fit 24 = .ok (.aload_n 0, 1) := by decide +kernel
theorem dX6_fit_25 : decode cX6_fit 25 = .ok (.iload_n 1, 1) := by decide +kernel
theorem dX6_fit_26 : decode cX6_fit 26 = .ok (.iload_n 2, 1) := by decide +kernel
theorem dX6_fit_27 : decode cX6_fit 27 = .ok (.iload_n 3, 1) := by decide +kernel
theorem dX6_fit_28 : decode cX6_fit 28 = .ok (.invokevirtual 137, 3) := by decide +kernel
theorem dX6_fit_31 : decode cX6_fit 31 = .ok (.ifCond .ne 6, 3) := by decide +kernel
theorem dX6_fit_34 : decode cX6_fit 34 = .ok (.ldc 133, 2) := by decide +kernel
theorem dX6_fit_36 : decode cX6_fit 36 = .ok (.ireturn, 1) := by decide +kernel
theorem dX6_fit_37 : decode cX6_fit 37 = .ok (.aload_n 0, 1) := by decide +kernel
theorem dX6_fit_38 : decode cX6_fit 38 = .ok (.invokevirtual 113, 3) := by decide +kernel
theorem dX6_fit_41 : decode cX6_fit 41 = .ok (.aload_n 0, 1) := by decide +kernel
theorem dX6_fit_42 : decode cX6_fit 42 = .ok (.getfield 7, 3) := by decide +kernel
theorem dX6_fit_45 : decode cX6_fit 45 = .ok (.iload_n 1, 1) := by decide +kernel
theorem dX6_fit_46 : decode cX6_fit 46 = .ok (.iconst 1, 1) := by decide +kernel
theorem dX6_fit_47 : decode cX6_fit 47 = .ok (.invokestatic 47, 3) := by decide +kernel
theorem dX6_fit_50 : decode cX6_fit 50 = .ok (.dup2, 1) := by decide +kernel
theorem dX6_fit_51 : decode cX6_fit 51 = .ok (.iaload, 1) := by decide +kernel
theorem dX6_fit_52 : decode cX6_fit 52 = .ok (.iconst 1, 1) := by decide +kernel
theorem dX6_fit_53 : decode cX6_fit 53 = .ok (.iload_n 2, 1) := by decide +kernel
theorem dX6_fit_54 : decode cX6_fit 54 = .ok (.ishl, 1) := by decide +kernel
theorem dX6_fit_55 : decode cX6_fit 55 = .ok (.ixor, 1) := by decide +kernel
theorem dX6_fit_56 : decode cX6_fit 56 = .ok (.iastore, 1) := by decide +kernel
theorem dX6_fit_57 : decode cX6_fit 57 = .ok (.aload_n 0, 1) := by decide +kernel
theorem dX6_fit_58 : decode cX6_fit 58 = .ok (.getfield 7, 3) := by decide +kernel
theorem dX6_fit_61 : decode cX6_fit 61 = .ok (.iload_n 1, 1) := by decide +kernel
theorem dX6_fit_62 : decode cX6_fit 62 = .ok (.bipush 6, 2) := by decide +kernel
theorem dX6_fit_64 : decode cX6_fit 64 = .ok (.iload_n 3, 1) := by decide +kernel
theorem dX6_fit_65 : decode cX6_fit 65 = .ok (.iadd, 1) := by decide +kernel
theorem dX6_fit_66 : decode cX6_fit 66 = .ok (.invokestatic 47, 3) := by decide +kernel
theorem dX6_fit_69 : decode cX6_fit 69 = .ok (.dup2, 1) := by decide +kernel
theorem dX6_fit_70 : decode cX6_fit 70 = .ok (.iaload, 1) := by decide +kernel
theorem dX6_fit_71 : decode cX6_fit 71 = .ok (.iconst 1, 1) := by decide +kernel
theorem dX6_fit_72 : decode cX6_fit 72 = .ok (.isub, 1) := by decide +kernel
theorem dX6_fit_73 : decode cX6_fit 73 = .ok (.iastore, 1) := by decide +kernel
theorem dX6_fit_74 : decode cX6_fit 74 = .ok (.aload_n 0, 1) := by decide +kernel
theorem dX6_fit_75 : decode cX6_fit 75 = .ok (.getfield 7, 3) := by decide +kernel
theorem dX6_fit_78 : decode cX6_fit 78 = .ok (.iload_n 1, 1) := by decide +kernel
theorem dX6_fit_79 : decode cX6_fit 79 = .ok (.bipush 6, 2) := by decide +kernel
theorem dX6_fit_81 : decode cX6_fit 81 = .ok (.iload_n 3, 1) := by decide +kernel
theorem dX6_fit_82 : decode cX6_fit 82 = .ok (.iadd, 1) := by decide +kernel
theorem dX6_fit_83 : decode cX6_fit 83 = .ok (.invokestatic 47, 3) := by decide +kernel
theorem dX6_fit_86 : decode cX6_fit 86 = .ok (.iaload, 1) := by decide +kernel
theorem dX6_fit_87 : decode cX6_fit 87 = .ok (.ireturn, 1) := by decide +kernel
theorem dX6_want_0 : decode cX6_want 0 = .ok (.iload_n 1, 1) := by decide +kernel
theorem dX6_want_1 : decode cX6_want 1 = .ok (.invokestatic 126, 3) := by decide +kernel
theorem dX6_want_4 : decode cX6_want 4 = .ok (.ifCond .eq 10, 3) := by decide +kernel
theorem dX6_want_7 : decode cX6_want 7 = .ok (.iload_n 2, 1) := by decide +kernel
theorem dX6_want_8 : decode cX6_want 8 = .ok (.invokestatic 129, 3) := by decide +kernel
theorem dX6_want_11 : decode cX6_want 11 = .ok (.ifCond .ne 6, 3) := by decide +kernel
theorem dX6_want_14 : decode cX6_want 14 = .ok (.ldc 132, 2) := by decide +kernel
theorem dX6_want_16 : decode cX6_want 16 = .ok (.ireturn, 1) := by decide +kernel
theorem dX6_want_17 : decode cX6_want 17 = .ok (.iload_n 3, 1) := by decide +kernel
theorem dX6_want_18 : decode cX6_want 18 = .ok (.iconst 0, 1) := by decide +kernel
theorem dX6_want_19 : decode cX6_want 19 = .ok (.bipush 20, 2) := by decide +kernel
theorem dX6_want_21 : decode cX6_want 21 = .ok (.invokestatic 35, 3) := by decide +kernel
theorem dX6_want_24 : decode cX6_want 24 = .ok (.ifCond .ne 6, 3) := by decide +kernel
theorem dX6_want_27 : decode cX6_want 27 = .ok (.ldc 125, 2) := by decide +kernel
theorem dX6_want_29 : decode cX6_want 29 = .ok (.ireturn, 1) := by decide +kernel
theorem dX6_want_30 : decode cX6_want 30 = .ok (.aload_n 0, 1) := by decide +kernel
theorem dX6_want_31 : decode cX6_want 31 = .ok (.iload_n 1, 1) := by decide +kernel
theorem dX6_want_32 : decode cX6_want 32 = .ok (.bipush 14, 2) := by decide +kernel
theorem dX6_want_34 : decode cX6_want 34 = .ok (.iload_n 2, 1) := by decide +kernel
theorem dX6_want_35 : decode cX6_want 35 = .ok (.iadd, 1) := by decide +kernel
theorem dX6_want_36 : decode cX6_want 36 = .ok (.invokestatic 47, 3) := by decide +kernel
theorem dX6_want_39 : decode cX6_want 39 = .ok (.iload_n 3, 1) := by decide +kernel
theorem dX6_want_40 : decode cX6_want 40 = .ok (.invokevirtual 122, 3) := by decide +kernel
theorem dX6_want_43 : decode cX6_want 43 = .ok (.istore 4, 2) := by decide +kernel
theorem dX6_want_45 : decode cX6_want 45 = .ok (.aload_n 0, 1) := by decide +kernel
theorem dX6_want_46 : decode cX6_want 46 = .ok (.bipush 63, 2) := by decide +kernel
theorem dX6_want_48 : decode cX6_want 48 = .ok (.invokevirtual 140, 3) := by decide +kernel
theorem dX6_want_51 : decode cX6_want 51 = .ok (.ireturn, 1) := by decide +kernel
theorem dX6_pay_0 : decode cX6_pay 0 = .ok (.iload_n 1, 1) := by decide +kernel
theorem dX6_pay_1 : decode cX6_pay 1 = .ok (.invokestatic 126, 3) := by decide +kernel
theorem dX6_pay_4 : decode cX6_pay 4 = .ok (.ifCond .ne 6, 3) := by decide +kernel
theorem dX6_pay_7 : decode cX6_pay 7 = .ok (.ldc 132, 2) := by decide +kernel
theorem dX6_pay_9 : decode cX6_pay 9 = .ok (.ireturn, 1) := by decide +kernel
theorem dX6_pay_10 : decode cX6_pay 10 = .ok (.iload_n 2, 1) := by decide +kernel
theorem dX6_pay_11 : decode cX6_pay 11 = .ok (.iconst 1, 1) := by decide +kernel
theorem dX6_pay_12 : decode cX6_pay 12 = .ok (.sipush 1000, 3) := by decide +kernel
theorem dX6_pay_15 : decode cX6_pay 15 = .ok (.invokestatic 35, 3) := by decide +kernel
theorem dX6_pay_18 : decode cX6_pay 18 = .ok (.ifCond .eq 29, 3) := by decide +kernel
theorem dX6_pay_21 : decode cX6_pay 21 = .ok (.aload_n 0, 1) := by decide +kernel
theorem dX6_pay_22 : decode cX6_pay 22 = .ok (.iload_n 1, 1) := by decide +kernel
theorem dX6_pay_23 : decode cX6_pay 23 = .ok (.iconst 0, 1) := by decide +kernel
theorem dX6_pay_24 : decode cX6_pay 24 = .ok (.invokestatic 47, 3) := by decide +kernel
theorem dX6_pay_27 : decode cX6_pay 27 = .ok (.aload_n 0, 1) := by decide +kernel
theorem dX6_pay_28 : decode cX6_pay 28 = .ok (.getfield 7, 3) := by decide +kernel
theorem dX6_pay_31 : decode cX6_pay 31 = .ok (.iload_n 1, 1) := by decide +kernel
theorem dX6_pay_32 : decode cX6_pay 32 = .ok (.iconst 0, 1) := by decide +kernel
theorem dX6_pay_33 : decode cX6_pay 33 = .ok (.invokestatic 47, 3) := by decide +kernel
theorem dX6_pay_36 : decode cX6_pay 36 = .ok (.iaload, 1) := by decide +kernel
theorem dX6_pay_37 : decode cX6_pay 37 = .ok (.iload_n 2, 1) := by decide +kernel
theorem dX6_pay_38 : decode cX6_pay 38 = .ok (.iadd, 1) := by decide +kernel
theorem dX6_pay_39 : decode cX6_pay 39 = .ok (.invokevirtual 122, 3) := by decide +kernel
theorem dX6_pay_42 : decode cX6_pay 42 = .ok (.iload_n 2, 1) := by decide +kernel
theorem dX6_pay_43 : decode cX6_pay 43 = .ok (.iadd, 1) := by decide +kernel
theorem dX6_pay_44 : decode cX6_pay 44 = .ok (.goto 5, 3) := by decide +kernel
theorem dX6_pay_47 : decode cX6_pay 47 = .ok (.ldc 125, 2) := by decide +kernel
theorem dX6_pay_49 : decode cX6_pay 49 = .ok (.ireturn, 1) := by decide +kernel
theorem dX6_give_0 : decode cX6_give 0 = .ok (.iload_n 1, 1) := by decide +kernel
theorem dX6_give_1 : decode cX6_give 1 = .ok (.invokestatic 126, 3) := by decide +kernel
theorem dX6_give_4 : decode cX6_give 4 = .ok (.ifCond .eq 17, 3) := by decide +kernel
theorem dX6_give_7 : decode cX6_give 7 = .ok (.iload_n 2, 1) := by decide +kernel
theorem dX6_give_8 : decode cX6_give 8 = .ok (.invokestatic 126, 3) := by decide +kernel
theorem dX6_give_11 : decode cX6_give 11 = .ok (.ifCond .eq 10, 3) := by decide +kernel
theorem dX6_give_14 : decode cX6_give 14 = .ok (.iload_n 3, 1) := by decide +kernel
theorem dX6_give_15 : decode cX6_give 15 = .ok (.invokestatic 129, 3) := by decide +kernel
theorem dX6_give_18 : decode cX6_give 18 = .ok (.ifCond .ne 6, 3) := by decide +kernel
theorem dX6_give_21 : decode cX6_give 21 = .ok (.ldc 132, 2) := by decide +kernel
theorem dX6_give_23 : decode cX6_give 23 = .ok (.ireturn, 1) := by decide +kernel
theorem dX6_give_24 : decode cX6_give 24 = .ok (.iload_n 1, 1) := by decide +kernel
theorem dX6_give_25 : decode cX6_give 25 = .ok (.iload_n 2, 1) := by decide +kernel
theorem dX6_give_26 : decode cX6_give 26 = .ok (.if_icmp .eq 14, 3) := by decide +kernel
theorem dX6_give_29 : decode cX6_give 29 = .ok (.iload 4, 2) := by decide +kernel
theorem dX6_give_31 : decode cX6_give 31 = .ok (.iconst 1, 1) := by decide +kernel
theorem dX6_give_32 : decode cX6_give 32 = .ok (.bipush 20, 2) := by decide +kernel
theorem dX6_give_34 : decode cX6_give 34 = .ok (.invokestatic 35, 3) := by decide +kernel
theorem dX6_give_37 : decode cX6_give 37 = .ok (.ifCond .ne 6, 3) := by decide +kernel
theorem dX6_give_40 : decode cX6_give 40 = .ok (.ldc 125, 2) := by decide +kernel
theorem dX6_give_42 : decode cX6_give 42 = .ok (.ireturn, 1) := by decide +kernel
theorem dX6_give_43 : decode cX6_give 43 = .ok (.aload_n 0, 1) := by decide +kernel
theorem dX6_give_44 : decode cX6_give 44 = .ok (.getfield 7, 3) := by decide +kernel
theorem dX6_give_47 : decode cX6_give 47 = .ok (.iload_n 1, 1) := by decide +kernel
theorem dX6_give_48 : decode cX6_give 48 = .ok (.bipush 6, 2) := by decide +kernel
theorem dX6_give_50 : decode cX6_give 50 = .ok (.iload_n 3, 1) := by decide +kernel
theorem dX6_give_51 : decode cX6_give 51 = .ok (.iadd, 1) := by decide +kernel
theorem dX6_give_52 : decode cX6_give 52 = .ok (.invokestatic 47, 3) := by decide +kernel
theorem dX6_give_55 : decode cX6_give 55 = .ok (.iaload, 1) := by decide +kernel
theorem dX6_give_56 : decode cX6_give 56 = .ok (.iload 4, 2) := by decide +kernel
theorem dX6_give_58 : decode cX6_give 58 = .ok (.if_icmp .lt 24, 3) := by decide +kernel
theorem dX6_give_61 : decode cX6_give 61 = .ok (.aload_n 0, 1) := by decide +kernel
theorem dX6_give_62 : decode cX6_give 62 = .ok (.getfield 7, 3) := by decide +kernel
theorem dX6_give_65 : decode cX6_give 65 = .ok (.iload_n 2, 1) := by decide +kernel
theorem dX6_give_66 : decode cX6_give 66 = .ok (.bipush 6, 2) := by decide +kernel
theorem dX6_give_68 : decode cX6_give 68 = .ok (.iload_n 3, 1) := by decide +kernel
theorem dX6_give_69 : decode cX6_give 69 = .ok (.iadd, 1) := by decide +kernel
theorem dX6_give_70 : decode cX6_give 70 = .ok (.invokestatic 47, 3) := by decide +kernel
theorem dX6_give_73 : decode cX6_give 73 = .ok (.iaload, 1) := by decide +kernel
theorem dX6_give_74 : decode cX6_give 74 = .ok (.iload 4, 2) := by decide +kernel
theorem dX6_give_76 : decode cX6_give 76 = .ok (.iadd, 1) := by decide +kernel
theorem dX6_give_77 : decode cX6_give 77 = .ok (.bipush 99, 2) := by decide +kernel
theorem dX6_give_79 : decode cX6_give 79 = .ok (.if_icmp .le 6, 3) := by decide +kernel
theorem dX6_give_82 : decode cX6_give 82 = .ok (.ldc 133, 2) := by decide +kernel
theorem dX6_give_84 : decode cX6_give 84 = .ok (.ireturn, 1) := by decide +kernel
theorem dX6_give_85 : decode cX6_give 85 = .ok (.aload_n 0, 1) := by decide +kernel
theorem dX6_give_86 : decode cX6_give 86 = .ok (.invokevirtual 113, 3) := by decide +kernel
theorem dX6_give_89 : decode cX6_give 89 = .ok (.aload_n 0, 1) := by decide +kernel
theorem dX6_give_90 : decode cX6_give 90 = .ok (.getfield 7, 3) := by decide +kernel
theorem dX6_give_93 : decode cX6_give 93 = .ok (.iload_n 1, 1) := by decide +kernel
theorem dX6_give_94 : decode cX6_give 94 = .ok (.bipush 6, 2) := by decide +kernel
theorem dX6_give_96 : decode cX6_give 96 = .ok (.iload_n 3, 1) := by decide +kernel
theorem dX6_give_97 : decode cX6_give 97 = .ok (.iadd, 1) := by decide +kernel
theorem dX6_give_98 : decode cX6_give 98 = .ok (.invokestatic 47, 3) := by decide +kernel
theorem dX6_give_101 : decode cX6_give 101 = .ok (.dup2, 1) := by decide +kernel
theorem dX6_give_102 : decode cX6_give 102 = .ok (.iaload, 1) := by decide +kernel
theorem dX6_give_103 : decode cX6_give 103 = .ok (.iload 4, 2) := by decide +kernel
theorem dX6_give_105 : decode cX6_give 105 = .ok (.isub, 1) := by decide +kernel
theorem dX6_give_106 : decode cX6_give 106 = .ok (.iastore, 1) := by decide +kernel
theorem dX6_give_107 : decode cX6_give 107 = .ok (.aload_n 0, 1) := by decide +kernel
theorem dX6_give_108 : decode cX6_give 108 = .ok (.getfield 7, 3) := by decide +kernel
theorem dX6_give_111 : decode cX6_give 111 = .ok (.iload_n 2, 1) := by decide +kernel
theorem dX6_give_112 : decode cX6_give 112 = .ok (.bipush 6, 2) := by decide +kernel
theorem dX6_give_114 : decode cX6_give 114 = .ok (.iload_n 3, 1) := by decide +kernel
theorem dX6_give_115 : decode cX6_give 115 = .ok (.iadd, 1) := by decide +kernel
theorem dX6_give_116 : decode cX6_give 116 = .ok (.invokestatic 47, 3) := by decide +kernel
theorem dX6_give_119 : decode cX6_give 119 = .ok (.dup2, 1) := by decide +kernel
theorem dX6_give_120 : decode cX6_give 120 = .ok (.iaload, 1) := by decide +kernel
theorem dX6_give_121 : decode cX6_give 121 = .ok (.iload 4, 2) := by decide +kernel
theorem dX6_give_123 : decode cX6_give 123 = .ok (.iadd, 1) := by decide +kernel
theorem dX6_give_124 : decode cX6_give 124 = .ok (.iastore, 1) := by decide +kernel
theorem dX6_give_125 : decode cX6_give 125 = .ok (.aload_n 0, 1) := by decide +kernel
theorem dX6_give_126 : decode cX6_give 126 = .ok (.getfield 7, 3) := by decide +kernel
theorem dX6_give_129 : decode cX6_give 129 = .ok (.iload_n 1, 1) := by decide +kernel
theorem dX6_give_130 : decode cX6_give 130 = .ok (.iconst 0, 1) := by decide +kernel
theorem dX6_give_131 : decode cX6_give 131 = .ok (.invokestatic 47, 3) := by decide +kernel
theorem dX6_give_134 : decode cX6_give 134 = .ok (.dup2, 1) := by decide +kernel
theorem dX6_give_135 : decode cX6_give 135 = .ok (.iaload, 1) := by decide +kernel
theorem dX6_give_136 : decode cX6_give 136 = .ok (.iload 4, 2) := by decide +kernel
theorem dX6_give_138 : decode cX6_give 138 = .ok (.iload_n 3, 1) := by decide +kernel
theorem dX6_give_139 : decode cX6_give 139 = .ok (.invokestatic 54, 3) := by decide +kernel
theorem dX6_give_142 : decode cX6_give 142 = .ok (.imul, 1) := by decide +kernel
theorem dX6_give_143 : decode cX6_give 143 = .ok (.iadd, 1) := by decide +kernel
theorem dX6_give_144 : decode cX6_give 144 = .ok (.iastore, 1) := by decide +kernel
theorem dX6_give_145 : decode cX6_give 145 = .ok (.aload_n 0, 1) := by decide +kernel
theorem dX6_give_146 : decode cX6_give 146 = .ok (.getfield 7, 3) := by decide +kernel
theorem dX6_give_149 : decode cX6_give 149 = .ok (.iload_n 2, 1) := by decide +kernel
theorem dX6_give_150 : decode cX6_give 150 = .ok (.iconst 0, 1) := by decide +kernel
theorem dX6_give_151 : decode cX6_give 151 = .ok (.invokestatic 47, 3) := by decide +kernel
theorem dX6_give_154 : decode cX6_give 154 = .ok (.dup2, 1) := by decide +kernel
theorem dX6_give_155 : decode cX6_give 155 = .ok (.iaload, 1) := by decide +kernel
theorem dX6_give_156 : decode cX6_give 156 = .ok (.iload 4, 2) := by decide +kernel
theorem dX6_give_158 : decode cX6_give 158 = .ok (.iload_n 3, 1) := by decide +kernel
theorem dX6_give_159 : decode cX6_give 159 = .ok (.invokestatic 54, 3) := by decide +kernel
theorem dX6_give_162 : decode cX6_give 162 = .ok (.imul, 1) := by decide +kernel
theorem dX6_give_163 : decode cX6_give 163 = .ok (.isub, 1) := by decide +kernel
theorem dX6_give_164 : decode cX6_give 164 = .ok (.iastore, 1) := by decide +kernel
theorem dX6_give_165 : decode cX6_give 165 = .ok (.aload_n 0, 1) := by decide +kernel
theorem dX6_give_166 : decode cX6_give 166 = .ok (.getfield 7, 3) := by decide +kernel
theorem dX6_give_169 : decode cX6_give 169 = .ok (.iload_n 1, 1) := by decide +kernel
theorem dX6_give_170 : decode cX6_give 170 = .ok (.iconst 0, 1) := by decide +kernel
theorem dX6_give_171 : decode cX6_give 171 = .ok (.invokestatic 47, 3) := by decide +kernel
theorem dX6_give_174 : decode cX6_give 174 = .ok (.iaload, 1) := by decide +kernel
theorem dX6_give_175 : decode cX6_give 175 = .ok (.ireturn, 1) := by decide +kernel
theorem dX6_sends_0 : decode cX6_sends 0 = .ok (.aload_n 0, 1) := by decide +kernel
theorem dX6_sends_1 : decode cX6_sends 1 = .ok (.getfield 7, 3) := by decide +kernel
theorem dX6_sends_4 : decode cX6_sends 4 = .ok (.bipush 14, 2) := by decide +kernel
theorem dX6_sends_6 : decode cX6_sends 6 = .ok (.iaload, 1) := by decide +kernel
theorem dX6_sends_7 : decode cX6_sends 7 = .ok (.istore_n 2, 1) := by decide +kernel
theorem dX6_sends_8 : decode cX6_sends 8 = .ok (.aload_n 0, 1) := by decide +kernel
theorem dX6_sends_9 : decode cX6_sends 9 = .ok (.getfield 7, 3) := by decide +kernel
theorem dX6_sends_12 : decode cX6_sends 12 = .ok (.iload_n 2, 1) := by decide +kernel
theorem dX6_sends_13 : decode cX6_sends 13 = .ok (.iconst 0, 1) := by decide +kernel
theorem dX6_sends_14 : decode cX6_sends 14 = .ok (.invokestatic 84, 3) := by decide +kernel
theorem dX6_sends_17 : decode cX6_sends 17 = .ok (.aload_n 0, 1) := by decide +kernel
theorem dX6_sends_18 : decode cX6_sends 18 = .ok (.iload_n 1, 1) := by decide +kernel
theorem dX6_sends_19 : decode cX6_sends 19 = .ok (.invokevirtual 67, 3) := by decide +kernel
theorem dX6_sends_22 : decode cX6_sends 22 = .ok (.iastore, 1) := by decide +kernel
theorem dX6_sends_23 : decode cX6_sends 23 = .ok (.aload_n 0, 1) := by decide +kernel
theorem dX6_sends_24 : decode cX6_sends 24 = .ok (.getfield 7, 3) := by decide +kernel
theorem dX6_sends_27 : decode cX6_sends 27 = .ok (.iload_n 2, 1) := by decide +kernel
theorem dX6_sends_28 : decode cX6_sends 28 = .ok (.iconst 1, 1) := by decide +kernel
theorem dX6_sends_29 : decode cX6_sends 29 = .ok (.invokestatic 84, 3) := by decide +kernel
theorem dX6_sends_32 : decode cX6_sends 32 = .ok (.aload_n 0, 1) := by decide +kernel
theorem dX6_sends_33 : decode cX6_sends 33 = .ok (.getfield 7, 3) := by decide +kernel
theorem dX6_sends_36 : decode cX6_sends 36 = .ok (.bipush 9, 2) := by decide +kernel
theorem dX6_sends_38 : decode cX6_sends 38 = .ok (.iaload, 1) := by decide +kernel
theorem dX6_sends_39 : decode cX6_sends 39 = .ok (.aload_n 0, 1) := by decide +kernel
theorem dX6_sends_40 : decode cX6_sends 40 = .ok (.getfield 7, 3) := by decide +kernel
theorem dX6_sends_43 : decode cX6_sends 43 = .ok (.iconst 3, 1) := by decide +kernel
theorem dX6_sends_44 : decode cX6_sends 44 = .ok (.iaload, 1) := by decide +kernel
theorem dX6_sends_45 : decode cX6_sends 45 = .ok (.iadd, 1) := by decide +kernel
theorem dX6_sends_46 : decode cX6_sends 46 = .ok (.iastore, 1) := by decide +kernel
theorem dX6_sends_47 : decode cX6_sends 47 = .ok (.aload_n 0, 1) := by decide +kernel
theorem dX6_sends_48 : decode cX6_sends 48 = .ok (.getfield 7, 3) := by decide +kernel
theorem dX6_sends_51 : decode cX6_sends 51 = .ok (.iload_n 2, 1) := by decide +kernel
theorem dX6_sends_52 : decode cX6_sends 52 = .ok (.iconst 2, 1) := by decide +kernel
theorem dX6_sends_53 : decode cX6_sends 53 = .ok (.invokestatic 84, 3) := by decide +kernel
theorem dX6_sends_56 : decode cX6_sends 56 = .ok (.iconst 0, 1) := by decide +kernel
theorem dX6_sends_57 : decode cX6_sends 57 = .ok (.iastore, 1) := by decide +kernel
theorem dX6_sends_58 : decode cX6_sends 58 = .ok (.aload_n 0, 1) := by decide +kernel
theorem dX6_sends_59 : decode cX6_sends 59 = .ok (.iload_n 1, 1) := by decide +kernel
theorem dX6_sends_60 : decode cX6_sends 60 = .ok (.invokevirtual 143, 3) := by decide +kernel
theorem dX6_sends_63 : decode cX6_sends 63 = .ok (.iconst 0, 1) := by decide +kernel
theorem dX6_sends_64 : decode cX6_sends 64 = .ok (.istore_n 3, 1) := by decide +kernel
theorem dX6_sends_65 : decode cX6_sends 65 = .ok (.iload_n 3, 1) := by decide +kernel
theorem dX6_sends_66 : decode cX6_sends 66 = .ok (.bipush 6, 2) := by decide +kernel
theorem dX6_sends_68 : decode cX6_sends 68 = .ok (.if_icmp .ge 73, 3) := by decide +kernel
theorem dX6_sends_71 : decode cX6_sends 71 = .ok (.aload_n 0, 1) := by decide +kernel
theorem dX6_sends_72 : decode cX6_sends 72 = .ok (.iload_n 1, 1) := by decide +kernel
theorem dX6_sends_73 : decode cX6_sends 73 = .ok (.iload_n 3, 1) := by decide +kernel
theorem dX6_sends_74 : decode cX6_sends 74 = .ok (.invokevirtual 146, 3) := by decide +kernel
theorem dX6_sends_77 : decode cX6_sends 77 = .ok (.istore 4, 2) := by decide +kernel
theorem dX6_sends_79 : decode cX6_sends 79 = .ok (.aload_n 0, 1) := by decide +kernel
theorem dX6_sends_80 : decode cX6_sends 80 = .ok (.getfield 7, 3) := by decide +kernel
theorem dX6_sends_83 : decode cX6_sends 83 = .ok (.iload_n 3, 1) := by decide +kernel
theorem dX6_sends_84 : decode cX6_sends 84 = .ok (.iconst 0, 1) := by decide +kernel
theorem dX6_sends_85 : decode cX6_sends 85 = .ok (.invokestatic 47, 3) := by decide +kernel
theorem dX6_sends_88 : decode cX6_sends 88 = .ok (.dup2, 1) := by decide +kernel
theorem dX6_sends_89 : decode cX6_sends 89 = .ok (.iaload, 1) := by decide +kernel
theorem dX6_sends_90 : decode cX6_sends 90 = .ok (.iload 4, 2) := by decide +kernel
theorem dX6_sends_92 : decode cX6_sends 92 = .ok (.aload_n 0, 1) := by decide +kernel
theorem dX6_sends_93 : decode cX6_sends 93 = .ok (.getfield 32, 3) := by decide +kernel
theorem dX6_sends_96 : decode cX6_sends 96 = .ok (.iload_n 3, 1) := by decide +kernel
theorem dX6_sends_97 : decode cX6_sends 97 = .ok (.iaload, 1) := by decide +kernel
theorem dX6_sends_98 : decode cX6_sends 98 = .ok (.iadd, 1) := by decide +kernel
theorem dX6_sends_99 : decode cX6_sends 99 = .ok (.isub, 1) := by decide +kernel
theorem dX6_sends_100 : decode cX6_sends 100 = .ok (.iastore, 1) := by decide +kernel
theorem dX6_sends_101 : decode cX6_sends 101 = .ok (.aload_n 0, 1) := by decide +kernel
theorem dX6_sends_102 : decode cX6_sends 102 = .ok (.getfield 7, 3) := by decide +kernel
theorem dX6_sends_105 : decode cX6_sends 105 = .ok (.iload_n 3, 1) := by decide +kernel
theorem dX6_sends_106 : decode cX6_sends 106 = .ok (.iconst 2, 1) := by decide +kernel
theorem dX6_sends_107 : decode cX6_sends 107 = .ok (.invokestatic 47, 3) := by decide +kernel
theorem dX6_sends_110 : decode cX6_sends 110 = .ok (.dup2, 1) := by decide +kernel
theorem dX6_sends_111 : decode cX6_sends 111 = .ok (.iaload, 1) := by decide +kernel
theorem dX6_sends_112 : decode cX6_sends 112 = .ok (.iload 4, 2) := by decide +kernel
theorem dX6_sends_114 : decode cX6_sends 114 = .ok (.iadd, 1) := by decide +kernel
theorem dX6_sends_115 : decode cX6_sends 115 = .ok (.iastore, 1) := by decide +kernel
theorem dX6_sends_116 : decode cX6_sends 116 = .ok (.aload_n 0, 1) := by decide +kernel
theorem dX6_sends_117 : decode cX6_sends 117 = .ok (.getfield 7, 3) := by decide +kernel
theorem dX6_sends_120 : decode cX6_sends 120 = .ok (.iload_n 3, 1) := by decide +kernel
theorem dX6_sends_121 : decode cX6_sends 121 = .ok (.iconst 3, 1) := by decide +kernel
theorem dX6_sends_122 : decode cX6_sends 122 = .ok (.invokestatic 47, 3) := by decide +kernel
theorem dX6_sends_125 : decode cX6_sends 125 = .ok (.dup2, 1) := by decide +kernel
theorem dX6_sends_126 : decode cX6_sends 126 = .ok (.iaload, 1) := by decide +kernel
theorem dX6_sends_127 : decode cX6_sends 127 = .ok (.aload_n 0, 1) := by decide +kernel
theorem dX6_sends_128 : decode cX6_sends 128 = .ok (.getfield 32, 3) := by decide +kernel
theorem dX6_sends_131 : decode cX6_sends 131 = .ok (.iload_n 3, 1) := by decide +kernel
theorem dX6_sends_132 : decode cX6_sends 132 = .ok (.iaload, 1) := by decide +kernel
theorem dX6_sends_133 : decode cX6_sends 133 = .ok (.iadd, 1) := by decide +kernel
theorem dX6_sends_134 : decode cX6_sends 134 = .ok (.iastore, 1) := by decide +kernel
theorem dX6_sends_135 : decode cX6_sends 135 = .ok (.iinc 3 1, 3) := by decide +kernel
theorem dX6_sends_138 : decode cX6_sends 138 = .ok (.goto (-73), 3) := by decide +kernel
theorem dX6_sends_141 : decode cX6_sends 141 = .ok (.iconst 0, 1) := by decide +kernel
theorem dX6_sends_142 : decode cX6_sends 142 = .ok (.istore_n 3, 1) := by decide +kernel
theorem dX6_sends_143 : decode cX6_sends 143 = .ok (.iload_n 3, 1) := by decide +kernel
theorem dX6_sends_144 : decode cX6_sends 144 = .ok (.bipush 48, 2) := by decide +kernel
theorem dX6_sends_146 : decode cX6_sends 146 = .ok (.if_icmp .ge 104, 3) := by decide +kernel
theorem dX6_sends_149 : decode cX6_sends 149 = .ok (.iload_n 3, 1) := by decide +kernel
theorem dX6_sends_150 : decode cX6_sends 150 = .ok (.bipush 8, 2) := by decide +kernel
theorem dX6_sends_152 : decode cX6_sends 152 = .ok (.idiv, 1) := by decide +kernel
theorem dX6_sends_153 : decode cX6_sends 153 = .ok (.istore 4, 2) := by decide +kernel
theorem dX6_sends_155 : decode cX6_sends 155 = .ok (.iload_n 1, 1) := by decide +kernel
theorem dX6_sends_156 : decode cX6_sends 156 = .ok (.iload 4, 2) := by decide +kernel
theorem dX6_sends_158 : decode cX6_sends 158 = .ok (.invokestatic 43, 3) := by decide +kernel
theorem dX6_sends_161 : decode cX6_sends 161 = .ok (.istore 5, 2) := by decide +kernel
theorem dX6_sends_163 : decode cX6_sends 163 = .ok (.aload_n 0, 1) := by decide +kernel
theorem dX6_sends_164 : decode cX6_sends 164 = .ok (.getfield 7, 3) := by decide +kernel
theorem dX6_sends_167 : decode cX6_sends 167 = .ok (.iload_n 2, 1) := by decide +kernel
theorem dX6_sends_168 : decode cX6_sends 168 = .ok (.iconst 3, 1) := by decide +kernel
theorem dX6_sends_169 : decode cX6_sends 169 = .ok (.iload_n 3, 1) := by decide +kernel
theorem dX6_sends_170 : decode cX6_sends 170 = .ok (.iadd, 1) := by decide +kernel
theorem dX6_sends_171 : decode cX6_sends 171 = .ok (.invokestatic 84, 3) := by decide +kernel
theorem dX6_sends_174 : decode cX6_sends 174 = .ok (.iload 5, 2) := by decide +kernel
theorem dX6_sends_176 : decode cX6_sends 176 = .ok (.ifCond .eq 23, 3) := by decide +kernel
theorem dX6_sends_179 : decode cX6_sends 179 = .ok (.aload_n 0, 1) := by decide +kernel
theorem dX6_sends_180 : decode cX6_sends 180 = .ok (.getfield 7, 3) := by decide +kernel
theorem dX6_sends_183 : decode cX6_sends 183 = .ok (.iload 4, 2) := by decide +kernel
theorem dX6_sends_185 : decode cX6_sends 185 = .ok (.bipush 14, 2) := by decide +kernel
theorem dX6_sends_187 : decode cX6_sends 187 = .ok (.iload_n 3, 1) := by decide +kernel
theorem dX6_sends_188 : decode cX6_sends 188 = .ok (.bipush 8, 2) := by decide +kernel
theorem dX6_sends_190 : decode cX6_sends 190 = .ok (.irem, 1) := by decide +kernel
theorem dX6_sends_191 : decode cX6_sends 191 = .ok (.iadd, 1) := by decide +kernel
theorem dX6_sends_192 : decode cX6_sends 192 = .ok (.invokestatic 47, 3) := by decide +kernel
theorem dX6_sends_195 : decode cX6_sends 195 = .ok (.iaload, 1) := by decide +kernel
theorem dX6_sends_196 : decode cX6_sends 196 = .ok (.goto 4, 3) := by decide +kernel
theorem dX6_sends_199 : decode cX6_sends 199 = .ok (.iconst 0, 1) := by decide +kernel
theorem dX6_sends_200 : decode cX6_sends 200 = .ok (.iastore, 1) := by decide +kernel
theorem dX6_sends_201 : decode cX6_sends 201 = .ok (.aload_n 0, 1) := by decide +kernel
theorem dX6_sends_202 : decode cX6_sends 202 = .ok (.getfield 7, 3) := by decide +kernel
theorem dX6_sends_205 : decode cX6_sends 205 = .ok (.iload 4, 2) := by decide +kernel
theorem dX6_sends_207 : decode cX6_sends 207 = .ok (.bipush 14, 2) := by decide +kernel
theorem dX6_sends_209 : decode cX6_sends 209 = .ok (.iload_n 3, 1) := by decide +kernel
theorem dX6_sends_210 : decode cX6_sends 210 = .ok (.bipush 8, 2) := by decide +kernel
theorem dX6_sends_212 : decode cX6_sends 212 = .ok (.irem, 1) := by decide +kernel
theorem dX6_sends_213 : decode cX6_sends 213 = .ok (.iadd, 1) := by decide +kernel
theorem dX6_sends_214 : decode cX6_sends 214 = .ok (.invokestatic 47, 3) := by decide +kernel
theorem dX6_sends_217 : decode cX6_sends 217 = .ok (.iload 5, 2) := by decide +kernel
theorem dX6_sends_219 : decode cX6_sends 219 = .ok (.ifCond .eq 7, 3) := by decide +kernel
theorem dX6_sends_222 : decode cX6_sends 222 = .ok (.iconst 0, 1) := by decide +kernel
theorem dX6_sends_223 : decode cX6_sends 223 = .ok (.goto 20, 3) := by decide +kernel
theorem dX6_sends_226 : decode cX6_sends 226 = .ok (.aload_n 0, 1) := by decide +kernel
theorem dX6_sends_227 : decode cX6_sends 227 = .ok (.getfield 7, 3) := by decide +kernel
theorem dX6_sends_230 : decode cX6_sends 230 = .ok (.iload 4, 2) := by decide +kernel
theorem dX6_sends_232 : decode cX6_sends 232 = .ok (.bipush 14, 2) := by decide +kernel
theorem dX6_sends_234 : decode cX6_sends 234 = .ok (.iload_n 3, 1) := by decide +kernel
theorem dX6_sends_235 : decode cX6_sends 235 = .ok (.bipush 8, 2) := by decide +kernel
theorem dX6_sends_237 : decode cX6_sends 237 = .ok (.irem, 1) := by decide +kernel
theorem dX6_sends_238 : decode cX6_sends 238 = .ok (.iadd, 1) := by decide +kernel
theorem dX6_sends_239 : decode cX6_sends 239 = .ok (.invokestatic 47, 3) := by decide +kernel
theorem dX6_sends_242 : decode cX6_sends 242 = .ok (.iaload, 1) := by decide +kernel
theorem dX6_sends_243 : decode cX6_sends 243 = .ok (.iastore, 1) := by decide +kernel
theorem dX6_sends_244 : decode cX6_sends 244 = .ok (.iinc 3 1, 3) := by decide +kernel
theorem dX6_sends_247 : decode cX6_sends 247 = .ok (.goto (-104), 3) := by decide +kernel
theorem dX6_sends_250 : decode cX6_sends 250 = .ok (.aload_n 0, 1) := by decide +kernel
theorem dX6_sends_251 : decode cX6_sends 251 = .ok (.getfield 7, 3) := by decide +kernel
theorem dX6_sends_254 : decode cX6_sends 254 = .ok (.bipush 14, 2) := by decide +kernel
theorem dX6_sends_256 : decode cX6_sends 256 = .ok (.dup2, 1) := by decide +kernel
theorem dX6_sends_257 : decode cX6_sends 257 = .ok (.iaload, 1) := by decide +kernel
theorem dX6_sends_258 : decode cX6_sends 258 = .ok (.iconst 1, 1) := by decide +kernel
theorem dX6_sends_259 : decode cX6_sends 259 = .ok (.iadd, 1) := by decide +kernel
theorem dX6_sends_260 : decode cX6_sends 260 = .ok (.iastore, 1) := by decide +kernel
theorem dX6_sends_261 : decode cX6_sends 261 = .ok (.return_, 1) := by decide +kernel
theorem dX6_send_0 : decode cX6_send 0 = .ok (.iload_n 1, 1) := by decide +kernel
theorem dX6_send_1 : decode cX6_send 1 = .ok (.iconst 1, 1) := by decide +kernel
theorem dX6_send_2 : decode cX6_send 2 = .ok (.bipush 63, 2) := by decide +kernel
theorem dX6_send_4 : decode cX6_send 4 = .ok (.invokestatic 35, 3) := by decide +kernel
theorem dX6_send_7 : decode cX6_send 7 = .ok (.ifCond .ne 6, 3) := by decide +kernel
theorem dX6_send_10 : decode cX6_send 10 = .ok (.ldc 125, 2) := by decide +kernel
theorem dX6_send_12 : decode cX6_send 12 = .ok (.ireturn, 1) := by decide +kernel
theorem dX6_send_13 : decode cX6_send 13 = .ok (.aload_n 0, 1) := by decide +kernel
theorem dX6_send_14 : decode cX6_send 14 = .ok (.iload_n 1, 1) := by decide +kernel
theorem dX6_send_15 : decode cX6_send 15 = .ok (.invokevirtual 140, 3) := by decide +kernel
theorem dX6_send_18 : decode cX6_send 18 = .ok (.istore_n 2, 1) := by decide +kernel
theorem dX6_send_19 : decode cX6_send 19 = .ok (.aload_n 0, 1) := by decide +kernel
theorem dX6_send_20 : decode cX6_send 20 = .ok (.iload_n 1, 1) := by decide +kernel
theorem dX6_send_21 : decode cX6_send 21 = .ok (.invokevirtual 61, 3) := by decide +kernel
theorem dX6_send_24 : decode cX6_send 24 = .ok (.ifCond .eq 11, 3) := by decide +kernel
theorem dX6_send_27 : decode cX6_send 27 = .ok (.iload_n 2, 1) := by decide +kernel
theorem dX6_send_28 : decode cX6_send 28 = .ok (.aload_n 0, 1) := by decide +kernel
theorem dX6_send_29 : decode cX6_send 29 = .ok (.invokevirtual 149, 3) := by decide +kernel
theorem dX6_send_32 : decode cX6_send 32 = .ok (.if_icmp .le 6, 3) := by decide +kernel
theorem dX6_send_35 : decode cX6_send 35 = .ok (.ldc 133, 2) := by decide +kernel
theorem dX6_send_37 : decode cX6_send 37 = .ok (.ireturn, 1) := by decide +kernel
theorem dX6_send_38 : decode cX6_send 38 = .ok (.aload_n 0, 1) := by decide +kernel
theorem dX6_send_39 : decode cX6_send 39 = .ok (.getfield 7, 3) := by decide +kernel
theorem dX6_send_42 : decode cX6_send 42 = .ok (.bipush 14, 2) := by decide +kernel
theorem dX6_send_44 : decode cX6_send 44 = .ok (.iaload, 1) := by decide +kernel
theorem dX6_send_45 : decode cX6_send 45 = .ok (.iconst 5, 1) := by decide +kernel
theorem dX6_send_46 : decode cX6_send 46 = .ok (.if_icmp .ne 6, 3) := by decide +kernel
theorem dX6_send_49 : decode cX6_send 49 = .ok (.ldc 153, 2) := by decide +kernel
theorem dX6_send_51 : decode cX6_send 51 = .ok (.ireturn, 1) := by decide +kernel
theorem dX6_send_52 : decode cX6_send 52 = .ok (.aload_n 0, 1) := by decide +kernel
theorem dX6_send_53 : decode cX6_send 53 = .ok (.invokevirtual 113, 3) := by decide +kernel
theorem dX6_send_56 : decode cX6_send 56 = .ok (.aload_n 0, 1) := by decide +kernel
theorem dX6_send_57 : decode cX6_send 57 = .ok (.iload_n 1, 1) := by decide +kernel
theorem dX6_send_58 : decode cX6_send 58 = .ok (.invokevirtual 154, 3) := by decide +kernel
theorem dX6_send_61 : decode cX6_send 61 = .ok (.iload_n 2, 1) := by decide +kernel
theorem dX6_send_62 : decode cX6_send 62 = .ok (.ireturn, 1) := by decide +kernel
theorem dX6_pass_0 : decode cX6_pass 0 = .ok (.iload_n 1, 1) := by decide +kernel
theorem dX6_pass_1 : decode cX6_pass 1 = .ok (.iconst 1, 1) := by decide +kernel
theorem dX6_pass_2 : decode cX6_pass 2 = .ok (.bipush 60, 2) := by decide +kernel
theorem dX6_pass_4 : decode cX6_pass 4 = .ok (.invokestatic 35, 3) := by decide +kernel
theorem dX6_pass_7 : decode cX6_pass 7 = .ok (.ifCond .ne 6, 3) := by decide +kernel
theorem dX6_pass_10 : decode cX6_pass 10 = .ok (.ldc 125, 2) := by decide +kernel
theorem dX6_pass_12 : decode cX6_pass 12 = .ok (.ireturn, 1) := by decide +kernel
theorem dX6_pass_13 : decode cX6_pass 13 = .ok (.aload_n 0, 1) := by decide +kernel
theorem dX6_pass_14 : decode cX6_pass 14 = .ok (.getfield 7, 3) := by decide +kernel
theorem dX6_pass_17 : decode cX6_pass 17 = .ok (.bipush 9, 2) := by decide +kernel
theorem dX6_pass_19 : decode cX6_pass 19 = .ok (.iaload, 1) := by decide +kernel
theorem dX6_pass_20 : decode cX6_pass 20 = .ok (.iload_n 1, 1) := by decide +kernel
theorem dX6_pass_21 : decode cX6_pass 21 = .ok (.iadd, 1) := by decide +kernel
theorem dX6_pass_22 : decode cX6_pass 22 = .ok (.sipush 9999, 3) := by decide +kernel
theorem dX6_pass_25 : decode cX6_pass 25 = .ok (.if_icmp .le 6, 3) := by decide +kernel
theorem dX6_pass_28 : decode cX6_pass 28 = .ok (.ldc 153, 2) := by decide +kernel
theorem dX6_pass_30 : decode cX6_pass 30 = .ok (.ireturn, 1) := by decide +kernel
theorem dX6_pass_31 : decode cX6_pass 31 = .ok (.aload_n 0, 1) := by decide +kernel
theorem dX6_pass_32 : decode cX6_pass 32 = .ok (.invokevirtual 113, 3) := by decide +kernel
theorem dX6_pass_35 : decode cX6_pass 35 = .ok (.iconst 0, 1) := by decide +kernel
theorem dX6_pass_36 : decode cX6_pass 36 = .ok (.istore_n 2, 1) := by decide +kernel
theorem dX6_pass_37 : decode cX6_pass 37 = .ok (.iconst 0, 1) := by decide +kernel
theorem dX6_pass_38 : decode cX6_pass 38 = .ok (.istore_n 3, 1) := by decide +kernel
theorem dX6_pass_39 : decode cX6_pass 39 = .ok (.iload_n 3, 1) := by decide +kernel
theorem dX6_pass_40 : decode cX6_pass 40 = .ok (.iload_n 1, 1) := by decide +kernel
theorem dX6_pass_41 : decode cX6_pass 41 = .ok (.if_icmp .ge 16, 3) := by decide +kernel
theorem dX6_pass_44 : decode cX6_pass 44 = .ok (.iload_n 2, 1) := by decide +kernel
theorem dX6_pass_45 : decode cX6_pass 45 = .ok (.aload_n 0, 1) := by decide +kernel
theorem dX6_pass_46 : decode cX6_pass 46 = .ok (.invokevirtual 157, 3) := by decide +kernel
theorem dX6_pass_49 : decode cX6_pass 49 = .ok (.iadd, 1) := by decide +kernel
theorem dX6_pass_50 : decode cX6_pass 50 = .ok (.istore_n 2, 1) := by decide +kernel
theorem dX6_pass_51 : decode cX6_pass 51 = .ok (.iinc 3 1, 3) := by decide +kernel
theorem dX6_pass_54 : decode cX6_pass 54 = .ok (.goto (-15), 3) := by decide +kernel
theorem dX6_pass_57 : decode cX6_pass 57 = .ok (.iload_n 2, 1) := by decide +kernel
theorem dX6_pass_58 : decode cX6_pass 58 = .ok (.ireturn, 1) := by decide +kernel
theorem dX6_shuffle_0 : decode cX6_shuffle 0 = .ok (.iload_n 1, 1) := by decide +kernel
theorem dX6_shuffle_1 : decode cX6_shuffle 1 = .ok (.ifCond .lt 13, 3) := by decide +kernel
theorem dX6_shuffle_4 : decode cX6_shuffle 4 = .ok (.aload_n 0, 1) := by decide +kernel
theorem dX6_shuffle_5 : decode cX6_shuffle 5 = .ok (.bipush 10, 2) := by decide +kernel
theorem dX6_shuffle_7 : decode cX6_shuffle 7 = .ok (.iload_n 1, 1) := by decide +kernel
theorem dX6_shuffle_8 : decode cX6_shuffle 8 = .ok (.invokevirtual 122, 3) := by decide +kernel
theorem dX6_shuffle_11 : decode cX6_shuffle 11 = .ok (.goto 5, 3) := by decide +kernel
theorem dX6_shuffle_14 : decode cX6_shuffle 14 = .ok (.ldc 125, 2) := by decide +kernel
theorem dX6_shuffle_16 : decode cX6_shuffle 16 = .ok (.ireturn, 1) := by decide +kernel
theorem dX6_sum_0 : decode cX6_sum 0 = .ok (.iconst 0, 1) := by decide +kernel
theorem dX6_sum_1 : decode cX6_sum 1 = .ok (.istore_n 3, 1) := by decide +kernel
theorem dX6_sum_2 : decode cX6_sum 2 = .ok (.iconst 0, 1) := by decide +kernel
theorem dX6_sum_3 : decode cX6_sum 3 = .ok (.istore 4, 2) := by decide +kernel
theorem dX6_sum_5 : decode cX6_sum 5 = .ok (.iload 4, 2) := by decide +kernel
theorem dX6_sum_7 : decode cX6_sum 7 = .ok (.bipush 8, 2) := by decide +kernel
theorem dX6_sum_9 : decode cX6_sum 9 = .ok (.if_icmp .ge 25, 3) := by decide +kernel
theorem dX6_sum_12 : decode cX6_sum 12 = .ok (.iload_n 3, 1) := by decide +kernel
theorem dX6_sum_13 : decode cX6_sum 13 = .ok (.aload_n 0, 1) := by decide +kernel
theorem dX6_sum_14 : decode cX6_sum 14 = .ok (.getfield 7, 3) := by decide +kernel
theorem dX6_sum_17 : decode cX6_sum 17 = .ok (.iload_n 1, 1) := by decide +kernel
theorem dX6_sum_18 : decode cX6_sum 18 = .ok (.iload_n 2, 1) := by decide +kernel
theorem dX6_sum_19 : decode cX6_sum 19 = .ok (.iload 4, 2) := by decide +kernel
theorem dX6_sum_21 : decode cX6_sum 21 = .ok (.iadd, 1) := by decide +kernel
theorem dX6_sum_22 : decode cX6_sum 22 = .ok (.invokestatic 47, 3) := by decide +kernel
theorem dX6_sum_25 : decode cX6_sum 25 = .ok (.iaload, 1) := by decide +kernel
theorem dX6_sum_26 : decode cX6_sum 26 = .ok (.iadd, 1) := by decide +kernel
theorem dX6_sum_27 : decode cX6_sum 27 = .ok (.istore_n 3, 1) := by decide +kernel
theorem dX6_sum_28 : decode cX6_sum 28 = .ok (.iinc 4 1, 3) := by decide +kernel
theorem dX6_sum_31 : decode cX6_sum 31 = .ok (.goto (-26), 3) := by decide +kernel
theorem dX6_sum_34 : decode cX6_sum 34 = .ok (.iload_n 3, 1) := by decide +kernel
theorem dX6_sum_35 : decode cX6_sum 35 = .ok (.ireturn, 1) := by decide +kernel
theorem dX6_onTheWay_0 : decode cX6_onTheWay 0 = .ok (.iconst 0, 1) := by decide +kernel
theorem dX6_onTheWay_1 : decode cX6_onTheWay 1 = .ok (.istore_n 2, 1) := by decide +kernel
theorem dX6_onTheWay_2 : decode cX6_onTheWay 2 = .ok (.iconst 0, 1) := by decide +kernel
theorem dX6_onTheWay_3 : decode cX6_onTheWay 3 = .ok (.istore_n 3, 1) := by decide +kernel
theorem dX6_onTheWay_4 : decode cX6_onTheWay 4 = .ok (.iload_n 3, 1) := by decide +kernel
theorem dX6_onTheWay_5 : decode cX6_onTheWay 5 = .ok (.aload_n 0, 1) := by decide +kernel
theorem dX6_onTheWay_6 : decode cX6_onTheWay 6 = .ok (.getfield 7, 3) := by decide +kernel
theorem dX6_onTheWay_9 : decode cX6_onTheWay 9 = .ok (.bipush 14, 2) := by decide +kernel
theorem dX6_onTheWay_11 : decode cX6_onTheWay 11 = .ok (.iaload, 1) := by decide +kernel
theorem dX6_onTheWay_12 : decode cX6_onTheWay 12 = .ok (.bipush 8, 2) := by decide +kernel
theorem dX6_onTheWay_14 : decode cX6_onTheWay 14 = .ok (.imul, 1) := by decide +kernel
theorem dX6_onTheWay_15 : decode cX6_onTheWay 15 = .ok (.if_icmp .ge 29, 3) := by decide +kernel
theorem dX6_onTheWay_18 : decode cX6_onTheWay 18 = .ok (.iload_n 2, 1) := by decide +kernel
theorem dX6_onTheWay_19 : decode cX6_onTheWay 19 = .ok (.aload_n 0, 1) := by decide +kernel
theorem dX6_onTheWay_20 : decode cX6_onTheWay 20 = .ok (.getfield 7, 3) := by decide +kernel
theorem dX6_onTheWay_23 : decode cX6_onTheWay 23 = .ok (.iload_n 3, 1) := by decide +kernel
theorem dX6_onTheWay_24 : decode cX6_onTheWay 24 = .ok (.bipush 8, 2) := by decide +kernel
theorem dX6_onTheWay_26 : decode cX6_onTheWay 26 = .ok (.idiv, 1) := by decide +kernel
theorem dX6_onTheWay_27 : decode cX6_onTheWay 27 = .ok (.iload_n 1, 1) := by decide +kernel
theorem dX6_onTheWay_28 : decode cX6_onTheWay 28 = .ok (.iload_n 3, 1) := by decide +kernel
theorem dX6_onTheWay_29 : decode cX6_onTheWay 29 = .ok (.bipush 8, 2) := by decide +kernel
theorem dX6_onTheWay_31 : decode cX6_onTheWay 31 = .ok (.irem, 1) := by decide +kernel
theorem dX6_onTheWay_32 : decode cX6_onTheWay 32 = .ok (.invokestatic 87, 3) := by decide +kernel
theorem dX6_onTheWay_35 : decode cX6_onTheWay 35 = .ok (.iaload, 1) := by decide +kernel
theorem dX6_onTheWay_36 : decode cX6_onTheWay 36 = .ok (.iadd, 1) := by decide +kernel
theorem dX6_onTheWay_37 : decode cX6_onTheWay 37 = .ok (.istore_n 2, 1) := by decide +kernel
theorem dX6_onTheWay_38 : decode cX6_onTheWay 38 = .ok (.iinc 3 1, 3) := by decide +kernel
theorem dX6_onTheWay_41 : decode cX6_onTheWay 41 = .ok (.goto (-37), 3) := by decide +kernel
theorem dX6_onTheWay_44 : decode cX6_onTheWay 44 = .ok (.iload_n 2, 1) := by decide +kernel
theorem dX6_onTheWay_45 : decode cX6_onTheWay 45 = .ok (.ireturn, 1) := by decide +kernel
theorem dX6_member_0 : decode cX6_member 0 = .ok (.iload_n 1, 1) := by decide +kernel
theorem dX6_member_1 : decode cX6_member 1 = .ok (.invokestatic 126, 3) := by decide +kernel
theorem dX6_member_4 : decode cX6_member 4 = .ok (.ifCond .ne 6, 3) := by decide +kernel
theorem dX6_member_7 : decode cX6_member 7 = .ok (.ldc 132, 2) := by decide +kernel
theorem dX6_member_9 : decode cX6_member 9 = .ok (.ireturn, 1) := by decide +kernel
theorem dX6_member_10 : decode cX6_member 10 = .ok (.iload_n 2, 1) := by decide +kernel
theorem dX6_member_11 : decode cX6_member 11 = .ok (.tableswitch 97 0 8 #[49, 49, 60, 68, 76, 82, 82, 82, 82], 49) := by decide +kernel
theorem dX6_member_60 : decode cX6_member 60 = .ok (.aload_n 0, 1) := by decide +kernel
theorem dX6_member_61 : decode cX6_member 61 = .ok (.getfield 7, 3) := by decide +kernel
theorem dX6_member_64 : decode cX6_member 64 = .ok (.iload_n 1, 1) := by decide +kernel
theorem dX6_member_65 : decode cX6_member 65 = .ok (.iload_n 2, 1) := by decide +kernel
theorem dX6_member_66 : decode cX6_member 66 = .ok (.invokestatic 47, 3) := by decide +kernel
theorem dX6_member_69 : decode cX6_member 69 = .ok (.iaload, 1) := by decide +kernel
theorem dX6_member_70 : decode cX6_member 70 = .ok (.ireturn, 1) := by decide +kernel
theorem dX6_member_71 : decode cX6_member 71 = .ok (.aload_n 0, 1) := by decide +kernel
theorem dX6_member_72 : decode cX6_member 72 = .ok (.iload_n 1, 1) := by decide +kernel
theorem dX6_member_73 : decode cX6_member 73 = .ok (.bipush 6, 2) := by decide +kernel
theorem dX6_member_75 : decode cX6_member 75 = .ok (.invokevirtual 160, 3) := by decide +kernel
theorem dX6_member_78 : decode cX6_member 78 = .ok (.ireturn, 1) := by decide +kernel
theorem dX6_member_79 : decode cX6_member 79 = .ok (.aload_n 0, 1) := by decide +kernel
theorem dX6_member_80 : decode cX6_member 80 = .ok (.iload_n 1, 1) := by decide +kernel
theorem dX6_member_81 : decode cX6_member 81 = .ok (.bipush 14, 2) := by decide +kernel
theorem dX6_member_83 : decode cX6_member 83 = .ok (.invokevirtual 160, 3) := by decide +kernel
theorem dX6_member_86 : decode cX6_member 86 = .ok (.ireturn, 1) := by decide +kernel
theorem dX6_member_87 : decode cX6_member 87 = .ok (.aload_n 0, 1) := by decide +kernel
theorem dX6_member_88 : decode cX6_member 88 = .ok (.iload_n 1, 1) := by decide +kernel
theorem dX6_member_89 : decode cX6_member 89 = .ok (.invokevirtual 163, 3) := by decide +kernel
theorem dX6_member_92 : decode cX6_member 92 = .ok (.ireturn, 1) := by decide +kernel
theorem dX6_member_93 : decode cX6_member 93 = .ok (.aload_n 0, 1) := by decide +kernel
theorem dX6_member_94 : decode cX6_member 94 = .ok (.getfield 7, 3) := by decide +kernel
theorem dX6_member_97 : decode cX6_member 97 = .ok (.iload_n 1, 1) := by decide +kernel
theorem dX6_member_98 : decode cX6_member 98 = .ok (.iconst 2, 1) := by decide +kernel
theorem dX6_member_99 : decode cX6_member 99 = .ok (.iload_n 2, 1) := by decide +kernel
theorem dX6_member_100 : decode cX6_member 100 = .ok (.iadd, 1) := by decide +kernel
theorem dX6_member_101 : decode cX6_member 101 = .ok (.iconst 5, 1) := by decide +kernel
theorem dX6_member_102 : decode cX6_member 102 = .ok (.isub, 1) := by decide +kernel
theorem dX6_member_103 : decode cX6_member 103 = .ok (.invokestatic 47, 3) := by decide +kernel
theorem dX6_member_106 : decode cX6_member 106 = .ok (.iaload, 1) := by decide +kernel
theorem dX6_member_107 : decode cX6_member 107 = .ok (.ireturn, 1) := by decide +kernel
theorem dX6_member_108 : decode cX6_member 108 = .ok (.ldc 125, 2) := by decide +kernel
theorem dX6_member_110 : decode cX6_member 110 = .ok (.ireturn, 1) := by decide +kernel
theorem dX6_strings_0 : decode cX6_strings 0 = .ok (.iload_n 1, 1) := by decide +kernel
theorem dX6_strings_1 : decode cX6_strings 1 = .ok (.invokestatic 126, 3) := by decide +kernel
theorem dX6_strings_4 : decode cX6_strings 4 = .ok (.ifCond .eq 35, 3) := by decide +kernel
theorem dX6_strings_7 : decode cX6_strings 7 = .ok (.iload_n 2, 1) := by decide +kernel
theorem dX6_strings_8 : decode cX6_strings 8 = .ok (.invokestatic 129, 3) := by decide +kernel
theorem dX6_strings_11 : decode cX6_strings 11 = .ok (.ifCond .eq 28, 3) := by decide +kernel
theorem dX6_strings_14 : decode cX6_strings 14 = .ok (.aload_n 0, 1) := by decide +kernel
theorem dX6_strings_15 : decode cX6_strings 15 = .ok (.getfield 7, 3) := by decide +kernel
theorem dX6_strings_18 : decode cX6_strings 18 = .ok (.iload_n 1, 1) := by decide +kernel
theorem dX6_strings_19 : decode cX6_strings 19 = .ok (.iload_n 3, 1) := by decide +kernel
theorem dX6_strings_20 : decode cX6_strings 20 = .ok (.ifCond .eq 8, 3) := by decide +kernel
theorem dX6_strings_23 : decode cX6_strings 23 = .ok (.bipush 14, 2) := by decide +kernel
theorem dX6_strings_25 : decode cX6_strings 25 = .ok (.goto 5, 3) := by decide +kernel
theorem dX6_strings_28 : decode cX6_strings 28 = .ok (.bipush 6, 2) := by decide +kernel
theorem dX6_strings_30 : decode cX6_strings 30 = .ok (.iload_n 2, 1) := by decide +kernel
theorem dX6_strings_31 : decode cX6_strings 31 = .ok (.iadd, 1) := by decide +kernel
theorem dX6_strings_32 : decode cX6_strings 32 = .ok (.invokestatic 47, 3) := by decide +kernel
theorem dX6_strings_35 : decode cX6_strings 35 = .ok (.iaload, 1) := by decide +kernel
theorem dX6_strings_36 : decode cX6_strings 36 = .ok (.goto 5, 3) := by decide +kernel
theorem dX6_strings_39 : decode cX6_strings 39 = .ok (.ldc 132, 2) := by decide +kernel
theorem dX6_strings_41 : decode cX6_strings 41 = .ok (.ireturn, 1) := by decide +kernel
theorem dX6_membersOf_0 : decode cX6_membersOf 0 = .ok (.iconst 0, 1) := by decide +kernel
theorem dX6_membersOf_1 : decode cX6_membersOf 1 = .ok (.istore_n 2, 1) := by decide +kernel
theorem dX6_membersOf_2 : decode cX6_membersOf 2 = .ok (.iconst 0, 1) := by decide +kernel
theorem dX6_membersOf_3 : decode cX6_membersOf 3 = .ok (.istore_n 3, 1) := by decide +kernel
theorem dX6_membersOf_4 : decode cX6_membersOf 4 = .ok (.iload_n 3, 1) := by decide +kernel
theorem dX6_membersOf_5 : decode cX6_membersOf 5 = .ok (.bipush 48, 2) := by decide +kernel
theorem dX6_membersOf_7 : decode cX6_membersOf 7 = .ok (.if_icmp .ge 37, 3) := by decide +kernel
theorem dX6_membersOf_10 : decode cX6_membersOf 10 = .ok (.iload_n 2, 1) := by decide +kernel
theorem dX6_membersOf_11 : decode cX6_membersOf 11 = .ok (.aload_n 0, 1) := by decide +kernel
theorem dX6_membersOf_12 : decode cX6_membersOf 12 = .ok (.getfield 7, 3) := by decide +kernel
theorem dX6_membersOf_15 : decode cX6_membersOf 15 = .ok (.iload_n 1, 1) := by decide +kernel
theorem dX6_membersOf_16 : decode cX6_membersOf 16 = .ok (.iconst 3, 1) := by decide +kernel
theorem dX6_membersOf_17 : decode cX6_membersOf 17 = .ok (.iload_n 3, 1) := by decide +kernel
theorem dX6_membersOf_18 : decode cX6_membersOf 18 = .ok (.iadd, 1) := by decide +kernel
theorem dX6_membersOf_19 : decode cX6_membersOf 19 = .ok (.invokestatic 84, 3) := by decide +kernel
theorem dX6_membersOf_22 : decode cX6_membersOf 22 = .ok (.iaload, 1) := by decide +kernel
theorem dX6_membersOf_23 : decode cX6_membersOf 23 = .ok (.ifCond .le 12, 3) := by decide +kernel
theorem dX6_membersOf_26 : decode cX6_membersOf 26 = .ok (.iconst 1, 1) := by decide +kernel
theorem dX6_membersOf_27 : decode cX6_membersOf 27 = .ok (.iload_n 3, 1) := by decide +kernel
theorem dX6_membersOf_28 : decode cX6_membersOf 28 = .ok (.bipush 8, 2) := by decide +kernel
theorem dX6_membersOf_30 : decode cX6_membersOf 30 = .ok (.idiv, 1) := by decide +kernel
theorem dX6_membersOf_31 : decode cX6_membersOf 31 = .ok (.ishl, 1) := by decide +kernel
theorem dX6_membersOf_32 : decode cX6_membersOf 32 = .ok (.goto 4, 3) := by decide +kernel
theorem dX6_membersOf_35 : decode cX6_membersOf 35 = .ok (.iconst 0, 1) := by decide +kernel
theorem dX6_membersOf_36 : decode cX6_membersOf 36 = .ok (.ior, 1) := by decide +kernel
theorem dX6_membersOf_37 : decode cX6_membersOf 37 = .ok (.istore_n 2, 1) := by decide +kernel
theorem dX6_membersOf_38 : decode cX6_membersOf 38 = .ok (.iinc 3 1, 3) := by decide +kernel
theorem dX6_membersOf_41 : decode cX6_membersOf 41 = .ok (.goto (-37), 3) := by decide +kernel
theorem dX6_membersOf_44 : decode cX6_membersOf 44 = .ok (.iload_n 2, 1) := by decide +kernel
theorem dX6_membersOf_45 : decode cX6_membersOf 45 = .ok (.ireturn, 1) := by decide +kernel
theorem dX6_parcel_0 : decode cX6_parcel 0 = .ok (.iload_n 1, 1) := by decide +kernel
theorem dX6_parcel_1 : decode cX6_parcel 1 = .ok (.iconst 0, 1) := by decide +kernel
theorem dX6_parcel_2 : decode cX6_parcel 2 = .ok (.aload_n 0, 1) := by decide +kernel
theorem dX6_parcel_3 : decode cX6_parcel 3 = .ok (.getfield 7, 3) := by decide +kernel
theorem dX6_parcel_6 : decode cX6_parcel 6 = .ok (.bipush 14, 2) := by decide +kernel
theorem dX6_parcel_8 : decode cX6_parcel 8 = .ok (.iaload, 1) := by decide +kernel
theorem dX6_parcel_9 : decode cX6_parcel 9 = .ok (.iconst 1, 1) := by decide +kernel
theorem dX6_parcel_10 : decode cX6_parcel 10 = .ok (.isub, 1) := by decide +kernel
theorem dX6_parcel_11 : decode cX6_parcel 11 = .ok (.invokestatic 35, 3) := by decide +kernel
theorem dX6_parcel_14 : decode cX6_parcel 14 = .ok (.ifCond .ne 6, 3) := by decide +kernel
theorem dX6_parcel_17 : decode cX6_parcel 17 = .ok (.ldc 132, 2) := by decide +kernel
theorem dX6_parcel_19 : decode cX6_parcel 19 = .ok (.ireturn, 1) := by decide +kernel
theorem dX6_parcel_20 : decode cX6_parcel 20 = .ok (.iload_n 2, 1) := by decide +kernel
theorem dX6_parcel_21 : decode cX6_parcel 21 = .ok (.tableswitch 88 0 4 #[35, 41, 52, 58, 77], 35) := by decide +kernel
theorem dX6_parcel_56 : decode cX6_parcel 56 = .ok (.aload_n 0, 1) := by decide +kernel
theorem dX6_parcel_57 : decode cX6_parcel 57 = .ok (.iload_n 1, 1) := by decide +kernel
theorem dX6_parcel_58 : decode cX6_parcel 58 = .ok (.invokevirtual 94, 3) := by decide +kernel
theorem dX6_parcel_61 : decode cX6_parcel 61 = .ok (.ireturn, 1) := by decide +kernel
theorem dX6_parcel_62 : decode cX6_parcel 62 = .ok (.aload_n 0, 1) := by decide +kernel
theorem dX6_parcel_63 : decode cX6_parcel 63 = .ok (.getfield 7, 3) := by decide +kernel
theorem dX6_parcel_66 : decode cX6_parcel 66 = .ok (.iload_n 1, 1) := by decide +kernel
theorem dX6_parcel_67 : decode cX6_parcel 67 = .ok (.iconst 0, 1) := by decide +kernel
theorem dX6_parcel_68 : decode cX6_parcel 68 = .ok (.invokestatic 84, 3) := by decide +kernel
theorem dX6_parcel_71 : decode cX6_parcel 71 = .ok (.iaload, 1) := by decide +kernel
theorem dX6_parcel_72 : decode cX6_parcel 72 = .ok (.ireturn, 1) := by decide +kernel
theorem dX6_parcel_73 : decode cX6_parcel 73 = .ok (.aload_n 0, 1) := by decide +kernel
theorem dX6_parcel_74 : decode cX6_parcel 74 = .ok (.iload_n 1, 1) := by decide +kernel
theorem dX6_parcel_75 : decode cX6_parcel 75 = .ok (.invokevirtual 166, 3) := by decide +kernel
theorem dX6_parcel_78 : decode cX6_parcel 78 = .ok (.ireturn, 1) := by decide +kernel
theorem dX6_parcel_79 : decode cX6_parcel 79 = .ok (.aload_n 0, 1) := by decide +kernel
theorem dX6_parcel_80 : decode cX6_parcel 80 = .ok (.getfield 7, 3) := by decide +kernel
theorem dX6_parcel_83 : decode cX6_parcel 83 = .ok (.iload_n 1, 1) := by decide +kernel
theorem dX6_parcel_84 : decode cX6_parcel 84 = .ok (.iconst 1, 1) := by decide +kernel
theorem dX6_parcel_85 : decode cX6_parcel 85 = .ok (.invokestatic 84, 3) := by decide +kernel
theorem dX6_parcel_88 : decode cX6_parcel 88 = .ok (.iaload, 1) := by decide +kernel
theorem dX6_parcel_89 : decode cX6_parcel 89 = .ok (.aload_n 0, 1) := by decide +kernel
theorem dX6_parcel_90 : decode cX6_parcel 90 = .ok (.getfield 7, 3) := by decide +kernel
theorem dX6_parcel_93 : decode cX6_parcel 93 = .ok (.bipush 9, 2) := by decide +kernel
theorem dX6_parcel_95 : decode cX6_parcel 95 = .ok (.iaload, 1) := by decide +kernel
theorem dX6_parcel_96 : decode cX6_parcel 96 = .ok (.isub, 1) := by decide +kernel
theorem dX6_parcel_97 : decode cX6_parcel 97 = .ok (.ireturn, 1) := by decide +kernel
theorem dX6_parcel_98 : decode cX6_parcel 98 = .ok (.aload_n 0, 1) := by decide +kernel
theorem dX6_parcel_99 : decode cX6_parcel 99 = .ok (.getfield 7, 3) := by decide +kernel
theorem dX6_parcel_102 : decode cX6_parcel 102 = .ok (.iload_n 1, 1) := by decide +kernel
theorem dX6_parcel_103 : decode cX6_parcel 103 = .ok (.iconst 2, 1) := by decide +kernel
theorem dX6_parcel_104 : decode cX6_parcel 104 = .ok (.invokestatic 84, 3) := by decide +kernel
theorem dX6_parcel_107 : decode cX6_parcel 107 = .ok (.iaload, 1) := by decide +kernel
theorem dX6_parcel_108 : decode cX6_parcel 108 = .ok (.ireturn, 1) := by decide +kernel
theorem dX6_parcel_109 : decode cX6_parcel 109 = .ok (.ldc 125, 2) := by decide +kernel
theorem dX6_parcel_111 : decode cX6_parcel 111 = .ok (.ireturn, 1) := by decide +kernel
theorem dX6_broken_0 : decode cX6_broken 0 = .ok (.iconst 0, 1) := by decide +kernel
theorem dX6_broken_1 : decode cX6_broken 1 = .ok (.istore_n 1, 1) := by decide +kernel
theorem dX6_broken_2 : decode cX6_broken 2 = .ok (.iconst 0, 1) := by decide +kernel
theorem dX6_broken_3 : decode cX6_broken 3 = .ok (.istore_n 2, 1) := by decide +kernel
theorem dX6_broken_4 : decode cX6_broken 4 = .ok (.iload_n 2, 1) := by decide +kernel
theorem dX6_broken_5 : decode cX6_broken 5 = .ok (.bipush 6, 2) := by decide +kernel
theorem dX6_broken_7 : decode cX6_broken 7 = .ok (.if_icmp .ge 25, 3) := by decide +kernel
theorem dX6_broken_10 : decode cX6_broken 10 = .ok (.iload_n 1, 1) := by decide +kernel
theorem dX6_broken_11 : decode cX6_broken 11 = .ok (.aload_n 0, 1) := by decide +kernel
theorem dX6_broken_12 : decode cX6_broken 12 = .ok (.getfield 7, 3) := by decide +kernel
theorem dX6_broken_15 : decode cX6_broken 15 = .ok (.iload_n 2, 1) := by decide +kernel
theorem dX6_broken_16 : decode cX6_broken 16 = .ok (.iconst 1, 1) := by decide +kernel
theorem dX6_broken_17 : decode cX6_broken 17 = .ok (.invokestatic 47, 3) := by decide +kernel
