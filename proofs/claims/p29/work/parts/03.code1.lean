theorem dX0_init_0 : decode cX0_init 0 = .ok (.aload_n 0, 1) := by decide +kernel
theorem dX0_init_1 : decode cX0_init 1 = .ok (.invokespecial 3, 3) := by decide +kernel
theorem dX0_init_4 : decode cX0_init 4 = .ok (.aload_n 0, 1) := by decide +kernel
theorem dX0_init_5 : decode cX0_init 5 = .ok (.getstatic 9, 3) := by decide +kernel
theorem dX0_init_8 : decode cX0_init 8 = .ok (.invokevirtual 13, 3) := by decide +kernel
theorem dX0_init_11 : decode cX0_init 11 = .ok (.checkcast 14, 3) := by decide +kernel
theorem dX0_init_14 : decode cX0_init 14 = .ok (.putfield 18, 3) := by decide +kernel
theorem dX0_init_17 : decode cX0_init 17 = .ok (.aload_n 0, 1) := by decide +kernel
theorem dX0_init_18 : decode cX0_init 18 = .ok (.iconst 1, 1) := by decide +kernel
theorem dX0_init_19 : decode cX0_init 19 = .ok (.putfield 23, 3) := by decide +kernel
theorem dX0_init_22 : decode cX0_init 22 = .ok (.aload_n 0, 1) := by decide +kernel
theorem dX0_init_23 : decode cX0_init 23 = .ok (.bipush 6, 2) := by decide +kernel
theorem dX0_init_25 : decode cX0_init 25 = .ok (.newarray .int, 2) := by decide +kernel
theorem dX0_init_27 : decode cX0_init 27 = .ok (.putfield 27, 3) := by decide +kernel
theorem dX0_init_30 : decode cX0_init 30 = .ok (.aload_n 0, 1) := by decide +kernel
theorem dX0_init_31 : decode cX0_init 31 = .ok (.bipush 6, 2) := by decide +kernel
theorem dX0_init_33 : decode cX0_init 33 = .ok (.bipush 8, 2) := by decide +kernel
theorem dX0_init_35 : decode cX0_init 35 = .ok (.multianewarray 30 2, 4) := by decide +kernel
theorem dX0_init_39 : decode cX0_init 39 = .ok (.putfield 32, 3) := by decide +kernel
theorem dX0_init_42 : decode cX0_init 42 = .ok (.aload_n 0, 1) := by decide +kernel
theorem dX0_init_43 : decode cX0_init 43 = .ok (.bipush 6, 2) := by decide +kernel
theorem dX0_init_45 : decode cX0_init 45 = .ok (.bipush 8, 2) := by decide +kernel
theorem dX0_init_47 : decode cX0_init 47 = .ok (.multianewarray 30 2, 4) := by decide +kernel
theorem dX0_init_51 : decode cX0_init 51 = .ok (.putfield 35, 3) := by decide +kernel
theorem dX0_init_54 : decode cX0_init 54 = .ok (.aload_n 0, 1) := by decide +kernel
theorem dX0_init_55 : decode cX0_init 55 = .ok (.bipush 6, 2) := by decide +kernel
theorem dX0_init_57 : decode cX0_init 57 = .ok (.newarray .int, 2) := by decide +kernel
theorem dX0_init_59 : decode cX0_init 59 = .ok (.putfield 38, 3) := by decide +kernel
theorem dX0_init_62 : decode cX0_init 62 = .ok (.aload_n 0, 1) := by decide +kernel
theorem dX0_init_63 : decode cX0_init 63 = .ok (.bipush 6, 2) := by decide +kernel
theorem dX0_init_65 : decode cX0_init 65 = .ok (.newarray .int, 2) := by decide +kernel
theorem dX0_init_67 : decode cX0_init 67 = .ok (.putfield 41, 3) := by decide +kernel
theorem dX0_init_70 : decode cX0_init 70 = .ok (.aload_n 0, 1) := by decide +kernel
theorem dX0_init_71 : decode cX0_init 71 = .ok (.bipush 6, 2) := by decide +kernel
theorem dX0_init_73 : decode cX0_init 73 = .ok (.newarray .int, 2) := by decide +kernel
theorem dX0_init_75 : decode cX0_init 75 = .ok (.putfield 44, 3) := by decide +kernel
theorem dX0_init_78 : decode cX0_init 78 = .ok (.aload_n 0, 1) := by decide +kernel
theorem dX0_init_79 : decode cX0_init 79 = .ok (.bipush 6, 2) := by decide +kernel
theorem dX0_init_81 : decode cX0_init 81 = .ok (.newarray .int, 2) := by decide +kernel
theorem dX0_init_83 : decode cX0_init 83 = .ok (.putfield 47, 3) := by decide +kernel
theorem dX0_init_86 : decode cX0_init 86 = .ok (.aload_n 0, 1) := by decide +kernel
theorem dX0_init_87 : decode cX0_init 87 = .ok (.bipush 6, 2) := by decide +kernel
theorem dX0_init_89 : decode cX0_init 89 = .ok (.newarray .int, 2) := by decide +kernel
theorem dX0_init_91 : decode cX0_init 91 = .ok (.putfield 50, 3) := by decide +kernel
theorem dX0_init_94 : decode cX0_init 94 = .ok (.aload_n 0, 1) := by decide +kernel
theorem dX0_init_95 : decode cX0_init 95 = .ok (.iconst 5, 1) := by decide +kernel
theorem dX0_init_96 : decode cX0_init 96 = .ok (.anewarray 53, 3) := by decide +kernel
theorem dX0_init_99 : decode cX0_init 99 = .ok (.putfield 55, 3) := by decide +kernel
theorem dX0_init_102 : decode cX0_init 102 = .ok (.aload_n 0, 1) := by decide +kernel
theorem dX0_init_103 : decode cX0_init 103 = .ok (.new 59, 3) := by decide +kernel
theorem dX0_init_106 : decode cX0_init 106 = .ok (.dup, 1) := by decide +kernel
theorem dX0_init_107 : decode cX0_init 107 = .ok (.invokespecial 61, 3) := by decide +kernel
theorem dX0_init_110 : decode cX0_init 110 = .ok (.putfield 62, 3) := by decide +kernel
theorem dX0_init_113 : decode cX0_init 113 = .ok (.iconst 0, 1) := by decide +kernel
theorem dX0_init_114 : decode cX0_init 114 = .ok (.istore_n 1, 1) := by decide +kernel
theorem dX0_init_115 : decode cX0_init 115 = .ok (.iload_n 1, 1) := by decide +kernel
theorem dX0_init_116 : decode cX0_init 116 = .ok (.iconst 5, 1) := by decide +kernel
theorem dX0_init_117 : decode cX0_init 117 = .ok (.if_icmp .ge 22, 3) := by decide +kernel
theorem dX0_init_120 : decode cX0_init 120 = .ok (.aload_n 0, 1) := by decide +kernel
theorem dX0_init_121 : decode cX0_init 121 = .ok (.getfield 55, 3) := by decide +kernel
theorem dX0_init_124 : decode cX0_init 124 = .ok (.iload_n 1, 1) := by decide +kernel
theorem dX0_init_125 : decode cX0_init 125 = .ok (.new 53, 3) := by decide +kernel
theorem dX0_init_128 : decode cX0_init 128 = .ok (.dup, 1) := by decide +kernel
theorem dX0_init_129 : decode cX0_init 129 = .ok (.invokespecial 66, 3) := by decide +kernel
theorem dX0_init_132 : decode cX0_init 132 = .ok (.aastore, 1) := by decide +kernel
theorem dX0_init_133 : decode cX0_init 133 = .ok (.iinc 1 1, 3) := by decide +kernel
theorem dX0_init_136 : decode cX0_init 136 = .ok (.goto (-21), 3) := by decide +kernel
theorem dX0_init_139 : decode cX0_init 139 = .ok (.return_, 1) := by decide +kernel
theorem dX0_copyFrom_0 : decode cX0_copyFrom 0 = .ok (.aload_n 1, 1) := by decide +kernel
theorem dX0_copyFrom_1 : decode cX0_copyFrom 1 = .ok (.getfield 18, 3) := by decide +kernel
theorem dX0_copyFrom_4 : decode cX0_copyFrom 4 = .ok (.aload_n 0, 1) := by decide +kernel
theorem dX0_copyFrom_5 : decode cX0_copyFrom 5 = .ok (.getfield 18, 3) := by decide +kernel
theorem dX0_copyFrom_8 : decode cX0_copyFrom 8 = .ok (.invokestatic 67, 3) := by decide +kernel
theorem dX0_copyFrom_11 : decode cX0_copyFrom 11 = .ok (.aload_n 0, 1) := by decide +kernel
theorem dX0_copyFrom_12 : decode cX0_copyFrom 12 = .ok (.aload_n 1, 1) := by decide +kernel
theorem dX0_copyFrom_13 : decode cX0_copyFrom 13 = .ok (.getfield 71, 3) := by decide +kernel
theorem dX0_copyFrom_16 : decode cX0_copyFrom 16 = .ok (.putfield 71, 3) := by decide +kernel
theorem dX0_copyFrom_19 : decode cX0_copyFrom 19 = .ok (.aload_n 0, 1) := by decide +kernel
theorem dX0_copyFrom_20 : decode cX0_copyFrom 20 = .ok (.aload_n 1, 1) := by decide +kernel
theorem dX0_copyFrom_21 : decode cX0_copyFrom 21 = .ok (.getfield 23, 3) := by decide +kernel
theorem dX0_copyFrom_24 : decode cX0_copyFrom 24 = .ok (.putfield 23, 3) := by decide +kernel
theorem dX0_copyFrom_27 : decode cX0_copyFrom 27 = .ok (.aload_n 1, 1) := by decide +kernel
theorem dX0_copyFrom_28 : decode cX0_copyFrom 28 = .ok (.getfield 27, 3) := by decide +kernel
theorem dX0_copyFrom_31 : decode cX0_copyFrom 31 = .ok (.aload_n 0, 1) := by decide +kernel
theorem dX0_copyFrom_32 : decode cX0_copyFrom 32 = .ok (.getfield 27, 3) := by decide +kernel
theorem dX0_copyFrom_35 : decode cX0_copyFrom 35 = .ok (.invokestatic 67, 3) := by decide +kernel
theorem dX0_copyFrom_38 : decode cX0_copyFrom 38 = .ok (.aload_n 1, 1) := by decide +kernel
theorem dX0_copyFrom_39 : decode cX0_copyFrom 39 = .ok (.getfield 32, 3) := by decide +kernel
theorem dX0_copyFrom_42 : decode cX0_copyFrom 42 = .ok (.aload_n 0, 1) := by decide +kernel
theorem dX0_copyFrom_43 : decode cX0_copyFrom 43 = .ok (.getfield 32, 3) := by decide +kernel
theorem dX0_copyFrom_46 : decode cX0_copyFrom 46 = .ok (.invokestatic 74, 3) := by decide +kernel
theorem dX0_copyFrom_49 : decode cX0_copyFrom 49 = .ok (.aload_n 1, 1) := by decide +kernel
theorem dX0_copyFrom_50 : decode cX0_copyFrom 50 = .ok (.getfield 35, 3) := by decide +kernel
theorem dX0_copyFrom_53 : decode cX0_copyFrom 53 = .ok (.aload_n 0, 1) := by decide +kernel
theorem dX0_copyFrom_54 : decode cX0_copyFrom 54 = .ok (.getfield 35, 3) := by decide +kernel
theorem dX0_copyFrom_57 : decode cX0_copyFrom 57 = .ok (.invokestatic 74, 3) := by decide +kernel
theorem dX0_copyFrom_60 : decode cX0_copyFrom 60 = .ok (.aload_n 1, 1) := by decide +kernel
theorem dX0_copyFrom_61 : decode cX0_copyFrom 61 = .ok (.getfield 38, 3) := by decide +kernel
theorem dX0_copyFrom_64 : decode cX0_copyFrom 64 = .ok (.aload_n 0, 1) := by decide +kernel
theorem dX0_copyFrom_65 : decode cX0_copyFrom 65 = .ok (.getfield 38, 3) := by decide +kernel
theorem dX0_copyFrom_68 : decode cX0_copyFrom 68 = .ok (.invokestatic 67, 3) := by decide +kernel
theorem dX0_copyFrom_71 : decode cX0_copyFrom 71 = .ok (.aload_n 1, 1) := by decide +kernel
theorem dX0_copyFrom_72 : decode cX0_copyFrom 72 = .ok (.getfield 41, 3) := by decide +kernel
theorem dX0_copyFrom_75 : decode cX0_copyFrom 75 = .ok (.aload_n 0, 1) := by decide +kernel
theorem dX0_copyFrom_76 : decode cX0_copyFrom 76 = .ok (.getfield 41, 3) := by decide +kernel
theorem dX0_copyFrom_79 : decode cX0_copyFrom 79 = .ok (.invokestatic 67, 3) := by decide +kernel
theorem dX0_copyFrom_82 : decode cX0_copyFrom 82 = .ok (.aload_n 1, 1) := by decide +kernel
theorem dX0_copyFrom_83 : decode cX0_copyFrom 83 = .ok (.getfield 44, 3) := by decide +kernel
theorem dX0_copyFrom_86 : decode cX0_copyFrom 86 = .ok (.aload_n 0, 1) := by decide +kernel
theorem dX0_copyFrom_87 : decode cX0_copyFrom 87 = .ok (.getfield 44, 3) := by decide +kernel
theorem dX0_copyFrom_90 : decode cX0_copyFrom 90 = .ok (.invokestatic 67, 3) := by decide +kernel
theorem dX0_copyFrom_93 : decode cX0_copyFrom 93 = .ok (.aload_n 1, 1) := by decide +kernel
theorem dX0_copyFrom_94 : decode cX0_copyFrom 94 = .ok (.getfield 47, 3) := by decide +kernel
theorem dX0_copyFrom_97 : decode cX0_copyFrom 97 = .ok (.aload_n 0, 1) := by decide +kernel
theorem dX0_copyFrom_98 : decode cX0_copyFrom 98 = .ok (.getfield 47, 3) := by decide +kernel
theorem dX0_copyFrom_101 : decode cX0_copyFrom 101 = .ok (.invokestatic 67, 3) := by decide +kernel
theorem dX0_copyFrom_104 : decode cX0_copyFrom 104 = .ok (.aload_n 1, 1) := by decide +kernel
theorem dX0_copyFrom_105 : decode cX0_copyFrom 105 = .ok (.getfield 50, 3) := by decide +kernel
theorem dX0_copyFrom_108 : decode cX0_copyFrom 108 = .ok (.aload_n 0, 1) := by decide +kernel
theorem dX0_copyFrom_109 : decode cX0_copyFrom 109 = .ok (.getfield 50, 3) := by decide +kernel
theorem dX0_copyFrom_112 : decode cX0_copyFrom 112 = .ok (.invokestatic 67, 3) := by decide +kernel
theorem dX0_copyFrom_115 : decode cX0_copyFrom 115 = .ok (.aload_n 0, 1) := by decide +kernel
theorem dX0_copyFrom_116 : decode cX0_copyFrom 116 = .ok (.aload_n 1, 1) := by decide +kernel
theorem dX0_copyFrom_117 : decode cX0_copyFrom 117 = .ok (.getfield 78, 3) := by decide +kernel
theorem dX0_copyFrom_120 : decode cX0_copyFrom 120 = .ok (.putfield 78, 3) := by decide +kernel
theorem dX0_copyFrom_123 : decode cX0_copyFrom 123 = .ok (.aload_n 0, 1) := by decide +kernel
theorem dX0_copyFrom_124 : decode cX0_copyFrom 124 = .ok (.aload_n 1, 1) := by decide +kernel
theorem dX0_copyFrom_125 : decode cX0_copyFrom 125 = .ok (.getfield 81, 3) := by decide +kernel
theorem dX0_copyFrom_128 : decode cX0_copyFrom 128 = .ok (.putfield 81, 3) := by decide +kernel
theorem dX0_copyFrom_131 : decode cX0_copyFrom 131 = .ok (.iconst 0, 1) := by decide +kernel
theorem dX0_copyFrom_132 : decode cX0_copyFrom 132 = .ok (.istore_n 2, 1) := by decide +kernel
theorem dX0_copyFrom_133 : decode cX0_copyFrom 133 = .ok (.iload_n 2, 1) := by decide +kernel
theorem dX0_copyFrom_134 : decode cX0_copyFrom 134 = .ok (.aload_n 0, 1) := by decide +kernel
theorem dX0_copyFrom_135 : decode cX0_copyFrom 135 = .ok (.getfield 78, 3) := by decide +kernel
theorem dX0_copyFrom_138 : decode cX0_copyFrom 138 = .ok (.if_icmp .ge 29, 3) := by decide +kernel
theorem dX0_copyFrom_141 : decode cX0_copyFrom 141 = .ok (.iload_n 2, 1) := by decide +kernel
theorem dX0_copyFrom_142 : decode cX0_copyFrom 142 = .ok (.iconst 5, 1) := by decide +kernel
theorem dX0_copyFrom_143 : decode cX0_copyFrom 143 = .ok (.if_icmp .ge 24, 3) := by decide +kernel
theorem dX0_copyFrom_146 : decode cX0_copyFrom 146 = .ok (.aload_n 0, 1) := by decide +kernel
theorem dX0_copyFrom_147 : decode cX0_copyFrom 147 = .ok (.getfield 55, 3) := by decide +kernel
theorem dX0_copyFrom_150 : decode cX0_copyFrom 150 = .ok (.iload_n 2, 1) := by decide +kernel
theorem dX0_copyFrom_151 : decode cX0_copyFrom 151 = .ok (.aaload, 1) := by decide +kernel
theorem dX0_copyFrom_152 : decode cX0_copyFrom 152 = .ok (.aload_n 1, 1) := by decide +kernel
theorem dX0_copyFrom_153 : decode cX0_copyFrom 153 = .ok (.getfield 55, 3) := by decide +kernel
theorem dX0_copyFrom_156 : decode cX0_copyFrom 156 = .ok (.iload_n 2, 1) := by decide +kernel
theorem dX0_copyFrom_157 : decode cX0_copyFrom 157 = .ok (.aaload, 1) := by decide +kernel
theorem dX0_copyFrom_158 : decode cX0_copyFrom 158 = .ok (.invokevirtual 84, 3) := by decide +kernel
theorem dX0_copyFrom_161 : decode cX0_copyFrom 161 = .ok (.iinc 2 1, 3) := by decide +kernel
theorem dX0_copyFrom_164 : decode cX0_copyFrom 164 = .ok (.goto (-31), 3) := by decide +kernel
theorem dX0_copyFrom_167 : decode cX0_copyFrom 167 = .ok (.return_, 1) := by decide +kernel
theorem dX0_brokenStrings_0 : decode cX0_brokenStrings 0 = .ok (.iconst 0, 1) := by decide +kernel
theorem dX0_brokenStrings_1 : decode cX0_brokenStrings 1 = .ok (.istore_n 1, 1) := by decide +kernel
theorem dX0_brokenStrings_2 : decode cX0_brokenStrings 2 = .ok (.aload_n 0, 1) := by decide +kernel
theorem dX0_brokenStrings_3 : decode cX0_brokenStrings 3 = .ok (.getfield 27, 3) := by decide +kernel
theorem dX0_brokenStrings_6 : decode cX0_brokenStrings 6 = .ok (.astore_n 2, 1) := by decide +kernel
theorem dX0_brokenStrings_7 : decode cX0_brokenStrings 7 = .ok (.aload_n 2, 1) := by decide +kernel
theorem dX0_brokenStrings_8 : decode cX0_brokenStrings 8 = .ok (.arraylength, 1) := by decide +kernel
theorem dX0_brokenStrings_9 : decode cX0_brokenStrings 9 = .ok (.istore_n 3, 1) := by decide +kernel
theorem dX0_brokenStrings_10 : decode cX0_brokenStrings 10 = .ok (.iconst 0, 1) := by decide +kernel
theorem dX0_brokenStrings_11 : decode cX0_brokenStrings 11 = .ok (.istore 4, 2) := by decide +kernel
theorem dX0_brokenStrings_13 : decode cX0_brokenStrings 13 = .ok (.iload 4, 2) := by decide +kernel
theorem dX0_brokenStrings_15 : decode cX0_brokenStrings 15 = .ok (.iload_n 3, 1) := by decide +kernel
theorem dX0_brokenStrings_16 : decode cX0_brokenStrings 16 = .ok (.if_icmp .ge 23, 3) := by decide +kernel
theorem dX0_brokenStrings_19 : decode cX0_brokenStrings 19 = .ok (.aload_n 2, 1) := by decide +kernel
theorem dX0_brokenStrings_20 : decode cX0_brokenStrings 20 = .ok (.iload 4, 2) := by decide +kernel
theorem dX0_brokenStrings_22 : decode cX0_brokenStrings 22 = .ok (.iaload, 1) := by decide +kernel
theorem dX0_brokenStrings_23 : decode cX0_brokenStrings 23 = .ok (.istore 5, 2) := by decide +kernel
theorem dX0_brokenStrings_25 : decode cX0_brokenStrings 25 = .ok (.iload_n 1, 1) := by decide +kernel
theorem dX0_brokenStrings_26 : decode cX0_brokenStrings 26 = .ok (.iload 5, 2) := by decide +kernel
theorem dX0_brokenStrings_28 : decode cX0_brokenStrings 28 = .ok (.invokestatic 88, 3) := by decide +kernel
theorem dX0_brokenStrings_31 : decode cX0_brokenStrings 31 = .ok (.iadd, 1) := by decide +kernel
theorem dX0_brokenStrings_32 : decode cX0_brokenStrings 32 = .ok (.istore_n 1, 1) := by decide +kernel
theorem dX0_brokenStrings_33 : decode cX0_brokenStrings 33 = .ok (.iinc 4 1, 3) := by decide +kernel
theorem dX0_brokenStrings_36 : decode cX0_brokenStrings 36 = .ok (.goto (-23), 3) := by decide +kernel
theorem dX0_brokenStrings_39 : decode cX0_brokenStrings 39 = .ok (.iload_n 1, 1) := by decide +kernel
theorem dX0_brokenStrings_40 : decode cX0_brokenStrings 40 = .ok (.ireturn, 1) := by decide +kernel
theorem dX0_underwayOf_0 : decode cX0_underwayOf 0 = .ok (.iconst 0, 1) := by decide +kernel
theorem dX0_underwayOf_1 : decode cX0_underwayOf 1 = .ok (.istore_n 2, 1) := by decide +kernel
theorem dX0_underwayOf_2 : decode cX0_underwayOf 2 = .ok (.iconst 0, 1) := by decide +kernel
theorem dX0_underwayOf_3 : decode cX0_underwayOf 3 = .ok (.istore_n 3, 1) := by decide +kernel
theorem dX0_underwayOf_4 : decode cX0_underwayOf 4 = .ok (.iload_n 3, 1) := by decide +kernel
theorem dX0_underwayOf_5 : decode cX0_underwayOf 5 = .ok (.aload_n 0, 1) := by decide +kernel
theorem dX0_underwayOf_6 : decode cX0_underwayOf 6 = .ok (.getfield 78, 3) := by decide +kernel
theorem dX0_underwayOf_9 : decode cX0_underwayOf 9 = .ok (.if_icmp .ge 31, 3) := by decide +kernel
theorem dX0_underwayOf_12 : decode cX0_underwayOf 12 = .ok (.iload_n 3, 1) := by decide +kernel
theorem dX0_underwayOf_13 : decode cX0_underwayOf 13 = .ok (.iconst 5, 1) := by decide +kernel
theorem dX0_underwayOf_14 : decode cX0_underwayOf 14 = .ok (.if_icmp .ge 26, 3) := by decide +kernel
theorem dX0_underwayOf_17 : decode cX0_underwayOf 17 = .ok (.iload_n 2, 1) := by decide +kernel
theorem dX0_underwayOf_18 : decode cX0_underwayOf 18 = .ok (.aload_n 0, 1) := by decide +kernel
theorem dX0_underwayOf_19 : decode cX0_underwayOf 19 = .ok (.getfield 55, 3) := by decide +kernel
theorem dX0_underwayOf_22 : decode cX0_underwayOf 22 = .ok (.iload_n 3, 1) := by decide +kernel
theorem dX0_underwayOf_23 : decode cX0_underwayOf 23 = .ok (.aaload, 1) := by decide +kernel
theorem dX0_underwayOf_24 : decode cX0_underwayOf 24 = .ok (.getfield 94, 3) := by decide +kernel
theorem dX0_underwayOf_27 : decode cX0_underwayOf 27 = .ok (.iload_n 1, 1) := by decide +kernel
theorem dX0_underwayOf_28 : decode cX0_underwayOf 28 = .ok (.aaload, 1) := by decide +kernel
theorem dX0_underwayOf_29 : decode cX0_underwayOf 29 = .ok (.invokestatic 97, 3) := by decide +kernel
theorem dX0_underwayOf_32 : decode cX0_underwayOf 32 = .ok (.iadd, 1) := by decide +kernel
theorem dX0_underwayOf_33 : decode cX0_underwayOf 33 = .ok (.istore_n 2, 1) := by decide +kernel
theorem dX0_underwayOf_34 : decode cX0_underwayOf 34 = .ok (.iinc 3 1, 3) := by decide +kernel
theorem dX0_underwayOf_37 : decode cX0_underwayOf 37 = .ok (.goto (-33), 3) := by decide +kernel
theorem dX0_underwayOf_40 : decode cX0_underwayOf 40 = .ok (.iload_n 2, 1) := by decide +kernel
theorem dX0_underwayOf_41 : decode cX0_underwayOf 41 = .ok (.ireturn, 1) := by decide +kernel
theorem dX0_dispatch_0 : decode cX0_dispatch 0 = .ok (.aload_n 0, 1) := by decide +kernel
theorem dX0_dispatch_1 : decode cX0_dispatch 1 = .ok (.getfield 78, 3) := by decide +kernel
theorem dX0_dispatch_4 : decode cX0_dispatch 4 = .ok (.ifCond .lt 11, 3) := by decide +kernel
theorem dX0_dispatch_7 : decode cX0_dispatch 7 = .ok (.aload_n 0, 1) := by decide +kernel
theorem dX0_dispatch_8 : decode cX0_dispatch 8 = .ok (.getfield 78, 3) := by decide +kernel
theorem dX0_dispatch_11 : decode cX0_dispatch 11 = .ok (.iconst 5, 1) := by decide +kernel
theorem dX0_dispatch_12 : decode cX0_dispatch 12 = .ok (.if_icmp .lt 4, 3) := by decide +kernel
theorem dX0_dispatch_15 : decode cX0_dispatch 15 = .ok (.return_, 1) := by decide +kernel
theorem dX0_dispatch_16 : decode cX0_dispatch 16 = .ok (.aload_n 1, 1) := by decide +kernel
theorem dX0_dispatch_17 : decode cX0_dispatch 17 = .ok (.aload_n 0, 1) := by decide +kernel
theorem dX0_dispatch_18 : decode cX0_dispatch 18 = .ok (.iload_n 2, 1) := by decide +kernel
theorem dX0_dispatch_19 : decode cX0_dispatch 19 = .ok (.invokevirtual 114, 3) := by decide +kernel
theorem dX0_dispatch_22 : decode cX0_dispatch 22 = .ok (.aload_n 0, 1) := by decide +kernel
theorem dX0_dispatch_23 : decode cX0_dispatch 23 = .ok (.getfield 55, 3) := by decide +kernel
theorem dX0_dispatch_26 : decode cX0_dispatch 26 = .ok (.aload_n 0, 1) := by decide +kernel
theorem dX0_dispatch_27 : decode cX0_dispatch 27 = .ok (.getfield 78, 3) := by decide +kernel
theorem dX0_dispatch_30 : decode cX0_dispatch 30 = .ok (.aaload, 1) := by decide +kernel
theorem dX0_dispatch_31 : decode cX0_dispatch 31 = .ok (.astore_n 3, 1) := by decide +kernel
theorem dX0_dispatch_32 : decode cX0_dispatch 32 = .ok (.aload_n 0, 1) := by decide +kernel
theorem dX0_dispatch_33 : decode cX0_dispatch 33 = .ok (.dup, 1) := by decide +kernel
theorem dX0_dispatch_34 : decode cX0_dispatch 34 = .ok (.getfield 78, 3) := by decide +kernel
theorem dX0_dispatch_37 : decode cX0_dispatch 37 = .ok (.iconst 1, 1) := by decide +kernel
theorem dX0_dispatch_38 : decode cX0_dispatch 38 = .ok (.iadd, 1) := by decide +kernel
theorem dX0_dispatch_39 : decode cX0_dispatch 39 = .ok (.putfield 78, 3) := by decide +kernel
theorem dX0_dispatch_42 : decode cX0_dispatch 42 = .ok (.aload_n 3, 1) := by decide +kernel
theorem dX0_dispatch_43 : decode cX0_dispatch 43 = .ok (.aload_n 1, 1) := by decide +kernel
theorem dX0_dispatch_44 : decode cX0_dispatch 44 = .ok (.getfield 120, 3) := by decide +kernel
theorem dX0_dispatch_47 : decode cX0_dispatch 47 = .ok (.putfield 123, 3) := by decide +kernel
theorem dX0_dispatch_50 : decode cX0_dispatch 50 = .ok (.aload_n 3, 1) := by decide +kernel
theorem dX0_dispatch_51 : decode cX0_dispatch 51 = .ok (.aload_n 0, 1) := by decide +kernel
theorem dX0_dispatch_52 : decode cX0_dispatch 52 = .ok (.getfield 71, 3) := by decide +kernel
theorem dX0_dispatch_55 : decode cX0_dispatch 55 = .ok (.aload_n 0, 1) := by decide +kernel
theorem dX0_dispatch_56 : decode cX0_dispatch 56 = .ok (.getfield 18, 3) := by decide +kernel
theorem dX0_dispatch_59 : decode cX0_dispatch 59 = .ok (.iconst 3, 1) := by decide +kernel
theorem dX0_dispatch_60 : decode cX0_dispatch 60 = .ok (.iaload, 1) := by decide +kernel
theorem dX0_dispatch_61 : decode cX0_dispatch 61 = .ok (.iadd, 1) := by decide +kernel
theorem dX0_dispatch_62 : decode cX0_dispatch 62 = .ok (.putfield 124, 3) := by decide +kernel
theorem dX0_dispatch_65 : decode cX0_dispatch 65 = .ok (.aload_n 3, 1) := by decide +kernel
theorem dX0_dispatch_66 : decode cX0_dispatch 66 = .ok (.iconst 0, 1) := by decide +kernel
theorem dX0_dispatch_67 : decode cX0_dispatch 67 = .ok (.putfield 127, 3) := by decide +kernel
theorem dX0_dispatch_70 : decode cX0_dispatch 70 = .ok (.iconst 0, 1) := by decide +kernel
theorem dX0_dispatch_71 : decode cX0_dispatch 71 = .ok (.istore 4, 2) := by decide +kernel
theorem dX0_dispatch_73 : decode cX0_dispatch 73 = .ok (.iload 4, 2) := by decide +kernel
theorem dX0_dispatch_75 : decode cX0_dispatch 75 = .ok (.bipush 6, 2) := by decide +kernel
theorem dX0_dispatch_77 : decode cX0_dispatch 77 = .ok (.if_icmp .ge 64, 3) := by decide +kernel
theorem dX0_dispatch_80 : decode cX0_dispatch 80 = .ok (.aload_n 3, 1) := by decide +kernel
theorem dX0_dispatch_81 : decode cX0_dispatch 81 = .ok (.getfield 94, 3) := by decide +kernel
theorem dX0_dispatch_84 : decode cX0_dispatch 84 = .ok (.iload 4, 2) := by decide +kernel
theorem dX0_dispatch_86 : decode cX0_dispatch 86 = .ok (.aaload, 1) := by decide +kernel
theorem dX0_dispatch_87 : decode cX0_dispatch 87 = .ok (.iconst 0, 1) := by decide +kernel
theorem dX0_dispatch_88 : decode cX0_dispatch 88 = .ok (.invokestatic 131, 3) := by decide +kernel
theorem dX0_dispatch_91 : decode cX0_dispatch 91 = .ok (.iload_n 2, 1) := by decide +kernel
theorem dX0_dispatch_92 : decode cX0_dispatch 92 = .ok (.iload 4, 2) := by decide +kernel
theorem dX0_dispatch_94 : decode cX0_dispatch 94 = .ok (.invokestatic 137, 3) := by decide +kernel
theorem dX0_dispatch_97 : decode cX0_dispatch 97 = .ok (.ifCond .eq 38, 3) := by decide +kernel
theorem dX0_dispatch_100 : decode cX0_dispatch 100 = .ok (.aload_n 0, 1) := by decide +kernel
theorem dX0_dispatch_101 : decode cX0_dispatch 101 = .ok (.iload 4, 2) := by decide +kernel
theorem dX0_dispatch_103 : decode cX0_dispatch 103 = .ok (.aload_n 1, 1) := by decide +kernel
theorem dX0_dispatch_104 : decode cX0_dispatch 104 = .ok (.invokevirtual 141, 3) := by decide +kernel
theorem dX0_dispatch_107 : decode cX0_dispatch 107 = .ok (.aload_n 0, 1) := by decide +kernel
theorem dX0_dispatch_108 : decode cX0_dispatch 108 = .ok (.getfield 35, 3) := by decide +kernel
theorem dX0_dispatch_111 : decode cX0_dispatch 111 = .ok (.iload 4, 2) := by decide +kernel
theorem dX0_dispatch_113 : decode cX0_dispatch 113 = .ok (.aaload, 1) := by decide +kernel
theorem dX0_dispatch_114 : decode cX0_dispatch 114 = .ok (.aload_n 3, 1) := by decide +kernel
theorem dX0_dispatch_115 : decode cX0_dispatch 115 = .ok (.getfield 94, 3) := by decide +kernel
theorem dX0_dispatch_118 : decode cX0_dispatch 118 = .ok (.iload 4, 2) := by decide +kernel
theorem dX0_dispatch_120 : decode cX0_dispatch 120 = .ok (.aaload, 1) := by decide +kernel
theorem dX0_dispatch_121 : decode cX0_dispatch 121 = .ok (.invokestatic 67, 3) := by decide +kernel
theorem dX0_dispatch_124 : decode cX0_dispatch 124 = .ok (.aload_n 0, 1) := by decide +kernel
theorem dX0_dispatch_125 : decode cX0_dispatch 125 = .ok (.getfield 35, 3) := by decide +kernel
theorem dX0_dispatch_128 : decode cX0_dispatch 128 = .ok (.iload 4, 2) := by decide +kernel
theorem dX0_dispatch_130 : decode cX0_dispatch 130 = .ok (.aaload, 1) := by decide +kernel
theorem dX0_dispatch_131 : decode cX0_dispatch 131 = .ok (.iconst 0, 1) := by decide +kernel
theorem dX0_dispatch_132 : decode cX0_dispatch 132 = .ok (.invokestatic 131, 3) := by decide +kernel
theorem dX0_dispatch_135 : decode cX0_dispatch 135 = .ok (.iinc 4 1, 3) := by decide +kernel
theorem dX0_dispatch_138 : decode cX0_dispatch 138 = .ok (.goto (-65), 3) := by decide +kernel
theorem dX0_dispatch_141 : decode cX0_dispatch 141 = .ok (.return_, 1) := by decide +kernel
theorem dX0_charge_0 : decode cX0_charge 0 = .ok (.aload_n 2, 1) := by decide +kernel
theorem dX0_charge_1 : decode cX0_charge 1 = .ok (.aload_n 0, 1) := by decide +kernel
theorem dX0_charge_2 : decode cX0_charge 2 = .ok (.getfield 35, 3) := by decide +kernel
theorem dX0_charge_5 : decode cX0_charge 5 = .ok (.iload_n 1, 1) := by decide +kernel
theorem dX0_charge_6 : decode cX0_charge 6 = .ok (.aaload, 1) := by decide +kernel
theorem dX0_charge_7 : decode cX0_charge 7 = .ok (.invokevirtual 145, 3) := by decide +kernel
theorem dX0_charge_10 : decode cX0_charge 10 = .ok (.istore_n 3, 1) := by decide +kernel
theorem dX0_charge_11 : decode cX0_charge 11 = .ok (.aload_n 2, 1) := by decide +kernel
theorem dX0_charge_12 : decode cX0_charge 12 = .ok (.getfield 148, 3) := by decide +kernel
theorem dX0_charge_15 : decode cX0_charge 15 = .ok (.getfield 149, 3) := by decide +kernel
theorem dX0_charge_18 : decode cX0_charge 18 = .ok (.iload_n 1, 1) := by decide +kernel
theorem dX0_charge_19 : decode cX0_charge 19 = .ok (.iaload, 1) := by decide +kernel
theorem dX0_charge_20 : decode cX0_charge 20 = .ok (.istore 4, 2) := by decide +kernel
theorem dX0_charge_22 : decode cX0_charge 22 = .ok (.aload_n 0, 1) := by decide +kernel
theorem dX0_charge_23 : decode cX0_charge 23 = .ok (.getfield 38, 3) := by decide +kernel
theorem dX0_charge_26 : decode cX0_charge 26 = .ok (.iload_n 1, 1) := by decide +kernel
theorem dX0_charge_27 : decode cX0_charge 27 = .ok (.dup2, 1) := by decide +kernel
theorem dX0_charge_28 : decode cX0_charge 28 = .ok (.iaload, 1) := by decide +kernel
theorem dX0_charge_29 : decode cX0_charge 29 = .ok (.iload_n 3, 1) := by decide +kernel
theorem dX0_charge_30 : decode cX0_charge 30 = .ok (.iload 4, 2) := by decide +kernel
theorem dX0_charge_32 : decode cX0_charge 32 = .ok (.iadd, 1) := by decide +kernel
theorem dX0_charge_33 : decode cX0_charge 33 = .ok (.isub, 1) := by decide +kernel
theorem dX0_charge_34 : decode cX0_charge 34 = .ok (.iastore, 1) := by decide +kernel
theorem dX0_charge_35 : decode cX0_charge 35 = .ok (.aload_n 0, 1) := by decide +kernel
theorem dX0_charge_36 : decode cX0_charge 36 = .ok (.getfield 41, 3) := by decide +kernel
theorem dX0_charge_39 : decode cX0_charge 39 = .ok (.iload_n 1, 1) := by decide +kernel
theorem dX0_charge_40 : decode cX0_charge 40 = .ok (.dup2, 1) := by decide +kernel
theorem dX0_charge_41 : decode cX0_charge 41 = .ok (.iaload, 1) := by decide +kernel
theorem dX0_charge_42 : decode cX0_charge 42 = .ok (.iload_n 3, 1) := by decide +kernel
theorem dX0_charge_43 : decode cX0_charge 43 = .ok (.iadd, 1) := by decide +kernel
theorem dX0_charge_44 : decode cX0_charge 44 = .ok (.iastore, 1) := by decide +kernel
theorem dX0_charge_45 : decode cX0_charge 45 = .ok (.aload_n 0, 1) := by decide +kernel
theorem dX0_charge_46 : decode cX0_charge 46 = .ok (.getfield 44, 3) := by decide +kernel
theorem dX0_charge_49 : decode cX0_charge 49 = .ok (.iload_n 1, 1) := by decide +kernel
theorem dX0_charge_50 : decode cX0_charge 50 = .ok (.dup2, 1) := by decide +kernel
theorem dX0_charge_51 : decode cX0_charge 51 = .ok (.iaload, 1) := by decide +kernel
theorem dX0_charge_52 : decode cX0_charge 52 = .ok (.iload 4, 2) := by decide +kernel
theorem dX0_charge_54 : decode cX0_charge 54 = .ok (.iadd, 1) := by decide +kernel
theorem dX0_charge_55 : decode cX0_charge 55 = .ok (.iastore, 1) := by decide +kernel
theorem dX0_charge_56 : decode cX0_charge 56 = .ok (.return_, 1) := by decide +kernel
theorem dX0_beginDay_0 : decode cX0_beginDay 0 = .ok (.aload_n 0, 1) := by decide +kernel
theorem dX0_beginDay_1 : decode cX0_beginDay 1 = .ok (.dup, 1) := by decide +kernel
theorem dX0_beginDay_2 : decode cX0_beginDay 2 = .ok (.getfield 71, 3) := by decide +kernel
theorem dX0_beginDay_5 : decode cX0_beginDay 5 = .ok (.iconst 1, 1) := by decide +kernel
theorem dX0_beginDay_6 : decode cX0_beginDay 6 = .ok (.iadd, 1) := by decide +kernel
theorem dX0_beginDay_7 : decode cX0_beginDay 7 = .ok (.putfield 71, 3) := by decide +kernel
theorem dX0_beginDay_10 : decode cX0_beginDay 10 = .ok (.aload_n 0, 1) := by decide +kernel
theorem dX0_beginDay_11 : decode cX0_beginDay 11 = .ok (.getfield 78, 3) := by decide +kernel
theorem dX0_beginDay_14 : decode cX0_beginDay 14 = .ok (.istore_n 1, 1) := by decide +kernel
theorem dX0_beginDay_15 : decode cX0_beginDay 15 = .ok (.iconst 0, 1) := by decide +kernel
theorem dX0_beginDay_16 : decode cX0_beginDay 16 = .ok (.istore_n 2, 1) := by decide +kernel
theorem dX0_beginDay_17 : decode cX0_beginDay 17 = .ok (.iconst 0, 1) := by decide +kernel
theorem dX0_beginDay_18 : decode cX0_beginDay 18 = .ok (.istore_n 3, 1) := by decide +kernel
theorem dX0_beginDay_19 : decode cX0_beginDay 19 = .ok (.iload_n 3, 1) := by decide +kernel
theorem dX0_beginDay_20 : decode cX0_beginDay 20 = .ok (.iload_n 1, 1) := by decide +kernel
theorem dX0_beginDay_21 : decode cX0_beginDay 21 = .ok (.if_icmp .ge 75, 3) := by decide +kernel
theorem dX0_beginDay_24 : decode cX0_beginDay 24 = .ok (.iload_n 3, 1) := by decide +kernel
theorem dX0_beginDay_25 : decode cX0_beginDay 25 = .ok (.iconst 5, 1) := by decide +kernel
theorem dX0_beginDay_26 : decode cX0_beginDay 26 = .ok (.if_icmp .ge 70, 3) := by decide +kernel
theorem dX0_beginDay_29 : decode cX0_beginDay 29 = .ok (.aload_n 0, 1) := by decide +kernel
theorem dX0_beginDay_30 : decode cX0_beginDay 30 = .ok (.getfield 55, 3) := by decide +kernel
theorem dX0_beginDay_33 : decode cX0_beginDay 33 = .ok (.iload_n 3, 1) := by decide +kernel
theorem dX0_beginDay_34 : decode cX0_beginDay 34 = .ok (.aaload, 1) := by decide +kernel
theorem dX0_beginDay_35 : decode cX0_beginDay 35 = .ok (.astore 4, 2) := by decide +kernel
theorem dX0_beginDay_37 : decode cX0_beginDay 37 = .ok (.aload 4, 2) := by decide +kernel
theorem dX0_beginDay_39 : decode cX0_beginDay 39 = .ok (.getfield 124, 3) := by decide +kernel
theorem dX0_beginDay_42 : decode cX0_beginDay 42 = .ok (.aload_n 0, 1) := by decide +kernel
theorem dX0_beginDay_43 : decode cX0_beginDay 43 = .ok (.getfield 71, 3) := by decide +kernel
theorem dX0_beginDay_46 : decode cX0_beginDay 46 = .ok (.if_icmp .ne 21, 3) := by decide +kernel
theorem dX0_beginDay_49 : decode cX0_beginDay 49 = .ok (.aload_n 0, 1) := by decide +kernel
theorem dX0_beginDay_50 : decode cX0_beginDay 50 = .ok (.aload 4, 2) := by decide +kernel
theorem dX0_beginDay_52 : decode cX0_beginDay 52 = .ok (.invokevirtual 152, 3) := by decide +kernel
theorem dX0_beginDay_55 : decode cX0_beginDay 55 = .ok (.ifCond .eq 12, 3) := by decide +kernel
theorem dX0_beginDay_58 : decode cX0_beginDay 58 = .ok (.aload_n 0, 1) := by decide +kernel
theorem dX0_beginDay_59 : decode cX0_beginDay 59 = .ok (.aload 4, 2) := by decide +kernel
theorem dX0_beginDay_61 : decode cX0_beginDay 61 = .ok (.invokevirtual 156, 3) := by decide +kernel
theorem dX0_beginDay_64 : decode cX0_beginDay 64 = .ok (.goto 26, 3) := by decide +kernel
theorem dX0_beginDay_67 : decode cX0_beginDay 67 = .ok (.aload_n 0, 1) := by decide +kernel
theorem dX0_beginDay_68 : decode cX0_beginDay 68 = .ok (.getfield 55, 3) := by decide +kernel
theorem dX0_beginDay_71 : decode cX0_beginDay 71 = .ok (.iload_n 3, 1) := by decide +kernel
theorem dX0_beginDay_72 : decode cX0_beginDay 72 = .ok (.aload_n 0, 1) := by decide +kernel
theorem dX0_beginDay_73 : decode cX0_beginDay 73 = .ok (.getfield 55, 3) := by decide +kernel
theorem dX0_beginDay_76 : decode cX0_beginDay 76 = .ok (.iload_n 2, 1) := by decide +kernel
theorem dX0_beginDay_77 : decode cX0_beginDay 77 = .ok (.aaload, 1) := by decide +kernel
theorem dX0_beginDay_78 : decode cX0_beginDay 78 = .ok (.aastore, 1) := by decide +kernel
theorem dX0_beginDay_79 : decode cX0_beginDay 79 = .ok (.aload_n 0, 1) := by decide +kernel
theorem dX0_beginDay_80 : decode cX0_beginDay 80 = .ok (.getfield 55, 3) := by decide +kernel
theorem dX0_beginDay_83 : decode cX0_beginDay 83 = .ok (.iload_n 2, 1) := by decide +kernel
theorem dX0_beginDay_84 : decode cX0_beginDay 84 = .ok (.aload 4, 2) := by decide +kernel
theorem dX0_beginDay_86 : decode cX0_beginDay 86 = .ok (.aastore, 1) := by decide +kernel
theorem dX0_beginDay_87 : decode cX0_beginDay 87 = .ok (.iinc 2 1, 3) := by decide +kernel
theorem dX0_beginDay_90 : decode cX0_beginDay 90 = .ok (.iinc 3 1, 3) := by decide +kernel
theorem dX0_beginDay_93 : decode cX0_beginDay 93 = .ok (.goto (-74), 3) := by decide +kernel
theorem dX0_beginDay_96 : decode cX0_beginDay 96 = .ok (.aload_n 0, 1) := by decide +kernel
theorem dX0_beginDay_97 : decode cX0_beginDay 97 = .ok (.iload_n 2, 1) := by decide +kernel
theorem dX0_beginDay_98 : decode cX0_beginDay 98 = .ok (.putfield 78, 3) := by decide +kernel
theorem dX0_beginDay_101 : decode cX0_beginDay 101 = .ok (.iload_n 1, 1) := by decide +kernel
theorem dX0_beginDay_102 : decode cX0_beginDay 102 = .ok (.iload_n 2, 1) := by decide +kernel
theorem dX0_beginDay_103 : decode cX0_beginDay 103 = .ok (.isub, 1) := by decide +kernel
theorem dX0_beginDay_104 : decode cX0_beginDay 104 = .ok (.ireturn, 1) := by decide +kernel
theorem dX0_comesHome_0 : decode cX0_comesHome 0 = .ok (.aload_n 1, 1) := by decide +kernel
theorem dX0_comesHome_1 : decode cX0_comesHome 1 = .ok (.getfield 127, 3) := by decide +kernel
theorem dX0_comesHome_4 : decode cX0_comesHome 4 = .ok (.ifCond .ne 19, 3) := by decide +kernel
theorem dX0_comesHome_7 : decode cX0_comesHome 7 = .ok (.aload_n 0, 1) := by decide +kernel
theorem dX0_comesHome_8 : decode cX0_comesHome 8 = .ok (.bipush 100, 2) := by decide +kernel
theorem dX0_comesHome_10 : decode cX0_comesHome 10 = .ok (.invokevirtual 159, 3) := by decide +kernel
theorem dX0_comesHome_13 : decode cX0_comesHome 13 = .ok (.aload_n 0, 1) := by decide +kernel
theorem dX0_comesHome_14 : decode cX0_comesHome 14 = .ok (.getfield 18, 3) := by decide +kernel
theorem dX0_comesHome_17 : decode cX0_comesHome 17 = .ok (.bipush 7, 2) := by decide +kernel
theorem dX0_comesHome_19 : decode cX0_comesHome 19 = .ok (.iaload, 1) := by decide +kernel
theorem dX0_comesHome_20 : decode cX0_comesHome 20 = .ok (.if_icmp .lt 5, 3) := by decide +kernel
theorem dX0_comesHome_23 : decode cX0_comesHome 23 = .ok (.iconst 1, 1) := by decide +kernel
theorem dX0_comesHome_24 : decode cX0_comesHome 24 = .ok (.ireturn, 1) := by decide +kernel
theorem dX0_comesHome_25 : decode cX0_comesHome 25 = .ok (.aload_n 0, 1) := by decide +kernel
theorem dX0_comesHome_26 : decode cX0_comesHome 26 = .ok (.aload_n 1, 1) := by decide +kernel
theorem dX0_comesHome_27 : decode cX0_comesHome 27 = .ok (.invokevirtual 162, 3) := by decide +kernel
theorem dX0_comesHome_30 : decode cX0_comesHome 30 = .ok (.aload_n 0, 1) := by decide +kernel
theorem dX0_comesHome_31 : decode cX0_comesHome 31 = .ok (.getfield 18, 3) := by decide +kernel
theorem dX0_comesHome_34 : decode cX0_comesHome 34 = .ok (.iconst 4, 1) := by decide +kernel
theorem dX0_comesHome_35 : decode cX0_comesHome 35 = .ok (.iaload, 1) := by decide +kernel
theorem dX0_comesHome_36 : decode cX0_comesHome 36 = .ok (.ifCond .ne 7, 3) := by decide +kernel
theorem dX0_comesHome_39 : decode cX0_comesHome 39 = .ok (.iconst 1, 1) := by decide +kernel
theorem dX0_comesHome_40 : decode cX0_comesHome 40 = .ok (.goto 4, 3) := by decide +kernel
theorem dX0_comesHome_43 : decode cX0_comesHome 43 = .ok (.iconst 0, 1) := by decide +kernel
theorem dX0_comesHome_44 : decode cX0_comesHome 44 = .ok (.ireturn, 1) := by decide +kernel
theorem dX0_openAtCustoms_0 : decode cX0_openAtCustoms 0 = .ok (.aload_n 0, 1) := by decide +kernel
theorem dX0_openAtCustoms_1 : decode cX0_openAtCustoms 1 = .ok (.dup, 1) := by decide +kernel
theorem dX0_openAtCustoms_2 : decode cX0_openAtCustoms 2 = .ok (.getfield 81, 3) := by decide +kernel
theorem dX0_openAtCustoms_5 : decode cX0_openAtCustoms 5 = .ok (.iconst 1, 1) := by decide +kernel
theorem dX0_openAtCustoms_6 : decode cX0_openAtCustoms 6 = .ok (.iadd, 1) := by decide +kernel
theorem dX0_openAtCustoms_7 : decode cX0_openAtCustoms 7 = .ok (.putfield 81, 3) := by decide +kernel
theorem dX0_openAtCustoms_10 : decode cX0_openAtCustoms 10 = .ok (.aload_n 1, 1) := by decide +kernel
theorem dX0_openAtCustoms_11 : decode cX0_openAtCustoms 11 = .ok (.iconst 1, 1) := by decide +kernel
theorem dX0_openAtCustoms_12 : decode cX0_openAtCustoms 12 = .ok (.putfield 127, 3) := by decide +kernel
theorem dX0_openAtCustoms_15 : decode cX0_openAtCustoms 15 = .ok (.aload_n 1, 1) := by decide +kernel
theorem dX0_openAtCustoms_16 : decode cX0_openAtCustoms 16 = .ok (.aload_n 0, 1) := by decide +kernel
theorem dX0_openAtCustoms_17 : decode cX0_openAtCustoms 17 = .ok (.getfield 71, 3) := by decide +kernel
theorem dX0_openAtCustoms_20 : decode cX0_openAtCustoms 20 = .ok (.aload_n 0, 1) := by decide +kernel
theorem dX0_openAtCustoms_21 : decode cX0_openAtCustoms 21 = .ok (.getfield 18, 3) := by decide +kernel
theorem dX0_openAtCustoms_24 : decode cX0_openAtCustoms 24 = .ok (.iconst 4, 1) := by decide +kernel
theorem dX0_openAtCustoms_25 : decode cX0_openAtCustoms 25 = .ok (.iaload, 1) := by decide +kernel
theorem dX0_openAtCustoms_26 : decode cX0_openAtCustoms 26 = .ok (.iadd, 1) := by decide +kernel
theorem dX0_openAtCustoms_27 : decode cX0_openAtCustoms 27 = .ok (.putfield 124, 3) := by decide +kernel
theorem dX0_openAtCustoms_30 : decode cX0_openAtCustoms 30 = .ok (.aload_n 0, 1) := by decide +kernel
theorem dX0_openAtCustoms_31 : decode cX0_openAtCustoms 31 = .ok (.aload_n 1, 1) := by decide +kernel
theorem dX0_openAtCustoms_32 : decode cX0_openAtCustoms 32 = .ok (.invokevirtual 165, 3) := by decide +kernel
theorem dX0_openAtCustoms_35 : decode cX0_openAtCustoms 35 = .ok (.aload_n 0, 1) := by decide +kernel
theorem dX0_openAtCustoms_36 : decode cX0_openAtCustoms 36 = .ok (.bipush 100, 2) := by decide +kernel
theorem dX0_openAtCustoms_38 : decode cX0_openAtCustoms 38 = .ok (.invokevirtual 159, 3) := by decide +kernel
theorem dX0_openAtCustoms_41 : decode cX0_openAtCustoms 41 = .ok (.aload_n 0, 1) := by decide +kernel
theorem dX0_openAtCustoms_42 : decode cX0_openAtCustoms 42 = .ok (.getfield 18, 3) := by decide +kernel
theorem dX0_openAtCustoms_45 : decode cX0_openAtCustoms 45 = .ok (.bipush 8, 2) := by decide +kernel
theorem dX0_openAtCustoms_47 : decode cX0_openAtCustoms 47 = .ok (.iaload, 1) := by decide +kernel
theorem dX0_openAtCustoms_48 : decode cX0_openAtCustoms 48 = .ok (.if_icmp .ge 33, 3) := by decide +kernel
theorem dX0_openAtCustoms_51 : decode cX0_openAtCustoms 51 = .ok (.aload_n 1, 1) := by decide +kernel
theorem dX0_openAtCustoms_52 : decode cX0_openAtCustoms 52 = .ok (.aload_n 0, 1) := by decide +kernel
theorem dX0_openAtCustoms_53 : decode cX0_openAtCustoms 53 = .ok (.aload_n 1, 1) := by decide +kernel
theorem dX0_openAtCustoms_54 : decode cX0_openAtCustoms 54 = .ok (.invokevirtual 168, 3) := by decide +kernel
theorem dX0_openAtCustoms_57 : decode cX0_openAtCustoms 57 = .ok (.invokevirtual 159, 3) := by decide +kernel
theorem dX0_openAtCustoms_60 : decode cX0_openAtCustoms 60 = .ok (.invokevirtual 172, 3) := by decide +kernel
theorem dX0_openAtCustoms_63 : decode cX0_openAtCustoms 63 = .ok (.istore_n 2, 1) := by decide +kernel
theorem dX0_openAtCustoms_64 : decode cX0_openAtCustoms 64 = .ok (.iload_n 2, 1) := by decide +kernel
theorem dX0_openAtCustoms_65 : decode cX0_openAtCustoms 65 = .ok (.invokestatic 101, 3) := by decide +kernel
theorem dX0_openAtCustoms_68 : decode cX0_openAtCustoms 68 = .ok (.ifCond .eq 13, 3) := by decide +kernel
theorem dX0_openAtCustoms_71 : decode cX0_openAtCustoms 71 = .ok (.aload_n 0, 1) := by decide +kernel
theorem dX0_openAtCustoms_72 : decode cX0_openAtCustoms 72 = .ok (.getfield 50, 3) := by decide +kernel
theorem dX0_openAtCustoms_75 : decode cX0_openAtCustoms 75 = .ok (.iload_n 2, 1) := by decide +kernel
theorem dX0_openAtCustoms_76 : decode cX0_openAtCustoms 76 = .ok (.dup2, 1) := by decide +kernel
theorem dX0_openAtCustoms_77 : decode cX0_openAtCustoms 77 = .ok (.iaload, 1) := by decide +kernel
theorem dX0_openAtCustoms_78 : decode cX0_openAtCustoms 78 = .ok (.iconst 1, 1) := by decide +kernel
theorem dX0_openAtCustoms_79 : decode cX0_openAtCustoms 79 = .ok (.iadd, 1) := by decide +kernel
theorem dX0_openAtCustoms_80 : decode cX0_openAtCustoms 80 = .ok (.iastore, 1) := by decide +kernel
theorem dX0_openAtCustoms_81 : decode cX0_openAtCustoms 81 = .ok (.return_, 1) := by decide +kernel
theorem dX0_payDuty_0 : decode cX0_payDuty 0 = .ok (.iconst 0, 1) := by decide +kernel
theorem dX0_payDuty_1 : decode cX0_payDuty 1 = .ok (.istore_n 2, 1) := by decide +kernel
theorem dX0_payDuty_2 : decode cX0_payDuty 2 = .ok (.iload_n 2, 1) := by decide +kernel
theorem dX0_payDuty_3 : decode cX0_payDuty 3 = .ok (.bipush 6, 2) := by decide +kernel
theorem dX0_payDuty_5 : decode cX0_payDuty 5 = .ok (.if_icmp .ge 27, 3) := by decide +kernel
theorem dX0_payDuty_8 : decode cX0_payDuty 8 = .ok (.aload_n 0, 1) := by decide +kernel
theorem dX0_payDuty_9 : decode cX0_payDuty 9 = .ok (.getfield 62, 3) := by decide +kernel
theorem dX0_payDuty_12 : decode cX0_payDuty 12 = .ok (.getfield 175, 3) := by decide +kernel
theorem dX0_payDuty_15 : decode cX0_payDuty 15 = .ok (.iload_n 2, 1) := by decide +kernel
theorem dX0_payDuty_16 : decode cX0_payDuty 16 = .ok (.aload_n 1, 1) := by decide +kernel
theorem dX0_payDuty_17 : decode cX0_payDuty 17 = .ok (.getfield 94, 3) := by decide +kernel
theorem dX0_payDuty_20 : decode cX0_payDuty 20 = .ok (.iload_n 2, 1) := by decide +kernel
theorem dX0_payDuty_21 : decode cX0_payDuty 21 = .ok (.aaload, 1) := by decide +kernel
theorem dX0_payDuty_22 : decode cX0_payDuty 22 = .ok (.invokestatic 178, 3) := by decide +kernel
theorem dX0_payDuty_25 : decode cX0_payDuty 25 = .ok (.iastore, 1) := by decide +kernel
theorem dX0_payDuty_26 : decode cX0_payDuty 26 = .ok (.iinc 2 1, 3) := by decide +kernel
theorem dX0_payDuty_29 : decode cX0_payDuty 29 = .ok (.goto (-27), 3) := by decide +kernel
theorem dX0_payDuty_32 : decode cX0_payDuty 32 = .ok (.aload_n 0, 1) := by decide +kernel
theorem dX0_payDuty_33 : decode cX0_payDuty 33 = .ok (.getfield 62, 3) := by decide +kernel
theorem dX0_payDuty_36 : decode cX0_payDuty 36 = .ok (.aload_n 1, 1) := by decide +kernel
theorem dX0_payDuty_37 : decode cX0_payDuty 37 = .ok (.getfield 123, 3) := by decide +kernel
theorem dX0_payDuty_40 : decode cX0_payDuty 40 = .ok (.aload_n 0, 1) := by decide +kernel
theorem dX0_payDuty_41 : decode cX0_payDuty 41 = .ok (.getfield 18, 3) := by decide +kernel
theorem dX0_payDuty_44 : decode cX0_payDuty 44 = .ok (.invokestatic 181, 3) := by decide +kernel
theorem dX0_payDuty_47 : decode cX0_payDuty 47 = .ok (.invokevirtual 185, 3) := by decide +kernel
theorem dX0_payDuty_50 : decode cX0_payDuty 50 = .ok (.iconst 0, 1) := by decide +kernel
theorem dX0_payDuty_51 : decode cX0_payDuty 51 = .ok (.istore_n 2, 1) := by decide +kernel
theorem dX0_payDuty_52 : decode cX0_payDuty 52 = .ok (.iload_n 2, 1) := by decide +kernel
theorem dX0_payDuty_53 : decode cX0_payDuty 53 = .ok (.bipush 6, 2) := by decide +kernel
theorem dX0_payDuty_55 : decode cX0_payDuty 55 = .ok (.if_icmp .ge 45, 3) := by decide +kernel
theorem dX0_payDuty_58 : decode cX0_payDuty 58 = .ok (.aload_n 0, 1) := by decide +kernel
theorem dX0_payDuty_59 : decode cX0_payDuty 59 = .ok (.getfield 38, 3) := by decide +kernel
theorem dX0_payDuty_62 : decode cX0_payDuty 62 = .ok (.iload_n 2, 1) := by decide +kernel
theorem dX0_payDuty_63 : decode cX0_payDuty 63 = .ok (.dup2, 1) := by decide +kernel
theorem dX0_payDuty_64 : decode cX0_payDuty 64 = .ok (.iaload, 1) := by decide +kernel
theorem dX0_payDuty_65 : decode cX0_payDuty 65 = .ok (.aload_n 0, 1) := by decide +kernel
theorem dX0_payDuty_66 : decode cX0_payDuty 66 = .ok (.getfield 62, 3) := by decide +kernel
theorem dX0_payDuty_69 : decode cX0_payDuty 69 = .ok (.getfield 149, 3) := by decide +kernel
theorem dX0_payDuty_72 : decode cX0_payDuty 72 = .ok (.iload_n 2, 1) := by decide +kernel
theorem dX0_payDuty_73 : decode cX0_payDuty 73 = .ok (.iaload, 1) := by decide +kernel
theorem dX0_payDuty_74 : decode cX0_payDuty 74 = .ok (.isub, 1) := by decide +kernel
theorem dX0_payDuty_75 : decode cX0_payDuty 75 = .ok (.iastore, 1) := by decide +kernel
theorem dX0_payDuty_76 : decode cX0_payDuty 76 = .ok (.aload_n 0, 1) := by decide +kernel
theorem dX0_payDuty_77 : decode cX0_payDuty 77 = .ok (.getfield 47, 3) := by decide +kernel
theorem dX0_payDuty_80 : decode cX0_payDuty 80 = .ok (.iload_n 2, 1) := by decide +kernel
theorem dX0_payDuty_81 : decode cX0_payDuty 81 = .ok (.dup2, 1) := by decide +kernel
theorem dX0_payDuty_82 : decode cX0_payDuty 82 = .ok (.iaload, 1) := by decide +kernel
theorem dX0_payDuty_83 : decode cX0_payDuty 83 = .ok (.aload_n 0, 1) := by decide +kernel
theorem dX0_payDuty_84 : decode cX0_payDuty 84 = .ok (.getfield 62, 3) := by decide +kernel
theorem dX0_payDuty_87 : decode cX0_payDuty 87 = .ok (.getfield 149, 3) := by decide +kernel
theorem dX0_payDuty_90 : decode cX0_payDuty 90 = .ok (.iload_n 2, 1) := by decide +kernel
theorem dX0_payDuty_91 : decode cX0_payDuty 91 = .ok (.iaload, 1) := by decide +kernel
theorem dX0_payDuty_92 : decode cX0_payDuty 92 = .ok (.iadd, 1) := by decide +kernel
theorem dX0_payDuty_93 : decode cX0_payDuty 93 = .ok (.iastore, 1) := by decide +kernel
theorem dX0_payDuty_94 : decode cX0_payDuty 94 = .ok (.iinc 2 1, 3) := by decide +kernel
theorem dX0_payDuty_97 : decode cX0_payDuty 97 = .ok (.goto (-45), 3) := by decide +kernel
theorem dX0_payDuty_100 : decode cX0_payDuty 100 = .ok (.return_, 1) := by decide +kernel
theorem dX0_fullPriceOf_0 : decode cX0_fullPriceOf 0 = .ok (.iconst 0, 1) := by decide +kernel
theorem dX0_fullPriceOf_1 : decode cX0_fullPriceOf 1 = .ok (.istore_n 1, 1) := by decide +kernel
theorem dX0_fullPriceOf_2 : decode cX0_fullPriceOf 2 = .ok (.iconst 0, 1) := by decide +kernel
theorem dX0_fullPriceOf_3 : decode cX0_fullPriceOf 3 = .ok (.istore_n 2, 1) := by decide +kernel
theorem dX0_fullPriceOf_4 : decode cX0_fullPriceOf 4 = .ok (.iload_n 2, 1) := by decide +kernel
theorem dX0_fullPriceOf_5 : decode cX0_fullPriceOf 5 = .ok (.aload_n 0, 1) := by decide +kernel
theorem dX0_fullPriceOf_6 : decode cX0_fullPriceOf 6 = .ok (.arraylength, 1) := by decide +kernel
theorem dX0_fullPriceOf_7 : decode cX0_fullPriceOf 7 = .ok (.if_icmp .ge 20, 3) := by decide +kernel
theorem dX0_fullPriceOf_10 : decode cX0_fullPriceOf 10 = .ok (.iload_n 1, 1) := by decide +kernel
theorem dX0_fullPriceOf_11 : decode cX0_fullPriceOf 11 = .ok (.aload_n 0, 1) := by decide +kernel
theorem dX0_fullPriceOf_12 : decode cX0_fullPriceOf 12 = .ok (.iload_n 2, 1) := by decide +kernel
theorem dX0_fullPriceOf_13 : decode cX0_fullPriceOf 13 = .ok (.iaload, 1) := by decide +kernel
theorem dX0_fullPriceOf_14 : decode cX0_fullPriceOf 14 = .ok (.iload_n 2, 1) := by decide +kernel
theorem dX0_fullPriceOf_15 : decode cX0_fullPriceOf 15 = .ok (.invokestatic 189, 3) := by decide +kernel
theorem dX0_fullPriceOf_18 : decode cX0_fullPriceOf 18 = .ok (.imul, 1) := by decide +kernel
theorem dX0_fullPriceOf_19 : decode cX0_fullPriceOf 19 = .ok (.iadd, 1) := by decide +kernel
theorem dX0_fullPriceOf_20 : decode cX0_fullPriceOf 20 = .ok (.istore_n 1, 1) := by decide +kernel
theorem dX0_fullPriceOf_21 : decode cX0_fullPriceOf 21 = .ok (.iinc 2 1, 3) := by decide +kernel
theorem dX0_fullPriceOf_24 : decode cX0_fullPriceOf 24 = .ok (.goto (-20), 3) := by decide +kernel
theorem dX0_fullPriceOf_27 : decode cX0_fullPriceOf 27 = .ok (.iload_n 1, 1) := by decide +kernel
theorem dX0_fullPriceOf_28 : decode cX0_fullPriceOf 28 = .ok (.ireturn, 1) := by decide +kernel
theorem dX0_unpack_0 : decode cX0_unpack 0 = .ok (.iconst 0, 1) := by decide +kernel
theorem dX0_unpack_1 : decode cX0_unpack 1 = .ok (.istore_n 2, 1) := by decide +kernel
theorem dX0_unpack_2 : decode cX0_unpack 2 = .ok (.iload_n 2, 1) := by decide +kernel
theorem dX0_unpack_3 : decode cX0_unpack 3 = .ok (.bipush 6, 2) := by decide +kernel
theorem dX0_unpack_5 : decode cX0_unpack 5 = .ok (.if_icmp .ge 77, 3) := by decide +kernel
theorem dX0_unpack_8 : decode cX0_unpack 8 = .ok (.iconst 0, 1) := by decide +kernel
theorem dX0_unpack_9 : decode cX0_unpack 9 = .ok (.istore_n 3, 1) := by decide +kernel
theorem dX0_unpack_10 : decode cX0_unpack 10 = .ok (.iload_n 3, 1) := by decide +kernel
theorem dX0_unpack_11 : decode cX0_unpack 11 = .ok (.bipush 8, 2) := by decide +kernel
theorem dX0_unpack_13 : decode cX0_unpack 13 = .ok (.if_icmp .ge 63, 3) := by decide +kernel
theorem dX0_unpack_16 : decode cX0_unpack 16 = .ok (.aload_n 0, 1) := by decide +kernel
theorem dX0_unpack_17 : decode cX0_unpack 17 = .ok (.getfield 32, 3) := by decide +kernel
theorem dX0_unpack_20 : decode cX0_unpack 20 = .ok (.iload_n 2, 1) := by decide +kernel
theorem dX0_unpack_21 : decode cX0_unpack 21 = .ok (.aaload, 1) := by decide +kernel
theorem dX0_unpack_22 : decode cX0_unpack 22 = .ok (.iload_n 3, 1) := by decide +kernel
theorem dX0_unpack_23 : decode cX0_unpack 23 = .ok (.iaload, 1) := by decide +kernel
theorem dX0_unpack_24 : decode cX0_unpack 24 = .ok (.aload_n 1, 1) := by decide +kernel
theorem dX0_unpack_25 : decode cX0_unpack 25 = .ok (.getfield 94, 3) := by decide +kernel
theorem dX0_unpack_28 : decode cX0_unpack 28 = .ok (.iload_n 2, 1) := by decide +kernel
theorem dX0_unpack_29 : decode cX0_unpack 29 = .ok (.aaload, 1) := by decide +kernel
theorem dX0_unpack_30 : decode cX0_unpack 30 = .ok (.iload_n 3, 1) := by decide +kernel
theorem dX0_unpack_31 : decode cX0_unpack 31 = .ok (.iaload, 1) := by decide +kernel
theorem dX0_unpack_32 : decode cX0_unpack 32 = .ok (.iadd, 1) := by decide +kernel
theorem dX0_unpack_33 : decode cX0_unpack 33 = .ok (.istore 4, 2) := by decide +kernel
theorem dX0_unpack_35 : decode cX0_unpack 35 = .ok (.aload_n 0, 1) := by decide +kernel
theorem dX0_unpack_36 : decode cX0_unpack 36 = .ok (.getfield 32, 3) := by decide +kernel
theorem dX0_unpack_39 : decode cX0_unpack 39 = .ok (.iload_n 2, 1) := by decide +kernel
theorem dX0_unpack_40 : decode cX0_unpack 40 = .ok (.aaload, 1) := by decide +kernel
theorem dX0_unpack_41 : decode cX0_unpack 41 = .ok (.iload_n 3, 1) := by decide +kernel
theorem dX0_unpack_42 : decode cX0_unpack 42 = .ok (.iload 4, 2) := by decide +kernel
theorem dX0_unpack_44 : decode cX0_unpack 44 = .ok (.bipush 99, 2) := by decide +kernel
theorem dX0_unpack_46 : decode cX0_unpack 46 = .ok (.invokestatic 108, 3) := by decide +kernel
theorem dX0_unpack_49 : decode cX0_unpack 49 = .ok (.iastore, 1) := by decide +kernel
theorem dX0_unpack_50 : decode cX0_unpack 50 = .ok (.aload_n 0, 1) := by decide +kernel
theorem dX0_unpack_51 : decode cX0_unpack 51 = .ok (.getfield 50, 3) := by decide +kernel
theorem dX0_unpack_54 : decode cX0_unpack 54 = .ok (.iload_n 2, 1) := by decide +kernel
theorem dX0_unpack_55 : decode cX0_unpack 55 = .ok (.dup2, 1) := by decide +kernel
theorem dX0_unpack_56 : decode cX0_unpack 56 = .ok (.iaload, 1) := by decide +kernel
theorem dX0_unpack_57 : decode cX0_unpack 57 = .ok (.iload 4, 2) := by decide +kernel
theorem dX0_unpack_59 : decode cX0_unpack 59 = .ok (.aload_n 0, 1) := by decide +kernel
theorem dX0_unpack_60 : decode cX0_unpack 60 = .ok (.getfield 32, 3) := by decide +kernel
theorem dX0_unpack_63 : decode cX0_unpack 63 = .ok (.iload_n 2, 1) := by decide +kernel
theorem dX0_unpack_64 : decode cX0_unpack 64 = .ok (.aaload, 1) := by decide +kernel
theorem dX0_unpack_65 : decode cX0_unpack 65 = .ok (.iload_n 3, 1) := by decide +kernel
theorem dX0_unpack_66 : decode cX0_unpack 66 = .ok (.iaload, 1) := by decide +kernel
theorem dX0_unpack_67 : decode cX0_unpack 67 = .ok (.isub, 1) := by decide +kernel
theorem dX0_unpack_68 : decode cX0_unpack 68 = .ok (.iadd, 1) := by decide +kernel
theorem dX0_unpack_69 : decode cX0_unpack 69 = .ok (.iastore, 1) := by decide +kernel
theorem dX0_unpack_70 : decode cX0_unpack 70 = .ok (.iinc 3 1, 3) := by decide +kernel
theorem dX0_unpack_73 : decode cX0_unpack 73 = .ok (.goto (-63), 3) := by decide +kernel
theorem dX0_unpack_76 : decode cX0_unpack 76 = .ok (.iinc 2 1, 3) := by decide +kernel
theorem dX0_unpack_79 : decode cX0_unpack 79 = .ok (.goto (-77), 3) := by decide +kernel
theorem dX0_unpack_82 : decode cX0_unpack 82 = .ok (.return_, 1) := by decide +kernel
theorem dX0_draw_0 : decode cX0_draw 0 = .ok (.aload_n 0, 1) := by decide +kernel
theorem dX0_draw_1 : decode cX0_draw 1 = .ok (.aload_n 0, 1) := by decide +kernel
theorem dX0_draw_2 : decode cX0_draw 2 = .ok (.getfield 23, 3) := by decide +kernel
theorem dX0_draw_5 : decode cX0_draw 5 = .ok (.i2l, 1) := by decide +kernel
theorem dX0_draw_6 : decode cX0_draw 6 = .ok (.ldc2_w 192, 3) := by decide +kernel
theorem dX0_draw_9 : decode cX0_draw 9 = .ok (.lmul, 1) := by decide +kernel
theorem dX0_draw_10 : decode cX0_draw 10 = .ok (.ldc2_w 194, 3) := by decide +kernel
theorem dX0_draw_13 : decode cX0_draw 13 = .ok (.ladd, 1) := by decide +kernel
theorem dX0_draw_14 : decode cX0_draw 14 = .ok (.ldc2_w 196, 3) := by decide +kernel
theorem dX0_draw_17 : decode cX0_draw 17 = .ok (.lrem, 1) := by decide +kernel
theorem dX0_draw_18 : decode cX0_draw 18 = .ok (.l2i, 1) := by decide +kernel
theorem dX0_draw_19 : decode cX0_draw 19 = .ok (.putfield 23, 3) := by decide +kernel
theorem dX0_draw_22 : decode cX0_draw 22 = .ok (.iload_n 1, 1) := by decide +kernel
theorem dX0_draw_23 : decode cX0_draw 23 = .ok (.ifCond .gt 7, 3) := by decide +kernel
theorem dX0_draw_26 : decode cX0_draw 26 = .ok (.iconst 0, 1) := by decide +kernel
theorem dX0_draw_27 : decode cX0_draw 27 = .ok (.goto 12, 3) := by decide +kernel
theorem dX0_draw_30 : decode cX0_draw 30 = .ok (.aload_n 0, 1) := by decide +kernel
theorem dX0_draw_31 : decode cX0_draw 31 = .ok (.getfield 23, 3) := by decide +kernel
theorem dX0_draw_34 : decode cX0_draw 34 = .ok (.ldc 198, 2) := by decide +kernel
theorem dX0_draw_36 : decode cX0_draw 36 = .ok (.idiv, 1) := by decide +kernel
theorem dX0_draw_37 : decode cX0_draw 37 = .ok (.iload_n 1, 1) := by decide +kernel
theorem dX0_draw_38 : decode cX0_draw 38 = .ok (.irem, 1) := by decide +kernel
theorem dX0_draw_39 : decode cX0_draw 39 = .ok (.ireturn, 1) := by decide +kernel
theorem dX1_init_0 : decode cX1_init 0 = .ok (.aload_n 0, 1) := by decide +kernel
theorem dX1_init_1 : decode cX1_init 1 = .ok (.invokespecial 3, 3) := by decide +kernel
theorem dX1_init_4 : decode cX1_init 4 = .ok (.aload_n 0, 1) := by decide +kernel
theorem dX1_init_5 : decode cX1_init 5 = .ok (.bipush 8, 2) := by decide +kernel
theorem dX1_init_7 : decode cX1_init 7 = .ok (.newarray .int, 2) := by decide +kernel
theorem dX1_init_9 : decode cX1_init 9 = .ok (.putfield 9, 3) := by decide +kernel
theorem dX1_init_12 : decode cX1_init 12 = .ok (.aload_n 0, 1) := by decide +kernel
theorem dX1_init_13 : decode cX1_init 13 = .ok (.bipush 8, 2) := by decide +kernel
theorem dX1_init_15 : decode cX1_init 15 = .ok (.newarray .int, 2) := by decide +kernel
theorem dX1_init_17 : decode cX1_init 17 = .ok (.putfield 15, 3) := by decide +kernel
theorem dX1_init_20 : decode cX1_init 20 = .ok (.aload_n 0, 1) := by decide +kernel
theorem dX1_init_21 : decode cX1_init 21 = .ok (.new 18, 3) := by decide +kernel
theorem dX1_init_24 : decode cX1_init 24 = .ok (.dup, 1) := by decide +kernel
theorem dX1_init_25 : decode cX1_init 25 = .ok (.invokespecial 20, 3) := by decide +kernel
theorem dX1_init_28 : decode cX1_init 28 = .ok (.putfield 21, 3) := by decide +kernel
theorem dX1_init_31 : decode cX1_init 31 = .ok (.return_, 1) := by decide +kernel
theorem dX1_gather_0 : decode cX1_gather 0 = .ok (.aload_n 0, 1) := by decide +kernel
theorem dX1_gather_1 : decode cX1_gather 1 = .ok (.getfield 9, 3) := by decide +kernel
theorem dX1_gather_4 : decode cX1_gather 4 = .ok (.iconst 0, 1) := by decide +kernel
theorem dX1_gather_5 : decode cX1_gather 5 = .ok (.invokestatic 25, 3) := by decide +kernel
theorem dX1_gather_8 : decode cX1_gather 8 = .ok (.iconst 0, 1) := by decide +kernel
theorem dX1_gather_9 : decode cX1_gather 9 = .ok (.istore_n 3, 1) := by decide +kernel
theorem dX1_gather_10 : decode cX1_gather 10 = .ok (.iload_n 3, 1) := by decide +kernel
theorem dX1_gather_11 : decode cX1_gather 11 = .ok (.bipush 6, 2) := by decide +kernel
theorem dX1_gather_13 : decode cX1_gather 13 = .ok (.if_icmp .ge 27, 3) := by decide +kernel
theorem dX1_gather_16 : decode cX1_gather 16 = .ok (.iload_n 2, 1) := by decide +kernel
theorem dX1_gather_17 : decode cX1_gather 17 = .ok (.iload_n 3, 1) := by decide +kernel
theorem dX1_gather_18 : decode cX1_gather 18 = .ok (.invokestatic 31, 3) := by decide +kernel
theorem dX1_gather_21 : decode cX1_gather 21 = .ok (.ifCond .eq 13, 3) := by decide +kernel
theorem dX1_gather_24 : decode cX1_gather 24 = .ok (.aload_n 0, 1) := by decide +kernel
theorem dX1_gather_25 : decode cX1_gather 25 = .ok (.aload_n 1, 1) := by decide +kernel
theorem dX1_gather_26 : decode cX1_gather 26 = .ok (.getfield 35, 3) := by decide +kernel
theorem dX1_gather_29 : decode cX1_gather 29 = .ok (.iload_n 3, 1) := by decide +kernel
theorem dX1_gather_30 : decode cX1_gather 30 = .ok (.aaload, 1) := by decide +kernel
theorem dX1_gather_31 : decode cX1_gather 31 = .ok (.invokevirtual 41, 3) := by decide +kernel
theorem dX1_gather_34 : decode cX1_gather 34 = .ok (.iinc 3 1, 3) := by decide +kernel
theorem dX1_gather_37 : decode cX1_gather 37 = .ok (.goto (-27), 3) := by decide +kernel
theorem dX1_gather_40 : decode cX1_gather 40 = .ok (.aload_n 0, 1) := by decide +kernel
theorem dX1_gather_41 : decode cX1_gather 41 = .ok (.aload_n 1, 1) := by decide +kernel
theorem dX1_gather_42 : decode cX1_gather 42 = .ok (.getfield 45, 3) := by decide +kernel
theorem dX1_gather_45 : decode cX1_gather 45 = .ok (.invokevirtual 48, 3) := by decide +kernel
theorem dX1_gather_48 : decode cX1_gather 48 = .ok (.return_, 1) := by decide +kernel
theorem dX1_addRow_0 : decode cX1_addRow 0 = .ok (.iconst 0, 1) := by decide +kernel
theorem dX1_addRow_1 : decode cX1_addRow 1 = .ok (.istore_n 2, 1) := by decide +kernel
theorem dX1_addRow_2 : decode cX1_addRow 2 = .ok (.iload_n 2, 1) := by decide +kernel
theorem dX1_addRow_3 : decode cX1_addRow 3 = .ok (.bipush 8, 2) := by decide +kernel
theorem dX1_addRow_5 : decode cX1_addRow 5 = .ok (.if_icmp .ge 21, 3) := by decide +kernel
theorem dX1_addRow_8 : decode cX1_addRow 8 = .ok (.aload_n 0, 1) := by decide +kernel
theorem dX1_addRow_9 : decode cX1_addRow 9 = .ok (.getfield 9, 3) := by decide +kernel
theorem dX1_addRow_12 : decode cX1_addRow 12 = .ok (.iload_n 2, 1) := by decide +kernel
theorem dX1_addRow_13 : decode cX1_addRow 13 = .ok (.dup2, 1) := by decide +kernel
theorem dX1_addRow_14 : decode cX1_addRow 14 = .ok (.iaload, 1) := by decide +kernel
theorem dX1_addRow_15 : decode cX1_addRow 15 = .ok (.aload_n 1, 1) := by decide +kernel
theorem dX1_addRow_16 : decode cX1_addRow 16 = .ok (.iload_n 2, 1) := by decide +kernel
theorem dX1_addRow_17 : decode cX1_addRow 17 = .ok (.iaload, 1) := by decide +kernel
theorem dX1_addRow_18 : decode cX1_addRow 18 = .ok (.iadd, 1) := by decide +kernel
theorem dX1_addRow_19 : decode cX1_addRow 19 = .ok (.iastore, 1) := by decide +kernel
theorem dX1_addRow_20 : decode cX1_addRow 20 = .ok (.iinc 2 1, 3) := by decide +kernel
theorem dX1_addRow_23 : decode cX1_addRow 23 = .ok (.goto (-21), 3) := by decide +kernel
theorem dX1_addRow_26 : decode cX1_addRow 26 = .ok (.return_, 1) := by decide +kernel
theorem dX1_reckon_0 : decode cX1_reckon 0 = .ok (.aload_n 0, 1) := by decide +kernel
theorem dX1_reckon_1 : decode cX1_reckon 1 = .ok (.iconst 0, 1) := by decide +kernel
theorem dX1_reckon_2 : decode cX1_reckon 2 = .ok (.putfield 51, 3) := by decide +kernel
theorem dX1_reckon_5 : decode cX1_reckon 5 = .ok (.aload_n 0, 1) := by decide +kernel
theorem dX1_reckon_6 : decode cX1_reckon 6 = .ok (.iconst 0, 1) := by decide +kernel
theorem dX1_reckon_7 : decode cX1_reckon 7 = .ok (.putfield 55, 3) := by decide +kernel
theorem dX1_reckon_10 : decode cX1_reckon 10 = .ok (.iconst 0, 1) := by decide +kernel
theorem dX1_reckon_11 : decode cX1_reckon 11 = .ok (.istore_n 2, 1) := by decide +kernel
theorem dX1_reckon_12 : decode cX1_reckon 12 = .ok (.iconst 0, 1) := by decide +kernel
theorem dX1_reckon_13 : decode cX1_reckon 13 = .ok (.istore_n 3, 1) := by decide +kernel
theorem dX1_reckon_14 : decode cX1_reckon 14 = .ok (.iload_n 3, 1) := by decide +kernel
theorem dX1_reckon_15 : decode cX1_reckon 15 = .ok (.bipush 8, 2) := by decide +kernel
theorem dX1_reckon_17 : decode cX1_reckon 17 = .ok (.if_icmp .ge 96, 3) := by decide +kernel
theorem dX1_reckon_20 : decode cX1_reckon 20 = .ok (.iload_n 3, 1) := by decide +kernel
theorem dX1_reckon_21 : decode cX1_reckon 21 = .ok (.invokestatic 58, 3) := by decide +kernel
theorem dX1_reckon_24 : decode cX1_reckon 24 = .ok (.istore 4, 2) := by decide +kernel
theorem dX1_reckon_26 : decode cX1_reckon 26 = .ok (.aload_n 0, 1) := by decide +kernel
theorem dX1_reckon_27 : decode cX1_reckon 27 = .ok (.getfield 15, 3) := by decide +kernel
theorem dX1_reckon_30 : decode cX1_reckon 30 = .ok (.iload_n 3, 1) := by decide +kernel
theorem dX1_reckon_31 : decode cX1_reckon 31 = .ok (.aload_n 0, 1) := by decide +kernel
theorem dX1_reckon_32 : decode cX1_reckon 32 = .ok (.getfield 9, 3) := by decide +kernel
theorem dX1_reckon_35 : decode cX1_reckon 35 = .ok (.iload_n 3, 1) := by decide +kernel
theorem dX1_reckon_36 : decode cX1_reckon 36 = .ok (.iaload, 1) := by decide +kernel
theorem dX1_reckon_37 : decode cX1_reckon 37 = .ok (.aload_n 1, 1) := by decide +kernel
theorem dX1_reckon_38 : decode cX1_reckon 38 = .ok (.iconst 0, 1) := by decide +kernel
theorem dX1_reckon_39 : decode cX1_reckon 39 = .ok (.iaload, 1) := by decide +kernel
theorem dX1_reckon_40 : decode cX1_reckon 40 = .ok (.if_icmp .lt 13, 3) := by decide +kernel
theorem dX1_reckon_43 : decode cX1_reckon 43 = .ok (.iload 4, 2) := by decide +kernel
theorem dX1_reckon_45 : decode cX1_reckon 45 = .ok (.iload 4, 2) := by decide +kernel
theorem dX1_reckon_47 : decode cX1_reckon 47 = .ok (.iconst 5, 1) := by decide +kernel
theorem dX1_reckon_48 : decode cX1_reckon 48 = .ok (.idiv, 1) := by decide +kernel
theorem dX1_reckon_49 : decode cX1_reckon 49 = .ok (.isub, 1) := by decide +kernel
theorem dX1_reckon_50 : decode cX1_reckon 50 = .ok (.goto 5, 3) := by decide +kernel
theorem dX1_reckon_53 : decode cX1_reckon 53 = .ok (.iload 4, 2) := by decide +kernel
theorem dX1_reckon_55 : decode cX1_reckon 55 = .ok (.iastore, 1) := by decide +kernel
theorem dX1_reckon_56 : decode cX1_reckon 56 = .ok (.aload_n 0, 1) := by decide +kernel
theorem dX1_reckon_57 : decode cX1_reckon 57 = .ok (.dup, 1) := by decide +kernel
theorem dX1_reckon_58 : decode cX1_reckon 58 = .ok (.getfield 51, 3) := by decide +kernel
theorem dX1_reckon_61 : decode cX1_reckon 61 = .ok (.aload_n 0, 1) := by decide +kernel
theorem dX1_reckon_62 : decode cX1_reckon 62 = .ok (.getfield 9, 3) := by decide +kernel
theorem dX1_reckon_65 : decode cX1_reckon 65 = .ok (.iload_n 3, 1) := by decide +kernel
theorem dX1_reckon_66 : decode cX1_reckon 66 = .ok (.iaload, 1) := by decide +kernel
theorem dX1_reckon_67 : decode cX1_reckon 67 = .ok (.iadd, 1) := by decide +kernel
theorem dX1_reckon_68 : decode cX1_reckon 68 = .ok (.putfield 51, 3) := by decide +kernel
theorem dX1_reckon_71 : decode cX1_reckon 71 = .ok (.aload_n 0, 1) := by decide +kernel
theorem dX1_reckon_72 : decode cX1_reckon 72 = .ok (.dup, 1) := by decide +kernel
theorem dX1_reckon_73 : decode cX1_reckon 73 = .ok (.getfield 55, 3) := by decide +kernel
theorem dX1_reckon_76 : decode cX1_reckon 76 = .ok (.aload_n 0, 1) := by decide +kernel
theorem dX1_reckon_77 : decode cX1_reckon 77 = .ok (.getfield 9, 3) := by decide +kernel
theorem dX1_reckon_80 : decode cX1_reckon 80 = .ok (.iload_n 3, 1) := by decide +kernel
theorem dX1_reckon_81 : decode cX1_reckon 81 = .ok (.iaload, 1) := by decide +kernel
theorem dX1_reckon_82 : decode cX1_reckon 82 = .ok (.aload_n 0, 1) := by decide +kernel
theorem dX1_reckon_83 : decode cX1_reckon 83 = .ok (.getfield 15, 3) := by decide +kernel
theorem dX1_reckon_86 : decode cX1_reckon 86 = .ok (.iload_n 3, 1) := by decide +kernel
theorem dX1_reckon_87 : decode cX1_reckon 87 = .ok (.iaload, 1) := by decide +kernel
theorem dX1_reckon_88 : decode cX1_reckon 88 = .ok (.imul, 1) := by decide +kernel
theorem dX1_reckon_89 : decode cX1_reckon 89 = .ok (.iadd, 1) := by decide +kernel
theorem dX1_reckon_90 : decode cX1_reckon 90 = .ok (.putfield 55, 3) := by decide +kernel
theorem dX1_reckon_93 : decode cX1_reckon 93 = .ok (.iload_n 2, 1) := by decide +kernel
theorem dX1_reckon_94 : decode cX1_reckon 94 = .ok (.aload_n 0, 1) := by decide +kernel
theorem dX1_reckon_95 : decode cX1_reckon 95 = .ok (.getfield 9, 3) := by decide +kernel
theorem dX1_reckon_98 : decode cX1_reckon 98 = .ok (.iload_n 3, 1) := by decide +kernel
theorem dX1_reckon_99 : decode cX1_reckon 99 = .ok (.iaload, 1) := by decide +kernel
theorem dX1_reckon_100 : decode cX1_reckon 100 = .ok (.iload_n 3, 1) := by decide +kernel
theorem dX1_reckon_101 : decode cX1_reckon 101 = .ok (.invokestatic 62, 3) := by decide +kernel
theorem dX1_reckon_104 : decode cX1_reckon 104 = .ok (.imul, 1) := by decide +kernel
theorem dX1_reckon_105 : decode cX1_reckon 105 = .ok (.iadd, 1) := by decide +kernel
theorem dX1_reckon_106 : decode cX1_reckon 106 = .ok (.istore_n 2, 1) := by decide +kernel
theorem dX1_reckon_107 : decode cX1_reckon 107 = .ok (.iinc 3 1, 3) := by decide +kernel
theorem dX1_reckon_110 : decode cX1_reckon 110 = .ok (.goto (-96), 3) := by decide +kernel
theorem dX1_reckon_113 : decode cX1_reckon 113 = .ok (.aload_n 0, 1) := by decide +kernel
theorem dX1_reckon_114 : decode cX1_reckon 114 = .ok (.aload_n 0, 1) := by decide +kernel
theorem dX1_reckon_115 : decode cX1_reckon 115 = .ok (.getfield 51, 3) := by decide +kernel
theorem dX1_reckon_118 : decode cX1_reckon 118 = .ok (.ifCond .ne 7, 3) := by decide +kernel
theorem dX1_reckon_121 : decode cX1_reckon 121 = .ok (.iconst 0, 1) := by decide +kernel
theorem dX1_reckon_122 : decode cX1_reckon 122 = .ok (.goto 12, 3) := by decide +kernel
theorem dX1_reckon_125 : decode cX1_reckon 125 = .ok (.aload_n 1, 1) := by decide +kernel
theorem dX1_reckon_126 : decode cX1_reckon 126 = .ok (.iconst 1, 1) := by decide +kernel
theorem dX1_reckon_127 : decode cX1_reckon 127 = .ok (.iaload, 1) := by decide +kernel
theorem dX1_reckon_128 : decode cX1_reckon 128 = .ok (.aload_n 1, 1) := by decide +kernel
theorem dX1_reckon_129 : decode cX1_reckon 129 = .ok (.iconst 2, 1) := by decide +kernel
theorem dX1_reckon_130 : decode cX1_reckon 130 = .ok (.iaload, 1) := by decide +kernel
theorem dX1_reckon_131 : decode cX1_reckon 131 = .ok (.iload_n 2, 1) := by decide +kernel
theorem dX1_reckon_132 : decode cX1_reckon 132 = .ok (.imul, 1) := by decide +kernel
theorem dX1_reckon_133 : decode cX1_reckon 133 = .ok (.iadd, 1) := by decide +kernel
theorem dX1_reckon_134 : decode cX1_reckon 134 = .ok (.putfield 65, 3) := by decide +kernel
theorem dX1_reckon_137 : decode cX1_reckon 137 = .ok (.return_, 1) := by decide +kernel
theorem dX1_cost_0 : decode cX1_cost 0 = .ok (.aload_n 0, 1) := by decide +kernel
theorem dX1_cost_1 : decode cX1_cost 1 = .ok (.getfield 55, 3) := by decide +kernel
theorem dX1_cost_4 : decode cX1_cost 4 = .ok (.aload_n 0, 1) := by decide +kernel
theorem dX1_cost_5 : decode cX1_cost 5 = .ok (.getfield 65, 3) := by decide +kernel
theorem dX1_cost_8 : decode cX1_cost 8 = .ok (.iadd, 1) := by decide +kernel
theorem dX1_cost_9 : decode cX1_cost 9 = .ok (.ireturn, 1) := by decide +kernel
theorem dX1_ownCost_0 : decode cX1_ownCost 0 = .ok (.iconst 0, 1) := by decide +kernel
theorem dX1_ownCost_1 : decode cX1_ownCost 1 = .ok (.istore_n 2, 1) := by decide +kernel
theorem dX1_ownCost_2 : decode cX1_ownCost 2 = .ok (.iconst 0, 1) := by decide +kernel
theorem dX1_ownCost_3 : decode cX1_ownCost 3 = .ok (.istore_n 3, 1) := by decide +kernel
theorem dX1_ownCost_4 : decode cX1_ownCost 4 = .ok (.iload_n 3, 1) := by decide +kernel
theorem dX1_ownCost_5 : decode cX1_ownCost 5 = .ok (.bipush 8, 2) := by decide +kernel
theorem dX1_ownCost_7 : decode cX1_ownCost 7 = .ok (.if_icmp .ge 22, 3) := by decide +kernel
theorem dX1_ownCost_10 : decode cX1_ownCost 10 = .ok (.iload_n 2, 1) := by decide +kernel
theorem dX1_ownCost_11 : decode cX1_ownCost 11 = .ok (.aload_n 1, 1) := by decide +kernel
theorem dX1_ownCost_12 : decode cX1_ownCost 12 = .ok (.iload_n 3, 1) := by decide +kernel
theorem dX1_ownCost_13 : decode cX1_ownCost 13 = .ok (.iaload, 1) := by decide +kernel
theorem dX1_ownCost_14 : decode cX1_ownCost 14 = .ok (.aload_n 0, 1) := by decide +kernel
theorem dX1_ownCost_15 : decode cX1_ownCost 15 = .ok (.getfield 15, 3) := by decide +kernel
theorem dX1_ownCost_18 : decode cX1_ownCost 18 = .ok (.iload_n 3, 1) := by decide +kernel
theorem dX1_ownCost_19 : decode cX1_ownCost 19 = .ok (.iaload, 1) := by decide +kernel
theorem dX1_ownCost_20 : decode cX1_ownCost 20 = .ok (.imul, 1) := by decide +kernel
theorem dX1_ownCost_21 : decode cX1_ownCost 21 = .ok (.iadd, 1) := by decide +kernel
theorem dX1_ownCost_22 : decode cX1_ownCost 22 = .ok (.istore_n 2, 1) := by decide +kernel
theorem dX1_ownCost_23 : decode cX1_ownCost 23 = .ok (.iinc 3 1, 3) := by decide +kernel
theorem dX1_ownCost_26 : decode cX1_ownCost 26 = .ok (.goto (-22), 3) := by decide +kernel
theorem dX1_ownCost_29 : decode cX1_ownCost 29 = .ok (.iload_n 2, 1) := by decide +kernel
theorem dX1_ownCost_30 : decode cX1_ownCost 30 = .ok (.ireturn, 1) := by decide +kernel
theorem dX1_sharePost_0 : decode cX1_sharePost 0 = .ok (.iconst 0, 1) := by decide +kernel
theorem dX1_sharePost_1 : decode cX1_sharePost 1 = .ok (.istore_n 3, 1) := by decide +kernel
theorem dX1_sharePost_2 : decode cX1_sharePost 2 = .ok (.iload_n 3, 1) := by decide +kernel
theorem dX1_sharePost_3 : decode cX1_sharePost 3 = .ok (.bipush 6, 2) := by decide +kernel
theorem dX1_sharePost_5 : decode cX1_sharePost 5 = .ok (.if_icmp .ge 39, 3) := by decide +kernel
theorem dX1_sharePost_8 : decode cX1_sharePost 8 = .ok (.aload_n 0, 1) := by decide +kernel
theorem dX1_sharePost_9 : decode cX1_sharePost 9 = .ok (.getfield 21, 3) := by decide +kernel
theorem dX1_sharePost_12 : decode cX1_sharePost 12 = .ok (.getfield 68, 3) := by decide +kernel
theorem dX1_sharePost_15 : decode cX1_sharePost 15 = .ok (.iload_n 3, 1) := by decide +kernel
theorem dX1_sharePost_16 : decode cX1_sharePost 16 = .ok (.iload_n 2, 1) := by decide +kernel
theorem dX1_sharePost_17 : decode cX1_sharePost 17 = .ok (.iload_n 3, 1) := by decide +kernel
theorem dX1_sharePost_18 : decode cX1_sharePost 18 = .ok (.invokestatic 31, 3) := by decide +kernel
theorem dX1_sharePost_21 : decode cX1_sharePost 21 = .ok (.ifCond .eq 15, 3) := by decide +kernel
theorem dX1_sharePost_24 : decode cX1_sharePost 24 = .ok (.aload_n 1, 1) := by decide +kernel
theorem dX1_sharePost_25 : decode cX1_sharePost 25 = .ok (.getfield 35, 3) := by decide +kernel
theorem dX1_sharePost_28 : decode cX1_sharePost 28 = .ok (.iload_n 3, 1) := by decide +kernel
theorem dX1_sharePost_29 : decode cX1_sharePost 29 = .ok (.aaload, 1) := by decide +kernel
theorem dX1_sharePost_30 : decode cX1_sharePost 30 = .ok (.invokestatic 71, 3) := by decide +kernel
theorem dX1_sharePost_33 : decode cX1_sharePost 33 = .ok (.goto 4, 3) := by decide +kernel
theorem dX1_sharePost_36 : decode cX1_sharePost 36 = .ok (.iconst 0, 1) := by decide +kernel
theorem dX1_sharePost_37 : decode cX1_sharePost 37 = .ok (.iastore, 1) := by decide +kernel
theorem dX1_sharePost_38 : decode cX1_sharePost 38 = .ok (.iinc 3 1, 3) := by decide +kernel
theorem dX1_sharePost_41 : decode cX1_sharePost 41 = .ok (.goto (-39), 3) := by decide +kernel
theorem dX1_sharePost_44 : decode cX1_sharePost 44 = .ok (.aload_n 0, 1) := by decide +kernel
theorem dX1_sharePost_45 : decode cX1_sharePost 45 = .ok (.getfield 21, 3) := by decide +kernel
theorem dX1_sharePost_48 : decode cX1_sharePost 48 = .ok (.aload_n 0, 1) := by decide +kernel
theorem dX1_sharePost_49 : decode cX1_sharePost 49 = .ok (.getfield 65, 3) := by decide +kernel
theorem dX1_sharePost_52 : decode cX1_sharePost 52 = .ok (.invokevirtual 75, 3) := by decide +kernel
theorem dX1_sharePost_55 : decode cX1_sharePost 55 = .ok (.return_, 1) := by decide +kernel
theorem dX1_weightOfAll_0 : decode cX1_weightOfAll 0 = .ok (.iconst 0, 1) := by decide +kernel
theorem dX1_weightOfAll_1 : decode cX1_weightOfAll 1 = .ok (.istore_n 1, 1) := by decide +kernel
theorem dX1_weightOfAll_2 : decode cX1_weightOfAll 2 = .ok (.iconst 0, 1) := by decide +kernel
theorem dX1_weightOfAll_3 : decode cX1_weightOfAll 3 = .ok (.istore_n 2, 1) := by decide +kernel
theorem dX1_weightOfAll_4 : decode cX1_weightOfAll 4 = .ok (.iload_n 2, 1) := by decide +kernel
theorem dX1_weightOfAll_5 : decode cX1_weightOfAll 5 = .ok (.bipush 8, 2) := by decide +kernel
theorem dX1_weightOfAll_7 : decode cX1_weightOfAll 7 = .ok (.if_icmp .ge 20, 3) := by decide +kernel
theorem dX1_weightOfAll_10 : decode cX1_weightOfAll 10 = .ok (.iload_n 1, 1) := by decide +kernel
theorem dX1_weightOfAll_11 : decode cX1_weightOfAll 11 = .ok (.aload_n 0, 1) := by decide +kernel
theorem dX1_weightOfAll_12 : decode cX1_weightOfAll 12 = .ok (.iload_n 2, 1) := by decide +kernel
theorem dX1_weightOfAll_13 : decode cX1_weightOfAll 13 = .ok (.iaload, 1) := by decide +kernel
theorem dX1_weightOfAll_14 : decode cX1_weightOfAll 14 = .ok (.iload_n 2, 1) := by decide +kernel
theorem dX1_weightOfAll_15 : decode cX1_weightOfAll 15 = .ok (.invokestatic 62, 3) := by decide +kernel
theorem dX1_weightOfAll_18 : decode cX1_weightOfAll 18 = .ok (.imul, 1) := by decide +kernel
theorem dX1_weightOfAll_19 : decode cX1_weightOfAll 19 = .ok (.iadd, 1) := by decide +kernel
theorem dX1_weightOfAll_20 : decode cX1_weightOfAll 20 = .ok (.istore_n 1, 1) := by decide +kernel
theorem dX1_weightOfAll_21 : decode cX1_weightOfAll 21 = .ok (.iinc 2 1, 3) := by decide +kernel
theorem dX1_weightOfAll_24 : decode cX1_weightOfAll 24 = .ok (.goto (-20), 3) := by decide +kernel
theorem dX1_weightOfAll_27 : decode cX1_weightOfAll 27 = .ok (.iload_n 1, 1) := by decide +kernel
theorem dX1_weightOfAll_28 : decode cX1_weightOfAll 28 = .ok (.ireturn, 1) := by decide +kernel
theorem dX2_init_0 : decode cX2_init 0 = .ok (.aload_n 0, 1) := by decide +kernel
theorem dX2_init_1 : decode cX2_init 1 = .ok (.invokespecial 3, 3) := by decide +kernel
theorem dX2_init_4 : decode cX2_init 4 = .ok (.aload_n 0, 1) := by decide +kernel
theorem dX2_init_5 : decode cX2_init 5 = .ok (.bipush 60, 2) := by decide +kernel
theorem dX2_init_7 : decode cX2_init 7 = .ok (.newarray .char, 2) := by decide +kernel
theorem dX2_init_9 : decode cX2_init 9 = .ok (.putfield 11, 3) := by decide +kernel
theorem dX2_init_12 : decode cX2_init 12 = .ok (.return_, 1) := by decide +kernel
theorem dX3_init_0 : decode cX3_init 0 = .ok (.aload_n 0, 1) := by decide +kernel
theorem dX3_init_1 : decode cX3_init 1 = .ok (.invokespecial 3, 3) := by decide +kernel
theorem dX3_init_4 : decode cX3_init 4 = .ok (.aload_n 0, 1) := by decide +kernel
theorem dX3_init_5 : decode cX3_init 5 = .ok (.bipush 6, 2) := by decide +kernel
theorem dX3_init_7 : decode cX3_init 7 = .ok (.bipush 8, 2) := by decide +kernel
theorem dX3_init_9 : decode cX3_init 9 = .ok (.multianewarray 9 2, 4) := by decide +kernel
theorem dX3_init_13 : decode cX3_init 13 = .ok (.putfield 11, 3) := by decide +kernel
theorem dX3_init_16 : decode cX3_init 16 = .ok (.return_, 1) := by decide +kernel
theorem dX3_copyFrom_0 : decode cX3_copyFrom 0 = .ok (.aload_n 1, 1) := by decide +kernel
theorem dX3_copyFrom_1 : decode cX3_copyFrom 1 = .ok (.getfield 11, 3) := by decide +kernel
theorem dX3_copyFrom_4 : decode cX3_copyFrom 4 = .ok (.aload_n 0, 1) := by decide +kernel
theorem dX3_copyFrom_5 : decode cX3_copyFrom 5 = .ok (.getfield 11, 3) := by decide +kernel
theorem dX3_copyFrom_8 : decode cX3_copyFrom 8 = .ok (.invokestatic 16, 3) := by decide +kernel
theorem dX3_copyFrom_11 : decode cX3_copyFrom 11 = .ok (.aload_n 0, 1) := by decide +kernel
theorem dX3_copyFrom_12 : decode cX3_copyFrom 12 = .ok (.aload_n 1, 1) := by decide +kernel
theorem dX3_copyFrom_13 : decode cX3_copyFrom 13 = .ok (.getfield 20, 3) := by decide +kernel
theorem dX3_copyFrom_16 : decode cX3_copyFrom 16 = .ok (.putfield 20, 3) := by decide +kernel
theorem dX3_copyFrom_19 : decode cX3_copyFrom 19 = .ok (.aload_n 0, 1) := by decide +kernel
theorem dX3_copyFrom_20 : decode cX3_copyFrom 20 = .ok (.aload_n 1, 1) := by decide +kernel
theorem dX3_copyFrom_21 : decode cX3_copyFrom 21 = .ok (.getfield 24, 3) := by decide +kernel
theorem dX3_copyFrom_24 : decode cX3_copyFrom 24 = .ok (.putfield 24, 3) := by decide +kernel
theorem dX3_copyFrom_27 : decode cX3_copyFrom 27 = .ok (.aload_n 0, 1) := by decide +kernel
theorem dX3_copyFrom_28 : decode cX3_copyFrom 28 = .ok (.aload_n 1, 1) := by decide +kernel
theorem dX3_copyFrom_29 : decode cX3_copyFrom 29 = .ok (.getfield 27, 3) := by decide +kernel
theorem dX3_copyFrom_32 : decode cX3_copyFrom 32 = .ok (.putfield 27, 3) := by decide +kernel
theorem dX3_copyFrom_35 : decode cX3_copyFrom 35 = .ok (.return_, 1) := by decide +kernel
theorem dX3_pieces_0 : decode cX3_pieces 0 = .ok (.iconst 0, 1) := by decide +kernel
theorem dX3_pieces_1 : decode cX3_pieces 1 = .ok (.istore_n 1, 1) := by decide +kernel
theorem dX3_pieces_2 : decode cX3_pieces 2 = .ok (.iconst 0, 1) := by decide +kernel
theorem dX3_pieces_3 : decode cX3_pieces 3 = .ok (.istore_n 2, 1) := by decide +kernel
theorem dX3_pieces_4 : decode cX3_pieces 4 = .ok (.iload_n 2, 1) := by decide +kernel
theorem dX3_pieces_5 : decode cX3_pieces 5 = .ok (.bipush 6, 2) := by decide +kernel
theorem dX3_pieces_7 : decode cX3_pieces 7 = .ok (.if_icmp .ge 21, 3) := by decide +kernel
theorem dX3_pieces_10 : decode cX3_pieces 10 = .ok (.iload_n 1, 1) := by decide +kernel
theorem dX3_pieces_11 : decode cX3_pieces 11 = .ok (.aload_n 0, 1) := by decide +kernel
theorem dX3_pieces_12 : decode cX3_pieces 12 = .ok (.getfield 11, 3) := by decide +kernel
theorem dX3_pieces_15 : decode cX3_pieces 15 = .ok (.iload_n 2, 1) := by decide +kernel
theorem dX3_pieces_16 : decode cX3_pieces 16 = .ok (.aaload, 1) := by decide +kernel
theorem dX3_pieces_17 : decode cX3_pieces 17 = .ok (.invokestatic 31, 3) := by decide +kernel
theorem dX3_pieces_20 : decode cX3_pieces 20 = .ok (.iadd, 1) := by decide +kernel
theorem dX3_pieces_21 : decode cX3_pieces 21 = .ok (.istore_n 1, 1) := by decide +kernel
theorem dX3_pieces_22 : decode cX3_pieces 22 = .ok (.iinc 2 1, 3) := by decide +kernel
theorem dX3_pieces_25 : decode cX3_pieces 25 = .ok (.goto (-21), 3) := by decide +kernel
theorem dX3_pieces_28 : decode cX3_pieces 28 = .ok (.iload_n 1, 1) := by decide +kernel
theorem dX3_pieces_29 : decode cX3_pieces 29 = .ok (.ireturn, 1) := by decide +kernel
theorem dX3_owners_0 : decode cX3_owners 0 = .ok (.iconst 0, 1) := by decide +kernel
theorem dX3_owners_1 : decode cX3_owners 1 = .ok (.istore_n 1, 1) := by decide +kernel
theorem dX3_owners_2 : decode cX3_owners 2 = .ok (.iconst 0, 1) := by decide +kernel
theorem dX3_owners_3 : decode cX3_owners 3 = .ok (.istore_n 2, 1) := by decide +kernel
theorem dX3_owners_4 : decode cX3_owners 4 = .ok (.iload_n 2, 1) := by decide +kernel
theorem dX3_owners_5 : decode cX3_owners 5 = .ok (.bipush 6, 2) := by decide +kernel
theorem dX3_owners_7 : decode cX3_owners 7 = .ok (.if_icmp .ge 27, 3) := by decide +kernel
theorem dX3_owners_10 : decode cX3_owners 10 = .ok (.aload_n 0, 1) := by decide +kernel
theorem dX3_owners_11 : decode cX3_owners 11 = .ok (.getfield 11, 3) := by decide +kernel
theorem dX3_owners_14 : decode cX3_owners 14 = .ok (.iload_n 2, 1) := by decide +kernel
theorem dX3_owners_15 : decode cX3_owners 15 = .ok (.aaload, 1) := by decide +kernel
theorem dX3_owners_16 : decode cX3_owners 16 = .ok (.invokestatic 31, 3) := by decide +kernel
theorem dX3_owners_19 : decode cX3_owners 19 = .ok (.ifCond .le 9, 3) := by decide +kernel
theorem dX3_owners_22 : decode cX3_owners 22 = .ok (.iload_n 1, 1) := by decide +kernel
theorem dX3_owners_23 : decode cX3_owners 23 = .ok (.iconst 1, 1) := by decide +kernel
theorem dX3_owners_24 : decode cX3_owners 24 = .ok (.iload_n 2, 1) := by decide +kernel
theorem dX3_owners_25 : decode cX3_owners 25 = .ok (.ishl, 1) := by decide +kernel
theorem dX3_owners_26 : decode cX3_owners 26 = .ok (.ior, 1) := by decide +kernel
theorem dX3_owners_27 : decode cX3_owners 27 = .ok (.istore_n 1, 1) := by decide +kernel
theorem dX3_owners_28 : decode cX3_owners 28 = .ok (.iinc 2 1, 3) := by decide +kernel
theorem dX3_owners_31 : decode cX3_owners 31 = .ok (.goto (-27), 3) := by decide +kernel
theorem dX3_owners_34 : decode cX3_owners 34 = .ok (.iload_n 1, 1) := by decide +kernel
theorem dX3_owners_35 : decode cX3_owners 35 = .ok (.ireturn, 1) := by decide +kernel
theorem dX3_loseString_0 : decode cX3_loseString 0 = .ok (.iload_n 1, 1) := by decide +kernel
theorem dX3_loseString_1 : decode cX3_loseString 1 = .ok (.istore_n 2, 1) := by decide +kernel
theorem dX3_loseString_2 : decode cX3_loseString 2 = .ok (.iconst 0, 1) := by decide +kernel
theorem dX3_loseString_3 : decode cX3_loseString 3 = .ok (.istore_n 3, 1) := by decide +kernel
theorem dX3_loseString_4 : decode cX3_loseString 4 = .ok (.iload_n 3, 1) := by decide +kernel
theorem dX3_loseString_5 : decode cX3_loseString 5 = .ok (.bipush 6, 2) := by decide +kernel
theorem dX3_loseString_7 : decode cX3_loseString 7 = .ok (.if_icmp .ge 65, 3) := by decide +kernel
theorem dX3_loseString_10 : decode cX3_loseString 10 = .ok (.iconst 0, 1) := by decide +kernel
theorem dX3_loseString_11 : decode cX3_loseString 11 = .ok (.istore 4, 2) := by decide +kernel
theorem dX3_loseString_13 : decode cX3_loseString 13 = .ok (.iload 4, 2) := by decide +kernel
theorem dX3_loseString_15 : decode cX3_loseString 15 = .ok (.bipush 8, 2) := by decide +kernel
theorem dX3_loseString_17 : decode cX3_loseString 17 = .ok (.if_icmp .ge 49, 3) := by decide +kernel
theorem dX3_loseString_20 : decode cX3_loseString 20 = .ok (.iload_n 2, 1) := by decide +kernel
theorem dX3_loseString_21 : decode cX3_loseString 21 = .ok (.aload_n 0, 1) := by decide +kernel
theorem dX3_loseString_22 : decode cX3_loseString 22 = .ok (.getfield 11, 3) := by decide +kernel
theorem dX3_loseString_25 : decode cX3_loseString 25 = .ok (.iload_n 3, 1) := by decide +kernel
theorem dX3_loseString_26 : decode cX3_loseString 26 = .ok (.aaload, 1) := by decide +kernel
theorem dX3_loseString_27 : decode cX3_loseString 27 = .ok (.iload 4, 2) := by decide +kernel
theorem dX3_loseString_29 : decode cX3_loseString 29 = .ok (.iaload, 1) := by decide +kernel
theorem dX3_loseString_30 : decode cX3_loseString 30 = .ok (.if_icmp .ge 18, 3) := by decide +kernel
theorem dX3_loseString_33 : decode cX3_loseString 33 = .ok (.aload_n 0, 1) := by decide +kernel
theorem dX3_loseString_34 : decode cX3_loseString 34 = .ok (.getfield 11, 3) := by decide +kernel
theorem dX3_loseString_37 : decode cX3_loseString 37 = .ok (.iload_n 3, 1) := by decide +kernel
theorem dX3_loseString_38 : decode cX3_loseString 38 = .ok (.aaload, 1) := by decide +kernel
theorem dX3_loseString_39 : decode cX3_loseString 39 = .ok (.iload 4, 2) := by decide +kernel
theorem dX3_loseString_41 : decode cX3_loseString 41 = .ok (.dup2, 1) := by decide +kernel
theorem dX3_loseString_42 : decode cX3_loseString 42 = .ok (.iaload, 1) := by decide +kernel
theorem dX3_loseString_43 : decode cX3_loseString 43 = .ok (.iconst 1, 1) := by decide +kernel
theorem dX3_loseString_44 : decode cX3_loseString 44 = .ok (.isub, 1) := by decide +kernel
theorem dX3_loseString_45 : decode cX3_loseString 45 = .ok (.iastore, 1) := by decide +kernel
theorem dX3_loseString_46 : decode cX3_loseString 46 = .ok (.iload_n 3, 1) := by decide +kernel
theorem dX3_loseString_47 : decode cX3_loseString 47 = .ok (.ireturn, 1) := by decide +kernel
theorem dX3_loseString_48 : decode cX3_loseString 48 = .ok (.iload_n 2, 1) := by decide +kernel
theorem dX3_loseString_49 : decode cX3_loseString 49 = .ok (.aload_n 0, 1) := by decide +kernel
theorem dX3_loseString_50 : decode cX3_loseString 50 = .ok (.getfield 11, 3) := by decide +kernel
theorem dX3_loseString_53 : decode cX3_loseString 53 = .ok (.iload_n 3, 1) := by decide +kernel
theorem dX3_loseString_54 : decode cX3_loseString 54 = .ok (.aaload, 1) := by decide +kernel
theorem dX3_loseString_55 : decode cX3_loseString 55 = .ok (.iload 4, 2) := by decide +kernel
theorem dX3_loseString_57 : decode cX3_loseString 57 = .ok (.iaload, 1) := by decide +kernel
theorem dX3_loseString_58 : decode cX3_loseString 58 = .ok (.isub, 1) := by decide +kernel
theorem dX3_loseString_59 : decode cX3_loseString 59 = .ok (.istore_n 2, 1) := by decide +kernel
theorem dX3_loseString_60 : decode cX3_loseString 60 = .ok (.iinc 4 1, 3) := by decide +kernel
theorem dX3_loseString_63 : decode cX3_loseString 63 = .ok (.goto (-50), 3) := by decide +kernel
theorem dX3_loseString_66 : decode cX3_loseString 66 = .ok (.iinc 3 1, 3) := by decide +kernel
theorem dX3_loseString_69 : decode cX3_loseString 69 = .ok (.goto (-65), 3) := by decide +kernel
theorem dX3_loseString_72 : decode cX3_loseString 72 = .ok (.iconst (-1), 1) := by decide +kernel
theorem dX3_loseString_73 : decode cX3_loseString 73 = .ok (.ireturn, 1) := by decide +kernel
theorem dX4_init_0 : decode cX4_init 0 = .ok (.aload_n 0, 1) := by decide +kernel
theorem dX4_init_1 : decode cX4_init 1 = .ok (.invokespecial 3, 3) := by decide +kernel
theorem dX4_init_4 : decode cX4_init 4 = .ok (.aload_n 0, 1) := by decide +kernel
theorem dX4_init_5 : decode cX4_init 5 = .ok (.bipush 6, 2) := by decide +kernel
theorem dX4_init_7 : decode cX4_init 7 = .ok (.newarray .int, 2) := by decide +kernel
theorem dX4_init_9 : decode cX4_init 9 = .ok (.putfield 9, 3) := by decide +kernel
theorem dX4_init_12 : decode cX4_init 12 = .ok (.aload_n 0, 1) := by decide +kernel
theorem dX4_init_13 : decode cX4_init 13 = .ok (.bipush 6, 2) := by decide +kernel
theorem dX4_init_15 : decode cX4_init 15 = .ok (.newarray .int, 2) := by decide +kernel
theorem dX4_init_17 : decode cX4_init 17 = .ok (.putfield 15, 3) := by decide +kernel
theorem dX4_init_20 : decode cX4_init 20 = .ok (.return_, 1) := by decide +kernel
theorem dX4_divide_0 : decode cX4_divide 0 = .ok (.aload_n 0, 1) := by decide +kernel
theorem dX4_divide_1 : decode cX4_divide 1 = .ok (.getfield 15, 3) := by decide +kernel
theorem dX4_divide_4 : decode cX4_divide 4 = .ok (.iconst 0, 1) := by decide +kernel
theorem dX4_divide_5 : decode cX4_divide 5 = .ok (.invokestatic 18, 3) := by decide +kernel
theorem dX4_divide_8 : decode cX4_divide 8 = .ok (.aload_n 0, 1) := by decide +kernel
theorem dX4_divide_9 : decode cX4_divide 9 = .ok (.getfield 9, 3) := by decide +kernel
theorem dX4_divide_12 : decode cX4_divide 12 = .ok (.invokestatic 24, 3) := by decide +kernel
theorem dX4_divide_15 : decode cX4_divide 15 = .ok (.istore_n 2, 1) := by decide +kernel
theorem dX4_divide_16 : decode cX4_divide 16 = .ok (.iload_n 2, 1) := by decide +kernel
theorem dX4_divide_17 : decode cX4_divide 17 = .ok (.ifCond .gt 4, 3) := by decide +kernel
theorem dX4_divide_20 : decode cX4_divide 20 = .ok (.return_, 1) := by decide +kernel
theorem dX4_divide_21 : decode cX4_divide 21 = .ok (.iload_n 1, 1) := by decide +kernel
theorem dX4_divide_22 : decode cX4_divide 22 = .ok (.istore_n 3, 1) := by decide +kernel
theorem dX4_divide_23 : decode cX4_divide 23 = .ok (.iconst 0, 1) := by decide +kernel
theorem dX4_divide_24 : decode cX4_divide 24 = .ok (.istore 4, 2) := by decide +kernel
theorem dX4_divide_26 : decode cX4_divide 26 = .ok (.iload 4, 2) := by decide +kernel
theorem dX4_divide_28 : decode cX4_divide 28 = .ok (.bipush 6, 2) := by decide +kernel
theorem dX4_divide_30 : decode cX4_divide 30 = .ok (.if_icmp .ge 37, 3) := by decide +kernel
theorem dX4_divide_33 : decode cX4_divide 33 = .ok (.aload_n 0, 1) := by decide +kernel
theorem dX4_divide_34 : decode cX4_divide 34 = .ok (.getfield 15, 3) := by decide +kernel
theorem dX4_divide_37 : decode cX4_divide 37 = .ok (.iload 4, 2) := by decide +kernel
theorem dX4_divide_39 : decode cX4_divide 39 = .ok (.iload_n 1, 1) := by decide +kernel
theorem dX4_divide_40 : decode cX4_divide 40 = .ok (.aload_n 0, 1) := by decide +kernel
theorem dX4_divide_41 : decode cX4_divide 41 = .ok (.getfield 9, 3) := by decide +kernel
theorem dX4_divide_44 : decode cX4_divide 44 = .ok (.iload 4, 2) := by decide +kernel
theorem dX4_divide_46 : decode cX4_divide 46 = .ok (.iaload, 1) := by decide +kernel
theorem dX4_divide_47 : decode cX4_divide 47 = .ok (.imul, 1) := by decide +kernel
theorem dX4_divide_48 : decode cX4_divide 48 = .ok (.iload_n 2, 1) := by decide +kernel
theorem dX4_divide_49 : decode cX4_divide 49 = .ok (.idiv, 1) := by decide +kernel
theorem dX4_divide_50 : decode cX4_divide 50 = .ok (.iastore, 1) := by decide +kernel
theorem dX4_divide_51 : decode cX4_divide 51 = .ok (.iload_n 3, 1) := by decide +kernel
theorem dX4_divide_52 : decode cX4_divide 52 = .ok (.aload_n 0, 1) := by decide +kernel
theorem dX4_divide_53 : decode cX4_divide 53 = .ok (.getfield 15, 3) := by decide +kernel
theorem dX4_divide_56 : decode cX4_divide 56 = .ok (.iload 4, 2) := by decide +kernel
theorem dX4_divide_58 : decode cX4_divide 58 = .ok (.iaload, 1) := by decide +kernel
theorem dX4_divide_59 : decode cX4_divide 59 = .ok (.isub, 1) := by decide +kernel
theorem dX4_divide_60 : decode cX4_divide 60 = .ok (.istore_n 3, 1) := by decide +kernel
theorem dX4_divide_61 : decode cX4_divide 61 = .ok (.iinc 4 1, 3) := by decide +kernel
theorem dX4_divide_64 : decode cX4_divide 64 = .ok (.goto (-38), 3) := by decide +kernel
theorem dX4_divide_67 : decode cX4_divide 67 = .ok (.iconst 0, 1) := by decide +kernel
theorem dX4_divide_68 : decode cX4_divide 68 = .ok (.istore 4, 2) := by decide +kernel
theorem dX4_divide_70 : decode cX4_divide 70 = .ok (.iload 4, 2) := by decide +kernel
theorem dX4_divide_72 : decode cX4_divide 72 = .ok (.bipush 6, 2) := by decide +kernel
theorem dX4_divide_74 : decode cX4_divide 74 = .ok (.if_icmp .ge 37, 3) := by decide +kernel
theorem dX4_divide_77 : decode cX4_divide 77 = .ok (.iload_n 3, 1) := by decide +kernel
theorem dX4_divide_78 : decode cX4_divide 78 = .ok (.ifCond .le 33, 3) := by decide +kernel
theorem dX4_divide_81 : decode cX4_divide 81 = .ok (.aload_n 0, 1) := by decide +kernel
theorem dX4_divide_82 : decode cX4_divide 82 = .ok (.getfield 9, 3) := by decide +kernel
theorem dX4_divide_85 : decode cX4_divide 85 = .ok (.iload 4, 2) := by decide +kernel
theorem dX4_divide_87 : decode cX4_divide 87 = .ok (.iaload, 1) := by decide +kernel
theorem dX4_divide_88 : decode cX4_divide 88 = .ok (.ifCond .le 17, 3) := by decide +kernel
theorem dX4_divide_91 : decode cX4_divide 91 = .ok (.aload_n 0, 1) := by decide +kernel
theorem dX4_divide_92 : decode cX4_divide 92 = .ok (.getfield 15, 3) := by decide +kernel
theorem dX4_divide_95 : decode cX4_divide 95 = .ok (.iload 4, 2) := by decide +kernel
theorem dX4_divide_97 : decode cX4_divide 97 = .ok (.dup2, 1) := by decide +kernel
theorem dX4_divide_98 : decode cX4_divide 98 = .ok (.iaload, 1) := by decide +kernel
theorem dX4_divide_99 : decode cX4_divide 99 = .ok (.iconst 1, 1) := by decide +kernel
theorem dX4_divide_100 : decode cX4_divide 100 = .ok (.iadd, 1) := by decide +kernel
theorem dX4_divide_101 : decode cX4_divide 101 = .ok (.iastore, 1) := by decide +kernel
theorem dX4_divide_102 : decode cX4_divide 102 = .ok (.iinc 3 (-1), 3) := by decide +kernel
theorem dX4_divide_105 : decode cX4_divide 105 = .ok (.iinc 4 1, 3) := by decide +kernel
theorem dX4_divide_108 : decode cX4_divide 108 = .ok (.goto (-38), 3) := by decide +kernel
theorem dX4_divide_111 : decode cX4_divide 111 = .ok (.return_, 1) := by decide +kernel
theorem dX5_init_0 : decode cX5_init 0 = .ok (.aload_n 0, 1) := by decide +kernel
theorem dX5_init_1 : decode cX5_init 1 = .ok (.invokespecial 1, 3) := by decide +kernel
theorem dX5_init_4 : decode cX5_init 4 = .ok (.aload_n 0, 1) := by decide +kernel
theorem dX5_init_5 : decode cX5_init 5 = .ok (.new 7, 3) := by decide +kernel
theorem dX5_init_8 : decode cX5_init 8 = .ok (.dup, 1) := by decide +kernel
theorem dX5_init_9 : decode cX5_init 9 = .ok (.invokespecial 9, 3) := by decide +kernel
theorem dX5_init_12 : decode cX5_init 12 = .ok (.putfield 10, 3) := by decide +kernel
theorem dX5_init_15 : decode cX5_init 15 = .ok (.aload_n 0, 1) := by decide +kernel
theorem dX5_init_16 : decode cX5_init 16 = .ok (.new 7, 3) := by decide +kernel
theorem dX5_init_19 : decode cX5_init 19 = .ok (.dup, 1) := by decide +kernel
theorem dX5_init_20 : decode cX5_init 20 = .ok (.invokespecial 9, 3) := by decide +kernel
theorem dX5_init_23 : decode cX5_init 23 = .ok (.putfield 16, 3) := by decide +kernel
theorem dX5_init_26 : decode cX5_init 26 = .ok (.aload_n 0, 1) := by decide +kernel
theorem dX5_init_27 : decode cX5_init 27 = .ok (.bipush 6, 2) := by decide +kernel
theorem dX5_init_29 : decode cX5_init 29 = .ok (.anewarray 7, 3) := by decide +kernel
theorem dX5_init_32 : decode cX5_init 32 = .ok (.putfield 19, 3) := by decide +kernel
theorem dX5_init_35 : decode cX5_init 35 = .ok (.aload_n 0, 1) := by decide +kernel
theorem dX5_init_36 : decode cX5_init 36 = .ok (.iconst 2, 1) := by decide +kernel
theorem dX5_init_37 : decode cX5_init 37 = .ok (.anewarray 7, 3) := by decide +kernel
theorem dX5_init_40 : decode cX5_init 40 = .ok (.putfield 23, 3) := by decide +kernel
theorem dX5_init_43 : decode cX5_init 43 = .ok (.aload_n 0, 1) := by decide +kernel
theorem dX5_init_44 : decode cX5_init 44 = .ok (.iconst 2, 1) := by decide +kernel
theorem dX5_init_45 : decode cX5_init 45 = .ok (.newarray .boolean, 2) := by decide +kernel
theorem dX5_init_47 : decode cX5_init 47 = .ok (.putfield 26, 3) := by decide +kernel
theorem dX5_init_50 : decode cX5_init 50 = .ok (.aload_n 0, 1) := by decide +kernel
theorem dX5_init_51 : decode cX5_init 51 = .ok (.new 30, 3) := by decide +kernel
theorem dX5_init_54 : decode cX5_init 54 = .ok (.dup, 1) := by decide +kernel
theorem dX5_init_55 : decode cX5_init 55 = .ok (.invokespecial 32, 3) := by decide +kernel
theorem dX5_init_58 : decode cX5_init 58 = .ok (.putfield 33, 3) := by decide +kernel
