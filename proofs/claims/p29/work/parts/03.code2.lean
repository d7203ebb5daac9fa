theorem dX5_init_61 : decode cX5_init 61 = .ok (.aload_n 0, 1) := by decide +kernel
theorem dX5_init_62 : decode cX5_init 62 = .ok (.new 37, 3) := by decide +kernel
theorem dX5_init_65 : decode cX5_init 65 = .ok (.dup, 1) := by decide +kernel
theorem dX5_init_66 : decode cX5_init 66 = .ok (.invokespecial 39, 3) := by decide +kernel
theorem dX5_init_69 : decode cX5_init 69 = .ok (.putfield 40, 3) := by decide +kernel
theorem dX5_init_72 : decode cX5_init 72 = .ok (.iconst 0, 1) := by decide +kernel
theorem dX5_init_73 : decode cX5_init 73 = .ok (.istore_n 1, 1) := by decide +kernel
theorem dX5_init_74 : decode cX5_init 74 = .ok (.iload_n 1, 1) := by decide +kernel
theorem dX5_init_75 : decode cX5_init 75 = .ok (.bipush 6, 2) := by decide +kernel
theorem dX5_init_77 : decode cX5_init 77 = .ok (.if_icmp .ge 22, 3) := by decide +kernel
theorem dX5_init_80 : decode cX5_init 80 = .ok (.aload_n 0, 1) := by decide +kernel
theorem dX5_init_81 : decode cX5_init 81 = .ok (.getfield 19, 3) := by decide +kernel
theorem dX5_init_84 : decode cX5_init 84 = .ok (.iload_n 1, 1) := by decide +kernel
theorem dX5_init_85 : decode cX5_init 85 = .ok (.new 7, 3) := by decide +kernel
theorem dX5_init_88 : decode cX5_init 88 = .ok (.dup, 1) := by decide +kernel
theorem dX5_init_89 : decode cX5_init 89 = .ok (.invokespecial 9, 3) := by decide +kernel
theorem dX5_init_92 : decode cX5_init 92 = .ok (.aastore, 1) := by decide +kernel
theorem dX5_init_93 : decode cX5_init 93 = .ok (.iinc 1 1, 3) := by decide +kernel
theorem dX5_init_96 : decode cX5_init 96 = .ok (.goto (-22), 3) := by decide +kernel
theorem dX5_init_99 : decode cX5_init 99 = .ok (.iconst 0, 1) := by decide +kernel
theorem dX5_init_100 : decode cX5_init 100 = .ok (.istore_n 1, 1) := by decide +kernel
theorem dX5_init_101 : decode cX5_init 101 = .ok (.iload_n 1, 1) := by decide +kernel
theorem dX5_init_102 : decode cX5_init 102 = .ok (.iconst 2, 1) := by decide +kernel
theorem dX5_init_103 : decode cX5_init 103 = .ok (.if_icmp .ge 22, 3) := by decide +kernel
theorem dX5_init_106 : decode cX5_init 106 = .ok (.aload_n 0, 1) := by decide +kernel
theorem dX5_init_107 : decode cX5_init 107 = .ok (.getfield 23, 3) := by decide +kernel
theorem dX5_init_110 : decode cX5_init 110 = .ok (.iload_n 1, 1) := by decide +kernel
theorem dX5_init_111 : decode cX5_init 111 = .ok (.new 7, 3) := by decide +kernel
theorem dX5_init_114 : decode cX5_init 114 = .ok (.dup, 1) := by decide +kernel
theorem dX5_init_115 : decode cX5_init 115 = .ok (.invokespecial 9, 3) := by decide +kernel
theorem dX5_init_118 : decode cX5_init 118 = .ok (.aastore, 1) := by decide +kernel
theorem dX5_init_119 : decode cX5_init 119 = .ok (.iinc 1 1, 3) := by decide +kernel
theorem dX5_init_122 : decode cX5_init 122 = .ok (.goto (-21), 3) := by decide +kernel
theorem dX5_init_125 : decode cX5_init 125 = .ok (.return_, 1) := by decide +kernel
theorem dX5_set_0 : decode cX5_set 0 = .ok (.iload_n 1, 1) := by decide +kernel
theorem dX5_set_1 : decode cX5_set 1 = .ok (.ifCond .lt 11, 3) := by decide +kernel
theorem dX5_set_4 : decode cX5_set 4 = .ok (.iload_n 1, 1) := by decide +kernel
theorem dX5_set_5 : decode cX5_set 5 = .ok (.getstatic 44, 3) := by decide +kernel
theorem dX5_set_8 : decode cX5_set 8 = .ok (.arraylength, 1) := by decide +kernel
theorem dX5_set_9 : decode cX5_set 9 = .ok (.if_icmp .lt 6, 3) := by decide +kernel
theorem dX5_set_12 : decode cX5_set 12 = .ok (.ldc 48, 2) := by decide +kernel
theorem dX5_set_14 : decode cX5_set 14 = .ok (.ireturn, 1) := by decide +kernel
theorem dX5_set_15 : decode cX5_set 15 = .ok (.iload_n 2, 1) := by decide +kernel
theorem dX5_set_16 : decode cX5_set 16 = .ok (.getstatic 44, 3) := by decide +kernel
theorem dX5_set_19 : decode cX5_set 19 = .ok (.iload_n 1, 1) := by decide +kernel
theorem dX5_set_20 : decode cX5_set 20 = .ok (.iaload, 1) := by decide +kernel
theorem dX5_set_21 : decode cX5_set 21 = .ok (.if_icmp .lt 12, 3) := by decide +kernel
theorem dX5_set_24 : decode cX5_set 24 = .ok (.iload_n 2, 1) := by decide +kernel
theorem dX5_set_25 : decode cX5_set 25 = .ok (.getstatic 49, 3) := by decide +kernel
theorem dX5_set_28 : decode cX5_set 28 = .ok (.iload_n 1, 1) := by decide +kernel
theorem dX5_set_29 : decode cX5_set 29 = .ok (.iaload, 1) := by decide +kernel
theorem dX5_set_30 : decode cX5_set 30 = .ok (.if_icmp .le 6, 3) := by decide +kernel
theorem dX5_set_33 : decode cX5_set 33 = .ok (.ldc 48, 2) := by decide +kernel
theorem dX5_set_35 : decode cX5_set 35 = .ok (.ireturn, 1) := by decide +kernel
theorem dX5_set_36 : decode cX5_set 36 = .ok (.aload_n 0, 1) := by decide +kernel
theorem dX5_set_37 : decode cX5_set 37 = .ok (.invokevirtual 52, 3) := by decide +kernel
theorem dX5_set_40 : decode cX5_set 40 = .ok (.aload_n 0, 1) := by decide +kernel
theorem dX5_set_41 : decode cX5_set 41 = .ok (.getfield 10, 3) := by decide +kernel
theorem dX5_set_44 : decode cX5_set 44 = .ok (.getfield 55, 3) := by decide +kernel
theorem dX5_set_47 : decode cX5_set 47 = .ok (.iload_n 1, 1) := by decide +kernel
theorem dX5_set_48 : decode cX5_set 48 = .ok (.iaload, 1) := by decide +kernel
theorem dX5_set_49 : decode cX5_set 49 = .ok (.istore_n 3, 1) := by decide +kernel
theorem dX5_set_50 : decode cX5_set 50 = .ok (.aload_n 0, 1) := by decide +kernel
theorem dX5_set_51 : decode cX5_set 51 = .ok (.getfield 10, 3) := by decide +kernel
theorem dX5_set_54 : decode cX5_set 54 = .ok (.getfield 55, 3) := by decide +kernel
theorem dX5_set_57 : decode cX5_set 57 = .ok (.iload_n 1, 1) := by decide +kernel
theorem dX5_set_58 : decode cX5_set 58 = .ok (.iload_n 2, 1) := by decide +kernel
theorem dX5_set_59 : decode cX5_set 59 = .ok (.iastore, 1) := by decide +kernel
theorem dX5_set_60 : decode cX5_set 60 = .ok (.iload_n 3, 1) := by decide +kernel
theorem dX5_set_61 : decode cX5_set 61 = .ok (.ireturn, 1) := by decide +kernel
theorem dX5_snap_0 : decode cX5_snap 0 = .ok (.iload_n 1, 1) := by decide +kernel
theorem dX5_snap_1 : decode cX5_snap 1 = .ok (.invokestatic 58, 3) := by decide +kernel
theorem dX5_snap_4 : decode cX5_snap 4 = .ok (.ifCond .eq 10, 3) := by decide +kernel
theorem dX5_snap_7 : decode cX5_snap 7 = .ok (.iload_n 2, 1) := by decide +kernel
theorem dX5_snap_8 : decode cX5_snap 8 = .ok (.invokestatic 62, 3) := by decide +kernel
theorem dX5_snap_11 : decode cX5_snap 11 = .ok (.ifCond .ne 6, 3) := by decide +kernel
theorem dX5_snap_14 : decode cX5_snap 14 = .ok (.ldc 65, 2) := by decide +kernel
theorem dX5_snap_16 : decode cX5_snap 16 = .ok (.ireturn, 1) := by decide +kernel
theorem dX5_snap_17 : decode cX5_snap 17 = .ok (.aload_n 0, 1) := by decide +kernel
theorem dX5_snap_18 : decode cX5_snap 18 = .ok (.getfield 10, 3) := by decide +kernel
theorem dX5_snap_21 : decode cX5_snap 21 = .ok (.getfield 66, 3) := by decide +kernel
theorem dX5_snap_24 : decode cX5_snap 24 = .ok (.iload_n 1, 1) := by decide +kernel
theorem dX5_snap_25 : decode cX5_snap 25 = .ok (.iaload, 1) := by decide +kernel
theorem dX5_snap_26 : decode cX5_snap 26 = .ok (.iload_n 2, 1) := by decide +kernel
theorem dX5_snap_27 : decode cX5_snap 27 = .ok (.invokestatic 69, 3) := by decide +kernel
theorem dX5_snap_30 : decode cX5_snap 30 = .ok (.ifCond .eq 6, 3) := by decide +kernel
theorem dX5_snap_33 : decode cX5_snap 33 = .ok (.ldc 73, 2) := by decide +kernel
theorem dX5_snap_35 : decode cX5_snap 35 = .ok (.ireturn, 1) := by decide +kernel
theorem dX5_snap_36 : decode cX5_snap 36 = .ok (.aload_n 0, 1) := by decide +kernel
theorem dX5_snap_37 : decode cX5_snap 37 = .ok (.invokevirtual 52, 3) := by decide +kernel
theorem dX5_snap_40 : decode cX5_snap 40 = .ok (.aload_n 0, 1) := by decide +kernel
theorem dX5_snap_41 : decode cX5_snap 41 = .ok (.getfield 10, 3) := by decide +kernel
theorem dX5_snap_44 : decode cX5_snap 44 = .ok (.getfield 66, 3) := by decide +kernel
theorem dX5_snap_47 : decode cX5_snap 47 = .ok (.iload_n 1, 1) := by decide +kernel
theorem dX5_snap_48 : decode cX5_snap 48 = .ok (.dup2, 1) := by decide +kernel
theorem dX5_snap_49 : decode cX5_snap 49 = .ok (.iaload, 1) := by decide +kernel
theorem dX5_snap_50 : decode cX5_snap 50 = .ok (.iconst 1, 1) := by decide +kernel
theorem dX5_snap_51 : decode cX5_snap 51 = .ok (.iload_n 2, 1) := by decide +kernel
theorem dX5_snap_52 : decode cX5_snap 52 = .ok (.ishl, 1) := by decide +kernel
theorem dX5_snap_53 : decode cX5_snap 53 = .ok (.ior, 1) := by decide +kernel
theorem dX5_snap_54 : decode cX5_snap 54 = .ok (.iastore, 1) := by decide +kernel
theorem dX5_snap_55 : decode cX5_snap 55 = .ok (.aload_n 0, 1) := by decide +kernel
theorem dX5_snap_56 : decode cX5_snap 56 = .ok (.getfield 10, 3) := by decide +kernel
theorem dX5_snap_59 : decode cX5_snap 59 = .ok (.getfield 66, 3) := by decide +kernel
theorem dX5_snap_62 : decode cX5_snap 62 = .ok (.iload_n 1, 1) := by decide +kernel
theorem dX5_snap_63 : decode cX5_snap 63 = .ok (.iaload, 1) := by decide +kernel
theorem dX5_snap_64 : decode cX5_snap 64 = .ok (.invokestatic 74, 3) := by decide +kernel
theorem dX5_snap_67 : decode cX5_snap 67 = .ok (.ireturn, 1) := by decide +kernel
theorem dX5_fit_0 : decode cX5_fit 0 = .ok (.iload_n 1, 1) := by decide +kernel
theorem dX5_fit_1 : decode cX5_fit 1 = .ok (.invokestatic 58, 3) := by decide +kernel
theorem dX5_fit_4 : decode cX5_fit 4 = .ok (.ifCond .eq 17, 3) := by decide +kernel
theorem dX5_fit_7 : decode cX5_fit 7 = .ok (.iload_n 2, 1) := by decide +kernel
theorem dX5_fit_8 : decode cX5_fit 8 = .ok (.invokestatic 62, 3) := by decide +kernel
theorem dX5_fit_11 : decode cX5_fit 11 = .ok (.ifCond .eq 10, 3) := by decide +kernel
theorem dX5_fit_14 : decode cX5_fit 14 = .ok (.iload_n 3, 1) := by decide +kernel
theorem dX5_fit_15 : decode cX5_fit 15 = .ok (.invokestatic 62, 3) := by decide +kernel
theorem dX5_fit_18 : decode cX5_fit 18 = .ok (.ifCond .ne 6, 3) := by decide +kernel
theorem dX5_fit_21 : decode cX5_fit 21 = .ok (.ldc 65, 2) := by decide +kernel
theorem dX5_fit_23 : decode cX5_fit 23 = .ok (.ireturn, 1) := by decide +kernel
theorem dX5_fit_24 : decode cX5_fit 24 = .ok (.aload_n 0, 1) := by decide +kernel
theorem dX5_fit_25 : decode cX5_fit 25 = .ok (.getfield 10, 3) := by decide +kernel
theorem dX5_fit_28 : decode cX5_fit 28 = .ok (.getfield 66, 3) := by decide +kernel
theorem dX5_fit_31 : decode cX5_fit 31 = .ok (.iload_n 1, 1) := by decide +kernel
theorem dX5_fit_32 : decode cX5_fit 32 = .ok (.iaload, 1) := by decide +kernel
theorem dX5_fit_33 : decode cX5_fit 33 = .ok (.iload_n 2, 1) := by decide +kernel
theorem dX5_fit_34 : decode cX5_fit 34 = .ok (.invokestatic 69, 3) := by decide +kernel
theorem dX5_fit_37 : decode cX5_fit 37 = .ok (.ifCond .eq 13, 3) := by decide +kernel
theorem dX5_fit_40 : decode cX5_fit 40 = .ok (.iload_n 3, 1) := by decide +kernel
theorem dX5_fit_41 : decode cX5_fit 41 = .ok (.iload_n 2, 1) := by decide +kernel
theorem dX5_fit_42 : decode cX5_fit 42 = .ok (.isub, 1) := by decide +kernel
theorem dX5_fit_43 : decode cX5_fit 43 = .ok (.invokestatic 80, 3) := by decide +kernel
theorem dX5_fit_46 : decode cX5_fit 46 = .ok (.iconst 1, 1) := by decide +kernel
theorem dX5_fit_47 : decode cX5_fit 47 = .ok (.if_icmp .le 6, 3) := by decide +kernel
theorem dX5_fit_50 : decode cX5_fit 50 = .ok (.ldc 73, 2) := by decide +kernel
theorem dX5_fit_52 : decode cX5_fit 52 = .ok (.ireturn, 1) := by decide +kernel
theorem dX5_fit_53 : decode cX5_fit 53 = .ok (.aload_n 0, 1) := by decide +kernel
theorem dX5_fit_54 : decode cX5_fit 54 = .ok (.getfield 10, 3) := by decide +kernel
theorem dX5_fit_57 : decode cX5_fit 57 = .ok (.getfield 85, 3) := by decide +kernel
theorem dX5_fit_60 : decode cX5_fit 60 = .ok (.iload_n 1, 1) := by decide +kernel
theorem dX5_fit_61 : decode cX5_fit 61 = .ok (.aaload, 1) := by decide +kernel
theorem dX5_fit_62 : decode cX5_fit 62 = .ok (.iload_n 3, 1) := by decide +kernel
theorem dX5_fit_63 : decode cX5_fit 63 = .ok (.iaload, 1) := by decide +kernel
theorem dX5_fit_64 : decode cX5_fit 64 = .ok (.ifCond .ne 6, 3) := by decide +kernel
theorem dX5_fit_67 : decode cX5_fit 67 = .ok (.ldc 73, 2) := by decide +kernel
theorem dX5_fit_69 : decode cX5_fit 69 = .ok (.ireturn, 1) := by decide +kernel
theorem dX5_fit_70 : decode cX5_fit 70 = .ok (.aload_n 0, 1) := by decide +kernel
theorem dX5_fit_71 : decode cX5_fit 71 = .ok (.invokevirtual 52, 3) := by decide +kernel
theorem dX5_fit_74 : decode cX5_fit 74 = .ok (.aload_n 0, 1) := by decide +kernel
theorem dX5_fit_75 : decode cX5_fit 75 = .ok (.getfield 10, 3) := by decide +kernel
theorem dX5_fit_78 : decode cX5_fit 78 = .ok (.getfield 66, 3) := by decide +kernel
theorem dX5_fit_81 : decode cX5_fit 81 = .ok (.iload_n 1, 1) := by decide +kernel
theorem dX5_fit_82 : decode cX5_fit 82 = .ok (.dup2, 1) := by decide +kernel
theorem dX5_fit_83 : decode cX5_fit 83 = .ok (.iaload, 1) := by decide +kernel
theorem dX5_fit_84 : decode cX5_fit 84 = .ok (.iconst 1, 1) := by decide +kernel
theorem dX5_fit_85 : decode cX5_fit 85 = .ok (.iload_n 2, 1) := by decide +kernel
theorem dX5_fit_86 : decode cX5_fit 86 = .ok (.ishl, 1) := by decide +kernel
theorem dX5_fit_87 : decode cX5_fit 87 = .ok (.iconst (-1), 1) := by decide +kernel
theorem dX5_fit_88 : decode cX5_fit 88 = .ok (.ixor, 1) := by decide +kernel
theorem dX5_fit_89 : decode cX5_fit 89 = .ok (.iand, 1) := by decide +kernel
theorem dX5_fit_90 : decode cX5_fit 90 = .ok (.iastore, 1) := by decide +kernel
theorem dX5_fit_91 : decode cX5_fit 91 = .ok (.aload_n 0, 1) := by decide +kernel
theorem dX5_fit_92 : decode cX5_fit 92 = .ok (.getfield 10, 3) := by decide +kernel
theorem dX5_fit_95 : decode cX5_fit 95 = .ok (.getfield 85, 3) := by decide +kernel
theorem dX5_fit_98 : decode cX5_fit 98 = .ok (.iload_n 1, 1) := by decide +kernel
theorem dX5_fit_99 : decode cX5_fit 99 = .ok (.aaload, 1) := by decide +kernel
theorem dX5_fit_100 : decode cX5_fit 100 = .ok (.iload_n 3, 1) := by decide +kernel
theorem dX5_fit_101 : decode cX5_fit 101 = .ok (.dup2, 1) := by decide +kernel
theorem dX5_fit_102 : decode cX5_fit 102 = .ok (.iaload, 1) := by decide +kernel
theorem dX5_fit_103 : decode cX5_fit 103 = .ok (.iconst 1, 1) := by decide +kernel
theorem dX5_fit_104 : decode cX5_fit 104 = .ok (.isub, 1) := by decide +kernel
theorem dX5_fit_105 : decode cX5_fit 105 = .ok (.iastore, 1) := by decide +kernel
theorem dX5_fit_106 : decode cX5_fit 106 = .ok (.aload_n 0, 1) := by decide +kernel
theorem dX5_fit_107 : decode cX5_fit 107 = .ok (.getfield 10, 3) := by decide +kernel
theorem dX5_fit_110 : decode cX5_fit 110 = .ok (.getfield 85, 3) := by decide +kernel
theorem dX5_fit_113 : decode cX5_fit 113 = .ok (.iload_n 1, 1) := by decide +kernel
theorem dX5_fit_114 : decode cX5_fit 114 = .ok (.aaload, 1) := by decide +kernel
theorem dX5_fit_115 : decode cX5_fit 115 = .ok (.iload_n 3, 1) := by decide +kernel
theorem dX5_fit_116 : decode cX5_fit 116 = .ok (.iaload, 1) := by decide +kernel
theorem dX5_fit_117 : decode cX5_fit 117 = .ok (.ireturn, 1) := by decide +kernel
theorem dX5_want_0 : decode cX5_want 0 = .ok (.iload_n 1, 1) := by decide +kernel
theorem dX5_want_1 : decode cX5_want 1 = .ok (.invokestatic 58, 3) := by decide +kernel
theorem dX5_want_4 : decode cX5_want 4 = .ok (.ifCond .eq 10, 3) := by decide +kernel
theorem dX5_want_7 : decode cX5_want 7 = .ok (.iload_n 2, 1) := by decide +kernel
theorem dX5_want_8 : decode cX5_want 8 = .ok (.invokestatic 62, 3) := by decide +kernel
theorem dX5_want_11 : decode cX5_want 11 = .ok (.ifCond .ne 6, 3) := by decide +kernel
theorem dX5_want_14 : decode cX5_want 14 = .ok (.ldc 65, 2) := by decide +kernel
theorem dX5_want_16 : decode cX5_want 16 = .ok (.ireturn, 1) := by decide +kernel
theorem dX5_want_17 : decode cX5_want 17 = .ok (.iload_n 3, 1) := by decide +kernel
theorem dX5_want_18 : decode cX5_want 18 = .ok (.ifCond .lt 9, 3) := by decide +kernel
theorem dX5_want_21 : decode cX5_want 21 = .ok (.iload_n 3, 1) := by decide +kernel
theorem dX5_want_22 : decode cX5_want 22 = .ok (.bipush 20, 2) := by decide +kernel
theorem dX5_want_24 : decode cX5_want 24 = .ok (.if_icmp .le 6, 3) := by decide +kernel
theorem dX5_want_27 : decode cX5_want 27 = .ok (.ldc 48, 2) := by decide +kernel
theorem dX5_want_29 : decode cX5_want 29 = .ok (.ireturn, 1) := by decide +kernel
theorem dX5_want_30 : decode cX5_want 30 = .ok (.aload_n 0, 1) := by decide +kernel
theorem dX5_want_31 : decode cX5_want 31 = .ok (.invokevirtual 52, 3) := by decide +kernel
theorem dX5_want_34 : decode cX5_want 34 = .ok (.aload_n 0, 1) := by decide +kernel
theorem dX5_want_35 : decode cX5_want 35 = .ok (.getfield 10, 3) := by decide +kernel
theorem dX5_want_38 : decode cX5_want 38 = .ok (.getfield 89, 3) := by decide +kernel
theorem dX5_want_41 : decode cX5_want 41 = .ok (.iload_n 1, 1) := by decide +kernel
theorem dX5_want_42 : decode cX5_want 42 = .ok (.aaload, 1) := by decide +kernel
theorem dX5_want_43 : decode cX5_want 43 = .ok (.iload_n 2, 1) := by decide +kernel
theorem dX5_want_44 : decode cX5_want 44 = .ok (.iload_n 3, 1) := by decide +kernel
theorem dX5_want_45 : decode cX5_want 45 = .ok (.iastore, 1) := by decide +kernel
theorem dX5_want_46 : decode cX5_want 46 = .ok (.aload_n 0, 1) := by decide +kernel
theorem dX5_want_47 : decode cX5_want 47 = .ok (.bipush 63, 2) := by decide +kernel
theorem dX5_want_49 : decode cX5_want 49 = .ok (.invokevirtual 92, 3) := by decide +kernel
theorem dX5_want_52 : decode cX5_want 52 = .ok (.ireturn, 1) := by decide +kernel
theorem dX5_pay_0 : decode cX5_pay 0 = .ok (.iload_n 1, 1) := by decide +kernel
theorem dX5_pay_1 : decode cX5_pay 1 = .ok (.invokestatic 58, 3) := by decide +kernel
theorem dX5_pay_4 : decode cX5_pay 4 = .ok (.ifCond .ne 6, 3) := by decide +kernel
theorem dX5_pay_7 : decode cX5_pay 7 = .ok (.ldc 65, 2) := by decide +kernel
theorem dX5_pay_9 : decode cX5_pay 9 = .ok (.ireturn, 1) := by decide +kernel
theorem dX5_pay_10 : decode cX5_pay 10 = .ok (.iload_n 2, 1) := by decide +kernel
theorem dX5_pay_11 : decode cX5_pay 11 = .ok (.iconst 1, 1) := by decide +kernel
theorem dX5_pay_12 : decode cX5_pay 12 = .ok (.if_icmp .lt 10, 3) := by decide +kernel
theorem dX5_pay_15 : decode cX5_pay 15 = .ok (.iload_n 2, 1) := by decide +kernel
theorem dX5_pay_16 : decode cX5_pay 16 = .ok (.sipush 1000, 3) := by decide +kernel
theorem dX5_pay_19 : decode cX5_pay 19 = .ok (.if_icmp .le 6, 3) := by decide +kernel
theorem dX5_pay_22 : decode cX5_pay 22 = .ok (.ldc 48, 2) := by decide +kernel
theorem dX5_pay_24 : decode cX5_pay 24 = .ok (.ireturn, 1) := by decide +kernel
theorem dX5_pay_25 : decode cX5_pay 25 = .ok (.aload_n 0, 1) := by decide +kernel
theorem dX5_pay_26 : decode cX5_pay 26 = .ok (.invokevirtual 52, 3) := by decide +kernel
theorem dX5_pay_29 : decode cX5_pay 29 = .ok (.aload_n 0, 1) := by decide +kernel
theorem dX5_pay_30 : decode cX5_pay 30 = .ok (.getfield 10, 3) := by decide +kernel
theorem dX5_pay_33 : decode cX5_pay 33 = .ok (.getfield 109, 3) := by decide +kernel
theorem dX5_pay_36 : decode cX5_pay 36 = .ok (.iload_n 1, 1) := by decide +kernel
theorem dX5_pay_37 : decode cX5_pay 37 = .ok (.dup2, 1) := by decide +kernel
theorem dX5_pay_38 : decode cX5_pay 38 = .ok (.iaload, 1) := by decide +kernel
theorem dX5_pay_39 : decode cX5_pay 39 = .ok (.iload_n 2, 1) := by decide +kernel
theorem dX5_pay_40 : decode cX5_pay 40 = .ok (.iadd, 1) := by decide +kernel
theorem dX5_pay_41 : decode cX5_pay 41 = .ok (.iastore, 1) := by decide +kernel
theorem dX5_pay_42 : decode cX5_pay 42 = .ok (.aload_n 0, 1) := by decide +kernel
theorem dX5_pay_43 : decode cX5_pay 43 = .ok (.getfield 10, 3) := by decide +kernel
theorem dX5_pay_46 : decode cX5_pay 46 = .ok (.getfield 109, 3) := by decide +kernel
theorem dX5_pay_49 : decode cX5_pay 49 = .ok (.iload_n 1, 1) := by decide +kernel
theorem dX5_pay_50 : decode cX5_pay 50 = .ok (.iaload, 1) := by decide +kernel
theorem dX5_pay_51 : decode cX5_pay 51 = .ok (.ireturn, 1) := by decide +kernel
theorem dX5_give_0 : decode cX5_give 0 = .ok (.iload_n 1, 1) := by decide +kernel
theorem dX5_give_1 : decode cX5_give 1 = .ok (.invokestatic 58, 3) := by decide +kernel
theorem dX5_give_4 : decode cX5_give 4 = .ok (.ifCond .eq 17, 3) := by decide +kernel
theorem dX5_give_7 : decode cX5_give 7 = .ok (.iload_n 2, 1) := by decide +kernel
theorem dX5_give_8 : decode cX5_give 8 = .ok (.invokestatic 58, 3) := by decide +kernel
theorem dX5_give_11 : decode cX5_give 11 = .ok (.ifCond .eq 10, 3) := by decide +kernel
theorem dX5_give_14 : decode cX5_give 14 = .ok (.iload_n 3, 1) := by decide +kernel
theorem dX5_give_15 : decode cX5_give 15 = .ok (.invokestatic 62, 3) := by decide +kernel
theorem dX5_give_18 : decode cX5_give 18 = .ok (.ifCond .ne 6, 3) := by decide +kernel
theorem dX5_give_21 : decode cX5_give 21 = .ok (.ldc 65, 2) := by decide +kernel
theorem dX5_give_23 : decode cX5_give 23 = .ok (.ireturn, 1) := by decide +kernel
theorem dX5_give_24 : decode cX5_give 24 = .ok (.iload_n 1, 1) := by decide +kernel
theorem dX5_give_25 : decode cX5_give 25 = .ok (.iload_n 2, 1) := by decide +kernel
theorem dX5_give_26 : decode cX5_give 26 = .ok (.if_icmp .eq 16, 3) := by decide +kernel
theorem dX5_give_29 : decode cX5_give 29 = .ok (.iload 4, 2) := by decide +kernel
theorem dX5_give_31 : decode cX5_give 31 = .ok (.iconst 1, 1) := by decide +kernel
theorem dX5_give_32 : decode cX5_give 32 = .ok (.if_icmp .lt 10, 3) := by decide +kernel
theorem dX5_give_35 : decode cX5_give 35 = .ok (.iload 4, 2) := by decide +kernel
theorem dX5_give_37 : decode cX5_give 37 = .ok (.bipush 20, 2) := by decide +kernel
theorem dX5_give_39 : decode cX5_give 39 = .ok (.if_icmp .le 6, 3) := by decide +kernel
theorem dX5_give_42 : decode cX5_give 42 = .ok (.ldc 48, 2) := by decide +kernel
theorem dX5_give_44 : decode cX5_give 44 = .ok (.ireturn, 1) := by decide +kernel
theorem dX5_give_45 : decode cX5_give 45 = .ok (.aload_n 0, 1) := by decide +kernel
theorem dX5_give_46 : decode cX5_give 46 = .ok (.getfield 10, 3) := by decide +kernel
theorem dX5_give_49 : decode cX5_give 49 = .ok (.getfield 85, 3) := by decide +kernel
theorem dX5_give_52 : decode cX5_give 52 = .ok (.iload_n 1, 1) := by decide +kernel
theorem dX5_give_53 : decode cX5_give 53 = .ok (.aaload, 1) := by decide +kernel
theorem dX5_give_54 : decode cX5_give 54 = .ok (.iload_n 3, 1) := by decide +kernel
theorem dX5_give_55 : decode cX5_give 55 = .ok (.iaload, 1) := by decide +kernel
theorem dX5_give_56 : decode cX5_give 56 = .ok (.iload 4, 2) := by decide +kernel
theorem dX5_give_58 : decode cX5_give 58 = .ok (.if_icmp .lt 22, 3) := by decide +kernel
theorem dX5_give_61 : decode cX5_give 61 = .ok (.aload_n 0, 1) := by decide +kernel
theorem dX5_give_62 : decode cX5_give 62 = .ok (.getfield 10, 3) := by decide +kernel
theorem dX5_give_65 : decode cX5_give 65 = .ok (.getfield 85, 3) := by decide +kernel
theorem dX5_give_68 : decode cX5_give 68 = .ok (.iload_n 2, 1) := by decide +kernel
theorem dX5_give_69 : decode cX5_give 69 = .ok (.aaload, 1) := by decide +kernel
theorem dX5_give_70 : decode cX5_give 70 = .ok (.iload_n 3, 1) := by decide +kernel
theorem dX5_give_71 : decode cX5_give 71 = .ok (.iaload, 1) := by decide +kernel
theorem dX5_give_72 : decode cX5_give 72 = .ok (.iload 4, 2) := by decide +kernel
theorem dX5_give_74 : decode cX5_give 74 = .ok (.iadd, 1) := by decide +kernel
theorem dX5_give_75 : decode cX5_give 75 = .ok (.bipush 99, 2) := by decide +kernel
theorem dX5_give_77 : decode cX5_give 77 = .ok (.if_icmp .le 6, 3) := by decide +kernel
theorem dX5_give_80 : decode cX5_give 80 = .ok (.ldc 73, 2) := by decide +kernel
theorem dX5_give_82 : decode cX5_give 82 = .ok (.ireturn, 1) := by decide +kernel
theorem dX5_give_83 : decode cX5_give 83 = .ok (.aload_n 0, 1) := by decide +kernel
theorem dX5_give_84 : decode cX5_give 84 = .ok (.invokevirtual 52, 3) := by decide +kernel
theorem dX5_give_87 : decode cX5_give 87 = .ok (.aload_n 0, 1) := by decide +kernel
theorem dX5_give_88 : decode cX5_give 88 = .ok (.getfield 10, 3) := by decide +kernel
theorem dX5_give_91 : decode cX5_give 91 = .ok (.getfield 85, 3) := by decide +kernel
theorem dX5_give_94 : decode cX5_give 94 = .ok (.iload_n 1, 1) := by decide +kernel
theorem dX5_give_95 : decode cX5_give 95 = .ok (.aaload, 1) := by decide +kernel
theorem dX5_give_96 : decode cX5_give 96 = .ok (.iload_n 3, 1) := by decide +kernel
theorem dX5_give_97 : decode cX5_give 97 = .ok (.dup2, 1) := by decide +kernel
theorem dX5_give_98 : decode cX5_give 98 = .ok (.iaload, 1) := by decide +kernel
theorem dX5_give_99 : decode cX5_give 99 = .ok (.iload 4, 2) := by decide +kernel
theorem dX5_give_101 : decode cX5_give 101 = .ok (.isub, 1) := by decide +kernel
theorem dX5_give_102 : decode cX5_give 102 = .ok (.iastore, 1) := by decide +kernel
theorem dX5_give_103 : decode cX5_give 103 = .ok (.aload_n 0, 1) := by decide +kernel
theorem dX5_give_104 : decode cX5_give 104 = .ok (.getfield 10, 3) := by decide +kernel
theorem dX5_give_107 : decode cX5_give 107 = .ok (.getfield 85, 3) := by decide +kernel
theorem dX5_give_110 : decode cX5_give 110 = .ok (.iload_n 2, 1) := by decide +kernel
theorem dX5_give_111 : decode cX5_give 111 = .ok (.aaload, 1) := by decide +kernel
theorem dX5_give_112 : decode cX5_give 112 = .ok (.iload_n 3, 1) := by decide +kernel
theorem dX5_give_113 : decode cX5_give 113 = .ok (.dup2, 1) := by decide +kernel
theorem dX5_give_114 : decode cX5_give 114 = .ok (.iaload, 1) := by decide +kernel
theorem dX5_give_115 : decode cX5_give 115 = .ok (.iload 4, 2) := by decide +kernel
theorem dX5_give_117 : decode cX5_give 117 = .ok (.iadd, 1) := by decide +kernel
theorem dX5_give_118 : decode cX5_give 118 = .ok (.iastore, 1) := by decide +kernel
theorem dX5_give_119 : decode cX5_give 119 = .ok (.aload_n 0, 1) := by decide +kernel
theorem dX5_give_120 : decode cX5_give 120 = .ok (.getfield 10, 3) := by decide +kernel
theorem dX5_give_123 : decode cX5_give 123 = .ok (.getfield 109, 3) := by decide +kernel
theorem dX5_give_126 : decode cX5_give 126 = .ok (.iload_n 1, 1) := by decide +kernel
theorem dX5_give_127 : decode cX5_give 127 = .ok (.dup2, 1) := by decide +kernel
theorem dX5_give_128 : decode cX5_give 128 = .ok (.iaload, 1) := by decide +kernel
theorem dX5_give_129 : decode cX5_give 129 = .ok (.iload 4, 2) := by decide +kernel
theorem dX5_give_131 : decode cX5_give 131 = .ok (.iload_n 3, 1) := by decide +kernel
theorem dX5_give_132 : decode cX5_give 132 = .ok (.invokestatic 112, 3) := by decide +kernel
theorem dX5_give_135 : decode cX5_give 135 = .ok (.imul, 1) := by decide +kernel
theorem dX5_give_136 : decode cX5_give 136 = .ok (.iadd, 1) := by decide +kernel
theorem dX5_give_137 : decode cX5_give 137 = .ok (.iastore, 1) := by decide +kernel
theorem dX5_give_138 : decode cX5_give 138 = .ok (.aload_n 0, 1) := by decide +kernel
theorem dX5_give_139 : decode cX5_give 139 = .ok (.getfield 10, 3) := by decide +kernel
theorem dX5_give_142 : decode cX5_give 142 = .ok (.getfield 109, 3) := by decide +kernel
theorem dX5_give_145 : decode cX5_give 145 = .ok (.iload_n 2, 1) := by decide +kernel
theorem dX5_give_146 : decode cX5_give 146 = .ok (.dup2, 1) := by decide +kernel
theorem dX5_give_147 : decode cX5_give 147 = .ok (.iaload, 1) := by decide +kernel
theorem dX5_give_148 : decode cX5_give 148 = .ok (.iload 4, 2) := by decide +kernel
theorem dX5_give_150 : decode cX5_give 150 = .ok (.iload_n 3, 1) := by decide +kernel
theorem dX5_give_151 : decode cX5_give 151 = .ok (.invokestatic 112, 3) := by decide +kernel
theorem dX5_give_154 : decode cX5_give 154 = .ok (.imul, 1) := by decide +kernel
theorem dX5_give_155 : decode cX5_give 155 = .ok (.isub, 1) := by decide +kernel
theorem dX5_give_156 : decode cX5_give 156 = .ok (.iastore, 1) := by decide +kernel
theorem dX5_give_157 : decode cX5_give 157 = .ok (.aload_n 0, 1) := by decide +kernel
theorem dX5_give_158 : decode cX5_give 158 = .ok (.getfield 10, 3) := by decide +kernel
theorem dX5_give_161 : decode cX5_give 161 = .ok (.getfield 109, 3) := by decide +kernel
theorem dX5_give_164 : decode cX5_give 164 = .ok (.iload_n 1, 1) := by decide +kernel
theorem dX5_give_165 : decode cX5_give 165 = .ok (.iaload, 1) := by decide +kernel
theorem dX5_give_166 : decode cX5_give 166 = .ok (.ireturn, 1) := by decide +kernel
theorem dX5_send_0 : decode cX5_send 0 = .ok (.iload_n 1, 1) := by decide +kernel
theorem dX5_send_1 : decode cX5_send 1 = .ok (.ifCond .eq 10, 3) := by decide +kernel
theorem dX5_send_4 : decode cX5_send 4 = .ok (.iload_n 1, 1) := by decide +kernel
theorem dX5_send_5 : decode cX5_send 5 = .ok (.invokestatic 115, 3) := by decide +kernel
theorem dX5_send_8 : decode cX5_send 8 = .ok (.ifCond .ne 6, 3) := by decide +kernel
theorem dX5_send_11 : decode cX5_send 11 = .ok (.ldc 48, 2) := by decide +kernel
theorem dX5_send_13 : decode cX5_send 13 = .ok (.ireturn, 1) := by decide +kernel
theorem dX5_send_14 : decode cX5_send 14 = .ok (.aload_n 0, 1) := by decide +kernel
theorem dX5_send_15 : decode cX5_send 15 = .ok (.getfield 40, 3) := by decide +kernel
theorem dX5_send_18 : decode cX5_send 18 = .ok (.aload_n 0, 1) := by decide +kernel
theorem dX5_send_19 : decode cX5_send 19 = .ok (.getfield 10, 3) := by decide +kernel
theorem dX5_send_22 : decode cX5_send 22 = .ok (.iload_n 1, 1) := by decide +kernel
theorem dX5_send_23 : decode cX5_send 23 = .ok (.invokevirtual 118, 3) := by decide +kernel
theorem dX5_send_26 : decode cX5_send 26 = .ok (.aload_n 0, 1) := by decide +kernel
theorem dX5_send_27 : decode cX5_send 27 = .ok (.getfield 40, 3) := by decide +kernel
theorem dX5_send_30 : decode cX5_send 30 = .ok (.getfield 122, 3) := by decide +kernel
theorem dX5_send_33 : decode cX5_send 33 = .ok (.ifCond .eq 23, 3) := by decide +kernel
theorem dX5_send_36 : decode cX5_send 36 = .ok (.aload_n 0, 1) := by decide +kernel
theorem dX5_send_37 : decode cX5_send 37 = .ok (.getfield 40, 3) := by decide +kernel
theorem dX5_send_40 : decode cX5_send 40 = .ok (.invokevirtual 125, 3) := by decide +kernel
theorem dX5_send_43 : decode cX5_send 43 = .ok (.aload_n 0, 1) := by decide +kernel
theorem dX5_send_44 : decode cX5_send 44 = .ok (.getfield 10, 3) := by decide +kernel
theorem dX5_send_47 : decode cX5_send 47 = .ok (.getfield 109, 3) := by decide +kernel
theorem dX5_send_50 : decode cX5_send 50 = .ok (.invokestatic 128, 3) := by decide +kernel
theorem dX5_send_53 : decode cX5_send 53 = .ok (.if_icmp .le 6, 3) := by decide +kernel
theorem dX5_send_56 : decode cX5_send 56 = .ok (.ldc 73, 2) := by decide +kernel
theorem dX5_send_58 : decode cX5_send 58 = .ok (.ireturn, 1) := by decide +kernel
theorem dX5_send_59 : decode cX5_send 59 = .ok (.aload_n 0, 1) := by decide +kernel
theorem dX5_send_60 : decode cX5_send 60 = .ok (.getfield 10, 3) := by decide +kernel
theorem dX5_send_63 : decode cX5_send 63 = .ok (.getfield 132, 3) := by decide +kernel
theorem dX5_send_66 : decode cX5_send 66 = .ok (.iconst 5, 1) := by decide +kernel
theorem dX5_send_67 : decode cX5_send 67 = .ok (.if_icmp .lt 6, 3) := by decide +kernel
theorem dX5_send_70 : decode cX5_send 70 = .ok (.ldc 135, 2) := by decide +kernel
theorem dX5_send_72 : decode cX5_send 72 = .ok (.ireturn, 1) := by decide +kernel
theorem dX5_send_73 : decode cX5_send 73 = .ok (.aload_n 0, 1) := by decide +kernel
theorem dX5_send_74 : decode cX5_send 74 = .ok (.invokevirtual 52, 3) := by decide +kernel
theorem dX5_send_77 : decode cX5_send 77 = .ok (.aload_n 0, 1) := by decide +kernel
theorem dX5_send_78 : decode cX5_send 78 = .ok (.getfield 10, 3) := by decide +kernel
theorem dX5_send_81 : decode cX5_send 81 = .ok (.aload_n 0, 1) := by decide +kernel
theorem dX5_send_82 : decode cX5_send 82 = .ok (.getfield 40, 3) := by decide +kernel
theorem dX5_send_85 : decode cX5_send 85 = .ok (.iload_n 1, 1) := by decide +kernel
theorem dX5_send_86 : decode cX5_send 86 = .ok (.invokevirtual 136, 3) := by decide +kernel
theorem dX5_send_89 : decode cX5_send 89 = .ok (.aload_n 0, 1) := by decide +kernel
theorem dX5_send_90 : decode cX5_send 90 = .ok (.getfield 40, 3) := by decide +kernel
theorem dX5_send_93 : decode cX5_send 93 = .ok (.invokevirtual 125, 3) := by decide +kernel
theorem dX5_send_96 : decode cX5_send 96 = .ok (.ireturn, 1) := by decide +kernel
theorem dX5_pass_0 : decode cX5_pass 0 = .ok (.iload_n 1, 1) := by decide +kernel
theorem dX5_pass_1 : decode cX5_pass 1 = .ok (.iconst 1, 1) := by decide +kernel
theorem dX5_pass_2 : decode cX5_pass 2 = .ok (.if_icmp .lt 9, 3) := by decide +kernel
theorem dX5_pass_5 : decode cX5_pass 5 = .ok (.iload_n 1, 1) := by decide +kernel
theorem dX5_pass_6 : decode cX5_pass 6 = .ok (.bipush 60, 2) := by decide +kernel
theorem dX5_pass_8 : decode cX5_pass 8 = .ok (.if_icmp .le 6, 3) := by decide +kernel
theorem dX5_pass_11 : decode cX5_pass 11 = .ok (.ldc 48, 2) := by decide +kernel
theorem dX5_pass_13 : decode cX5_pass 13 = .ok (.ireturn, 1) := by decide +kernel
theorem dX5_pass_14 : decode cX5_pass 14 = .ok (.aload_n 0, 1) := by decide +kernel
theorem dX5_pass_15 : decode cX5_pass 15 = .ok (.getfield 10, 3) := by decide +kernel
theorem dX5_pass_18 : decode cX5_pass 18 = .ok (.getfield 140, 3) := by decide +kernel
theorem dX5_pass_21 : decode cX5_pass 21 = .ok (.iload_n 1, 1) := by decide +kernel
theorem dX5_pass_22 : decode cX5_pass 22 = .ok (.iadd, 1) := by decide +kernel
theorem dX5_pass_23 : decode cX5_pass 23 = .ok (.sipush 9999, 3) := by decide +kernel
theorem dX5_pass_26 : decode cX5_pass 26 = .ok (.if_icmp .le 6, 3) := by decide +kernel
theorem dX5_pass_29 : decode cX5_pass 29 = .ok (.ldc 135, 2) := by decide +kernel
theorem dX5_pass_31 : decode cX5_pass 31 = .ok (.ireturn, 1) := by decide +kernel
theorem dX5_pass_32 : decode cX5_pass 32 = .ok (.aload_n 0, 1) := by decide +kernel
theorem dX5_pass_33 : decode cX5_pass 33 = .ok (.invokevirtual 52, 3) := by decide +kernel
theorem dX5_pass_36 : decode cX5_pass 36 = .ok (.iconst 0, 1) := by decide +kernel
theorem dX5_pass_37 : decode cX5_pass 37 = .ok (.istore_n 2, 1) := by decide +kernel
theorem dX5_pass_38 : decode cX5_pass 38 = .ok (.iconst 0, 1) := by decide +kernel
theorem dX5_pass_39 : decode cX5_pass 39 = .ok (.istore_n 3, 1) := by decide +kernel
theorem dX5_pass_40 : decode cX5_pass 40 = .ok (.iload_n 3, 1) := by decide +kernel
theorem dX5_pass_41 : decode cX5_pass 41 = .ok (.iload_n 1, 1) := by decide +kernel
theorem dX5_pass_42 : decode cX5_pass 42 = .ok (.if_icmp .ge 19, 3) := by decide +kernel
theorem dX5_pass_45 : decode cX5_pass 45 = .ok (.iload_n 2, 1) := by decide +kernel
theorem dX5_pass_46 : decode cX5_pass 46 = .ok (.aload_n 0, 1) := by decide +kernel
theorem dX5_pass_47 : decode cX5_pass 47 = .ok (.getfield 10, 3) := by decide +kernel
theorem dX5_pass_50 : decode cX5_pass 50 = .ok (.invokevirtual 143, 3) := by decide +kernel
theorem dX5_pass_53 : decode cX5_pass 53 = .ok (.iadd, 1) := by decide +kernel
theorem dX5_pass_54 : decode cX5_pass 54 = .ok (.istore_n 2, 1) := by decide +kernel
theorem dX5_pass_55 : decode cX5_pass 55 = .ok (.iinc 3 1, 3) := by decide +kernel
theorem dX5_pass_58 : decode cX5_pass 58 = .ok (.goto (-18), 3) := by decide +kernel
theorem dX5_pass_61 : decode cX5_pass 61 = .ok (.iload_n 2, 1) := by decide +kernel
theorem dX5_pass_62 : decode cX5_pass 62 = .ok (.ireturn, 1) := by decide +kernel
theorem dX5_shuffle_0 : decode cX5_shuffle 0 = .ok (.iload_n 1, 1) := by decide +kernel
theorem dX5_shuffle_1 : decode cX5_shuffle 1 = .ok (.ifCond .ge 6, 3) := by decide +kernel
theorem dX5_shuffle_4 : decode cX5_shuffle 4 = .ok (.ldc 48, 2) := by decide +kernel
theorem dX5_shuffle_6 : decode cX5_shuffle 6 = .ok (.ireturn, 1) := by decide +kernel
theorem dX5_shuffle_7 : decode cX5_shuffle 7 = .ok (.aload_n 0, 1) := by decide +kernel
theorem dX5_shuffle_8 : decode cX5_shuffle 8 = .ok (.invokevirtual 52, 3) := by decide +kernel
theorem dX5_shuffle_11 : decode cX5_shuffle 11 = .ok (.aload_n 0, 1) := by decide +kernel
theorem dX5_shuffle_12 : decode cX5_shuffle 12 = .ok (.getfield 10, 3) := by decide +kernel
theorem dX5_shuffle_15 : decode cX5_shuffle 15 = .ok (.getfield 146, 3) := by decide +kernel
theorem dX5_shuffle_18 : decode cX5_shuffle 18 = .ok (.istore_n 2, 1) := by decide +kernel
theorem dX5_shuffle_19 : decode cX5_shuffle 19 = .ok (.aload_n 0, 1) := by decide +kernel
theorem dX5_shuffle_20 : decode cX5_shuffle 20 = .ok (.getfield 10, 3) := by decide +kernel
theorem dX5_shuffle_23 : decode cX5_shuffle 23 = .ok (.iload_n 1, 1) := by decide +kernel
theorem dX5_shuffle_24 : decode cX5_shuffle 24 = .ok (.putfield 146, 3) := by decide +kernel
theorem dX5_shuffle_27 : decode cX5_shuffle 27 = .ok (.iload_n 2, 1) := by decide +kernel
theorem dX5_shuffle_28 : decode cX5_shuffle 28 = .ok (.ireturn, 1) := by decide +kernel
theorem dX5_member_0 : decode cX5_member 0 = .ok (.iload_n 1, 1) := by decide +kernel
theorem dX5_member_1 : decode cX5_member 1 = .ok (.invokestatic 58, 3) := by decide +kernel
theorem dX5_member_4 : decode cX5_member 4 = .ok (.ifCond .ne 6, 3) := by decide +kernel
theorem dX5_member_7 : decode cX5_member 7 = .ok (.ldc 65, 2) := by decide +kernel
theorem dX5_member_9 : decode cX5_member 9 = .ok (.ireturn, 1) := by decide +kernel
theorem dX5_member_10 : decode cX5_member 10 = .ok (.iload_n 2, 1) := by decide +kernel
theorem dX5_member_11 : decode cX5_member 11 = .ok (.tableswitch 144 0 8 #[49, 59, 69, 82, 95, 104, 114, 124, 134], 49) := by decide +kernel
theorem dX5_member_60 : decode cX5_member 60 = .ok (.aload_n 0, 1) := by decide +kernel
theorem dX5_member_61 : decode cX5_member 61 = .ok (.getfield 10, 3) := by decide +kernel
theorem dX5_member_64 : decode cX5_member 64 = .ok (.getfield 109, 3) := by decide +kernel
theorem dX5_member_67 : decode cX5_member 67 = .ok (.iload_n 1, 1) := by decide +kernel
theorem dX5_member_68 : decode cX5_member 68 = .ok (.iaload, 1) := by decide +kernel
theorem dX5_member_69 : decode cX5_member 69 = .ok (.ireturn, 1) := by decide +kernel
theorem dX5_member_70 : decode cX5_member 70 = .ok (.aload_n 0, 1) := by decide +kernel
theorem dX5_member_71 : decode cX5_member 71 = .ok (.getfield 10, 3) := by decide +kernel
theorem dX5_member_74 : decode cX5_member 74 = .ok (.getfield 66, 3) := by decide +kernel
theorem dX5_member_77 : decode cX5_member 77 = .ok (.iload_n 1, 1) := by decide +kernel
theorem dX5_member_78 : decode cX5_member 78 = .ok (.iaload, 1) := by decide +kernel
theorem dX5_member_79 : decode cX5_member 79 = .ok (.ireturn, 1) := by decide +kernel
theorem dX5_member_80 : decode cX5_member 80 = .ok (.aload_n 0, 1) := by decide +kernel
theorem dX5_member_81 : decode cX5_member 81 = .ok (.getfield 10, 3) := by decide +kernel
theorem dX5_member_84 : decode cX5_member 84 = .ok (.getfield 85, 3) := by decide +kernel
theorem dX5_member_87 : decode cX5_member 87 = .ok (.iload_n 1, 1) := by decide +kernel
theorem dX5_member_88 : decode cX5_member 88 = .ok (.aaload, 1) := by decide +kernel
theorem dX5_member_89 : decode cX5_member 89 = .ok (.invokestatic 128, 3) := by decide +kernel
theorem dX5_member_92 : decode cX5_member 92 = .ok (.ireturn, 1) := by decide +kernel
theorem dX5_member_93 : decode cX5_member 93 = .ok (.aload_n 0, 1) := by decide +kernel
theorem dX5_member_94 : decode cX5_member 94 = .ok (.getfield 10, 3) := by decide +kernel
theorem dX5_member_97 : decode cX5_member 97 = .ok (.getfield 89, 3) := by decide +kernel
theorem dX5_member_100 : decode cX5_member 100 = .ok (.iload_n 1, 1) := by decide +kernel
theorem dX5_member_101 : decode cX5_member 101 = .ok (.aaload, 1) := by decide +kernel
theorem dX5_member_102 : decode cX5_member 102 = .ok (.invokestatic 128, 3) := by decide +kernel
theorem dX5_member_105 : decode cX5_member 105 = .ok (.ireturn, 1) := by decide +kernel
theorem dX5_member_106 : decode cX5_member 106 = .ok (.aload_n 0, 1) := by decide +kernel
theorem dX5_member_107 : decode cX5_member 107 = .ok (.getfield 10, 3) := by decide +kernel
theorem dX5_member_110 : decode cX5_member 110 = .ok (.iload_n 1, 1) := by decide +kernel
theorem dX5_member_111 : decode cX5_member 111 = .ok (.invokevirtual 149, 3) := by decide +kernel
theorem dX5_member_114 : decode cX5_member 114 = .ok (.ireturn, 1) := by decide +kernel
theorem dX5_member_115 : decode cX5_member 115 = .ok (.aload_n 0, 1) := by decide +kernel
theorem dX5_member_116 : decode cX5_member 116 = .ok (.getfield 10, 3) := by decide +kernel
theorem dX5_member_119 : decode cX5_member 119 = .ok (.getfield 152, 3) := by decide +kernel
theorem dX5_member_122 : decode cX5_member 122 = .ok (.iload_n 1, 1) := by decide +kernel
theorem dX5_member_123 : decode cX5_member 123 = .ok (.iaload, 1) := by decide +kernel
theorem dX5_member_124 : decode cX5_member 124 = .ok (.ireturn, 1) := by decide +kernel
theorem dX5_member_125 : decode cX5_member 125 = .ok (.aload_n 0, 1) := by decide +kernel
theorem dX5_member_126 : decode cX5_member 126 = .ok (.getfield 10, 3) := by decide +kernel
theorem dX5_member_129 : decode cX5_member 129 = .ok (.getfield 155, 3) := by decide +kernel
theorem dX5_member_132 : decode cX5_member 132 = .ok (.iload_n 1, 1) := by decide +kernel
theorem dX5_member_133 : decode cX5_member 133 = .ok (.iaload, 1) := by decide +kernel
theorem dX5_member_134 : decode cX5_member 134 = .ok (.ireturn, 1) := by decide +kernel
theorem dX5_member_135 : decode cX5_member 135 = .ok (.aload_n 0, 1) := by decide +kernel
theorem dX5_member_136 : decode cX5_member 136 = .ok (.getfield 10, 3) := by decide +kernel
theorem dX5_member_139 : decode cX5_member 139 = .ok (.getfield 158, 3) := by decide +kernel
theorem dX5_member_142 : decode cX5_member 142 = .ok (.iload_n 1, 1) := by decide +kernel
theorem dX5_member_143 : decode cX5_member 143 = .ok (.iaload, 1) := by decide +kernel
theorem dX5_member_144 : decode cX5_member 144 = .ok (.ireturn, 1) := by decide +kernel
theorem dX5_member_145 : decode cX5_member 145 = .ok (.aload_n 0, 1) := by decide +kernel
theorem dX5_member_146 : decode cX5_member 146 = .ok (.getfield 10, 3) := by decide +kernel
theorem dX5_member_149 : decode cX5_member 149 = .ok (.getfield 161, 3) := by decide +kernel
theorem dX5_member_152 : decode cX5_member 152 = .ok (.iload_n 1, 1) := by decide +kernel
theorem dX5_member_153 : decode cX5_member 153 = .ok (.iaload, 1) := by decide +kernel
theorem dX5_member_154 : decode cX5_member 154 = .ok (.ireturn, 1) := by decide +kernel
theorem dX5_member_155 : decode cX5_member 155 = .ok (.ldc 48, 2) := by decide +kernel
theorem dX5_member_157 : decode cX5_member 157 = .ok (.ireturn, 1) := by decide +kernel
theorem dX5_strings_0 : decode cX5_strings 0 = .ok (.iload_n 1, 1) := by decide +kernel
theorem dX5_strings_1 : decode cX5_strings 1 = .ok (.invokestatic 58, 3) := by decide +kernel
theorem dX5_strings_4 : decode cX5_strings 4 = .ok (.ifCond .eq 10, 3) := by decide +kernel
theorem dX5_strings_7 : decode cX5_strings 7 = .ok (.iload_n 2, 1) := by decide +kernel
theorem dX5_strings_8 : decode cX5_strings 8 = .ok (.invokestatic 62, 3) := by decide +kernel
theorem dX5_strings_11 : decode cX5_strings 11 = .ok (.ifCond .ne 6, 3) := by decide +kernel
theorem dX5_strings_14 : decode cX5_strings 14 = .ok (.ldc 65, 2) := by decide +kernel
theorem dX5_strings_16 : decode cX5_strings 16 = .ok (.ireturn, 1) := by decide +kernel
theorem dX5_strings_17 : decode cX5_strings 17 = .ok (.iload_n 3, 1) := by decide +kernel
theorem dX5_strings_18 : decode cX5_strings 18 = .ok (.ifCond .eq 17, 3) := by decide +kernel
theorem dX5_strings_21 : decode cX5_strings 21 = .ok (.aload_n 0, 1) := by decide +kernel
theorem dX5_strings_22 : decode cX5_strings 22 = .ok (.getfield 10, 3) := by decide +kernel
theorem dX5_strings_25 : decode cX5_strings 25 = .ok (.getfield 89, 3) := by decide +kernel
theorem dX5_strings_28 : decode cX5_strings 28 = .ok (.iload_n 1, 1) := by decide +kernel
theorem dX5_strings_29 : decode cX5_strings 29 = .ok (.aaload, 1) := by decide +kernel
theorem dX5_strings_30 : decode cX5_strings 30 = .ok (.iload_n 2, 1) := by decide +kernel
theorem dX5_strings_31 : decode cX5_strings 31 = .ok (.iaload, 1) := by decide +kernel
theorem dX5_strings_32 : decode cX5_strings 32 = .ok (.goto 14, 3) := by decide +kernel
theorem dX5_strings_35 : decode cX5_strings 35 = .ok (.aload_n 0, 1) := by decide +kernel
theorem dX5_strings_36 : decode cX5_strings 36 = .ok (.getfield 10, 3) := by decide +kernel
theorem dX5_strings_39 : decode cX5_strings 39 = .ok (.getfield 85, 3) := by decide +kernel
theorem dX5_strings_42 : decode cX5_strings 42 = .ok (.iload_n 1, 1) := by decide +kernel
theorem dX5_strings_43 : decode cX5_strings 43 = .ok (.aaload, 1) := by decide +kernel
theorem dX5_strings_44 : decode cX5_strings 44 = .ok (.iload_n 2, 1) := by decide +kernel
theorem dX5_strings_45 : decode cX5_strings 45 = .ok (.iaload, 1) := by decide +kernel
theorem dX5_strings_46 : decode cX5_strings 46 = .ok (.ireturn, 1) := by decide +kernel
theorem dX5_parcel_0 : decode cX5_parcel 0 = .ok (.iload_n 1, 1) := by decide +kernel
theorem dX5_parcel_1 : decode cX5_parcel 1 = .ok (.ifCond .lt 19, 3) := by decide +kernel
theorem dX5_parcel_4 : decode cX5_parcel 4 = .ok (.iload_n 1, 1) := by decide +kernel
theorem dX5_parcel_5 : decode cX5_parcel 5 = .ok (.aload_n 0, 1) := by decide +kernel
theorem dX5_parcel_6 : decode cX5_parcel 6 = .ok (.getfield 10, 3) := by decide +kernel
theorem dX5_parcel_9 : decode cX5_parcel 9 = .ok (.getfield 132, 3) := by decide +kernel
theorem dX5_parcel_12 : decode cX5_parcel 12 = .ok (.if_icmp .ge 8, 3) := by decide +kernel
theorem dX5_parcel_15 : decode cX5_parcel 15 = .ok (.iload_n 1, 1) := by decide +kernel
theorem dX5_parcel_16 : decode cX5_parcel 16 = .ok (.iconst 5, 1) := by decide +kernel
theorem dX5_parcel_17 : decode cX5_parcel 17 = .ok (.if_icmp .lt 6, 3) := by decide +kernel
theorem dX5_parcel_20 : decode cX5_parcel 20 = .ok (.ldc 65, 2) := by decide +kernel
theorem dX5_parcel_22 : decode cX5_parcel 22 = .ok (.ireturn, 1) := by decide +kernel
theorem dX5_parcel_23 : decode cX5_parcel 23 = .ok (.aload_n 0, 1) := by decide +kernel
theorem dX5_parcel_24 : decode cX5_parcel 24 = .ok (.getfield 10, 3) := by decide +kernel
theorem dX5_parcel_27 : decode cX5_parcel 27 = .ok (.getfield 164, 3) := by decide +kernel
theorem dX5_parcel_30 : decode cX5_parcel 30 = .ok (.iload_n 1, 1) := by decide +kernel
theorem dX5_parcel_31 : decode cX5_parcel 31 = .ok (.aaload, 1) := by decide +kernel
theorem dX5_parcel_32 : decode cX5_parcel 32 = .ok (.astore_n 3, 1) := by decide +kernel
theorem dX5_parcel_33 : decode cX5_parcel 33 = .ok (.iload_n 2, 1) := by decide +kernel
theorem dX5_parcel_34 : decode cX5_parcel 34 = .ok (.tableswitch 75 0 4 #[34, 39, 44, 49, 62], 34) := by decide +kernel
theorem dX5_parcel_68 : decode cX5_parcel 68 = .ok (.aload_n 3, 1) := by decide +kernel
theorem dX5_parcel_69 : decode cX5_parcel 69 = .ok (.invokevirtual 168, 3) := by decide +kernel
theorem dX5_parcel_72 : decode cX5_parcel 72 = .ok (.ireturn, 1) := by decide +kernel
theorem dX5_parcel_73 : decode cX5_parcel 73 = .ok (.aload_n 3, 1) := by decide +kernel
theorem dX5_parcel_74 : decode cX5_parcel 74 = .ok (.getfield 172, 3) := by decide +kernel
theorem dX5_parcel_77 : decode cX5_parcel 77 = .ok (.ireturn, 1) := by decide +kernel
theorem dX5_parcel_78 : decode cX5_parcel 78 = .ok (.aload_n 3, 1) := by decide +kernel
theorem dX5_parcel_79 : decode cX5_parcel 79 = .ok (.invokevirtual 175, 3) := by decide +kernel
theorem dX5_parcel_82 : decode cX5_parcel 82 = .ok (.ireturn, 1) := by decide +kernel
theorem dX5_parcel_83 : decode cX5_parcel 83 = .ok (.aload_n 3, 1) := by decide +kernel
theorem dX5_parcel_84 : decode cX5_parcel 84 = .ok (.getfield 178, 3) := by decide +kernel
theorem dX5_parcel_87 : decode cX5_parcel 87 = .ok (.aload_n 0, 1) := by decide +kernel
theorem dX5_parcel_88 : decode cX5_parcel 88 = .ok (.getfield 10, 3) := by decide +kernel
theorem dX5_parcel_91 : decode cX5_parcel 91 = .ok (.getfield 140, 3) := by decide +kernel
theorem dX5_parcel_94 : decode cX5_parcel 94 = .ok (.isub, 1) := by decide +kernel
theorem dX5_parcel_95 : decode cX5_parcel 95 = .ok (.ireturn, 1) := by decide +kernel
theorem dX5_parcel_96 : decode cX5_parcel 96 = .ok (.aload_n 3, 1) := by decide +kernel
theorem dX5_parcel_97 : decode cX5_parcel 97 = .ok (.getfield 181, 3) := by decide +kernel
theorem dX5_parcel_100 : decode cX5_parcel 100 = .ok (.ifCond .eq 7, 3) := by decide +kernel
theorem dX5_parcel_103 : decode cX5_parcel 103 = .ok (.iconst 1, 1) := by decide +kernel
theorem dX5_parcel_104 : decode cX5_parcel 104 = .ok (.goto 4, 3) := by decide +kernel
theorem dX5_parcel_107 : decode cX5_parcel 107 = .ok (.iconst 0, 1) := by decide +kernel
theorem dX5_parcel_108 : decode cX5_parcel 108 = .ok (.ireturn, 1) := by decide +kernel
theorem dX5_parcel_109 : decode cX5_parcel 109 = .ok (.ldc 48, 2) := by decide +kernel
theorem dX5_parcel_111 : decode cX5_parcel 111 = .ok (.ireturn, 1) := by decide +kernel
theorem dX5_count_0 : decode cX5_count 0 = .ok (.iload_n 1, 1) := by decide +kernel
theorem dX5_count_1 : decode cX5_count 1 = .ok (.ifCond .lt 25, 3) := by decide +kernel
theorem dX5_count_4 : decode cX5_count 4 = .ok (.iload_n 1, 1) := by decide +kernel
theorem dX5_count_5 : decode cX5_count 5 = .ok (.aload_n 0, 1) := by decide +kernel
theorem dX5_count_6 : decode cX5_count 6 = .ok (.getfield 10, 3) := by decide +kernel
theorem dX5_count_9 : decode cX5_count 9 = .ok (.getfield 55, 3) := by decide +kernel
theorem dX5_count_12 : decode cX5_count 12 = .ok (.arraylength, 1) := by decide +kernel
theorem dX5_count_13 : decode cX5_count 13 = .ok (.if_icmp .ge 13, 3) := by decide +kernel
theorem dX5_count_16 : decode cX5_count 16 = .ok (.aload_n 0, 1) := by decide +kernel
theorem dX5_count_17 : decode cX5_count 17 = .ok (.getfield 10, 3) := by decide +kernel
theorem dX5_count_20 : decode cX5_count 20 = .ok (.getfield 55, 3) := by decide +kernel
theorem dX5_count_23 : decode cX5_count 23 = .ok (.iload_n 1, 1) := by decide +kernel
theorem dX5_count_24 : decode cX5_count 24 = .ok (.iaload, 1) := by decide +kernel
theorem dX5_count_25 : decode cX5_count 25 = .ok (.ireturn, 1) := by decide +kernel
theorem dX5_count_26 : decode cX5_count 26 = .ok (.iload_n 1, 1) := by decide +kernel
theorem dX5_count_27 : decode cX5_count 27 = .ok (.tableswitch 139 9 18 #[53, 61, 72, 80, 88, 99, 110, 118, 126, 134], 53) := by decide +kernel
theorem dX5_count_80 : decode cX5_count 80 = .ok (.aload_n 0, 1) := by decide +kernel
theorem dX5_count_81 : decode cX5_count 81 = .ok (.getfield 10, 3) := by decide +kernel
theorem dX5_count_84 : decode cX5_count 84 = .ok (.getfield 140, 3) := by decide +kernel
theorem dX5_count_87 : decode cX5_count 87 = .ok (.ireturn, 1) := by decide +kernel
theorem dX5_count_88 : decode cX5_count 88 = .ok (.aload_n 0, 1) := by decide +kernel
theorem dX5_count_89 : decode cX5_count 89 = .ok (.getfield 10, 3) := by decide +kernel
theorem dX5_count_92 : decode cX5_count 92 = .ok (.getfield 109, 3) := by decide +kernel
theorem dX5_count_95 : decode cX5_count 95 = .ok (.invokestatic 128, 3) := by decide +kernel
theorem dX5_count_98 : decode cX5_count 98 = .ok (.ireturn, 1) := by decide +kernel
theorem dX5_count_99 : decode cX5_count 99 = .ok (.aload_n 0, 1) := by decide +kernel
theorem dX5_count_100 : decode cX5_count 100 = .ok (.getfield 10, 3) := by decide +kernel
theorem dX5_count_103 : decode cX5_count 103 = .ok (.getfield 132, 3) := by decide +kernel
theorem dX5_count_106 : decode cX5_count 106 = .ok (.ireturn, 1) := by decide +kernel
theorem dX5_count_107 : decode cX5_count 107 = .ok (.aload_n 0, 1) := by decide +kernel
theorem dX5_count_108 : decode cX5_count 108 = .ok (.getfield 10, 3) := by decide +kernel
theorem dX5_count_111 : decode cX5_count 111 = .ok (.getfield 185, 3) := by decide +kernel
theorem dX5_count_114 : decode cX5_count 114 = .ok (.ireturn, 1) := by decide +kernel
theorem dX5_count_115 : decode cX5_count 115 = .ok (.aload_n 0, 1) := by decide +kernel
theorem dX5_count_116 : decode cX5_count 116 = .ok (.getfield 10, 3) := by decide +kernel
theorem dX5_count_119 : decode cX5_count 119 = .ok (.getfield 158, 3) := by decide +kernel
theorem dX5_count_122 : decode cX5_count 122 = .ok (.invokestatic 128, 3) := by decide +kernel
theorem dX5_count_125 : decode cX5_count 125 = .ok (.ireturn, 1) := by decide +kernel
theorem dX5_count_126 : decode cX5_count 126 = .ok (.aload_n 0, 1) := by decide +kernel
theorem dX5_count_127 : decode cX5_count 127 = .ok (.getfield 10, 3) := by decide +kernel
theorem dX5_count_130 : decode cX5_count 130 = .ok (.getfield 161, 3) := by decide +kernel
theorem dX5_count_133 : decode cX5_count 133 = .ok (.invokestatic 128, 3) := by decide +kernel
theorem dX5_count_136 : decode cX5_count 136 = .ok (.ireturn, 1) := by decide +kernel
theorem dX5_count_137 : decode cX5_count 137 = .ok (.aload_n 0, 1) := by decide +kernel
theorem dX5_count_138 : decode cX5_count 138 = .ok (.getfield 10, 3) := by decide +kernel
theorem dX5_count_141 : decode cX5_count 141 = .ok (.invokevirtual 188, 3) := by decide +kernel
theorem dX5_count_144 : decode cX5_count 144 = .ok (.ireturn, 1) := by decide +kernel
theorem dX5_count_145 : decode cX5_count 145 = .ok (.aload_n 0, 1) := by decide +kernel
theorem dX5_count_146 : decode cX5_count 146 = .ok (.getfield 10, 3) := by decide +kernel
theorem dX5_count_149 : decode cX5_count 149 = .ok (.getfield 146, 3) := by decide +kernel
theorem dX5_count_152 : decode cX5_count 152 = .ok (.ireturn, 1) := by decide +kernel
theorem dX5_count_153 : decode cX5_count 153 = .ok (.aload_n 0, 1) := by decide +kernel
theorem dX5_count_154 : decode cX5_count 154 = .ok (.getfield 33, 3) := by decide +kernel
theorem dX5_count_157 : decode cX5_count 157 = .ok (.getfield 105, 3) := by decide +kernel
theorem dX5_count_160 : decode cX5_count 160 = .ok (.ireturn, 1) := by decide +kernel
theorem dX5_count_161 : decode cX5_count 161 = .ok (.aload_n 0, 1) := by decide +kernel
theorem dX5_count_162 : decode cX5_count 162 = .ok (.getfield 191, 3) := by decide +kernel
theorem dX5_count_165 : decode cX5_count 165 = .ok (.ireturn, 1) := by decide +kernel
theorem dX5_count_166 : decode cX5_count 166 = .ok (.ldc 48, 2) := by decide +kernel
theorem dX5_count_168 : decode cX5_count 168 = .ok (.ireturn, 1) := by decide +kernel
theorem dX5_order_0 : decode cX5_order 0 = .ok (.iload_n 1, 1) := by decide +kernel
theorem dX5_order_1 : decode cX5_order 1 = .ok (.invokestatic 115, 3) := by decide +kernel
theorem dX5_order_4 : decode cX5_order 4 = .ok (.ifCond .ne 6, 3) := by decide +kernel
theorem dX5_order_7 : decode cX5_order 7 = .ok (.ldc 48, 2) := by decide +kernel
theorem dX5_order_9 : decode cX5_order 9 = .ok (.ireturn, 1) := by decide +kernel
theorem dX5_order_10 : decode cX5_order 10 = .ok (.aload_n 0, 1) := by decide +kernel
theorem dX5_order_11 : decode cX5_order 11 = .ok (.getfield 40, 3) := by decide +kernel
theorem dX5_order_14 : decode cX5_order 14 = .ok (.aload_n 0, 1) := by decide +kernel
theorem dX5_order_15 : decode cX5_order 15 = .ok (.getfield 10, 3) := by decide +kernel
theorem dX5_order_18 : decode cX5_order 18 = .ok (.iload_n 1, 1) := by decide +kernel
theorem dX5_order_19 : decode cX5_order 19 = .ok (.invokevirtual 118, 3) := by decide +kernel
theorem dX5_order_22 : decode cX5_order 22 = .ok (.iload_n 2, 1) := by decide +kernel
theorem dX5_order_23 : decode cX5_order 23 = .ok (.tableswitch 83 0 4 #[33, 41, 49, 57, 65], 33) := by decide +kernel
theorem dX5_order_56 : decode cX5_order 56 = .ok (.aload_n 0, 1) := by decide +kernel
theorem dX5_order_57 : decode cX5_order 57 = .ok (.getfield 40, 3) := by decide +kernel
theorem dX5_order_60 : decode cX5_order 60 = .ok (.invokevirtual 125, 3) := by decide +kernel
theorem dX5_order_63 : decode cX5_order 63 = .ok (.ireturn, 1) := by decide +kernel
theorem dX5_order_64 : decode cX5_order 64 = .ok (.aload_n 0, 1) := by decide +kernel
theorem dX5_order_65 : decode cX5_order 65 = .ok (.getfield 40, 3) := by decide +kernel
theorem dX5_order_68 : decode cX5_order 68 = .ok (.getfield 194, 3) := by decide +kernel
theorem dX5_order_71 : decode cX5_order 71 = .ok (.ireturn, 1) := by decide +kernel
theorem dX5_order_72 : decode cX5_order 72 = .ok (.aload_n 0, 1) := by decide +kernel
theorem dX5_order_73 : decode cX5_order 73 = .ok (.getfield 40, 3) := by decide +kernel
theorem dX5_order_76 : decode cX5_order 76 = .ok (.getfield 195, 3) := by decide +kernel
theorem dX5_order_79 : decode cX5_order 79 = .ok (.ireturn, 1) := by decide +kernel
theorem dX5_order_80 : decode cX5_order 80 = .ok (.aload_n 0, 1) := by decide +kernel
theorem dX5_order_81 : decode cX5_order 81 = .ok (.getfield 40, 3) := by decide +kernel
theorem dX5_order_84 : decode cX5_order 84 = .ok (.getfield 122, 3) := by decide +kernel
theorem dX5_order_87 : decode cX5_order 87 = .ok (.ireturn, 1) := by decide +kernel
theorem dX5_order_88 : decode cX5_order 88 = .ok (.aload_n 0, 1) := by decide +kernel
theorem dX5_order_89 : decode cX5_order 89 = .ok (.getfield 40, 3) := by decide +kernel
theorem dX5_order_92 : decode cX5_order 92 = .ok (.getfield 194, 3) := by decide +kernel
theorem dX5_order_95 : decode cX5_order 95 = .ok (.aload_n 0, 1) := by decide +kernel
theorem dX5_order_96 : decode cX5_order 96 = .ok (.getfield 10, 3) := by decide +kernel
theorem dX5_order_99 : decode cX5_order 99 = .ok (.getfield 55, 3) := by decide +kernel
theorem dX5_order_102 : decode cX5_order 102 = .ok (.invokestatic 198, 3) := by decide +kernel
theorem dX5_order_105 : decode cX5_order 105 = .ok (.ireturn, 1) := by decide +kernel
theorem dX5_order_106 : decode cX5_order 106 = .ok (.ldc 48, 2) := by decide +kernel
theorem dX5_order_108 : decode cX5_order 108 = .ok (.ireturn, 1) := by decide +kernel
theorem dX5_share_0 : decode cX5_share 0 = .ok (.iload_n 2, 1) := by decide +kernel
theorem dX5_share_1 : decode cX5_share 1 = .ok (.invokestatic 58, 3) := by decide +kernel
theorem dX5_share_4 : decode cX5_share 4 = .ok (.ifCond .ne 6, 3) := by decide +kernel
theorem dX5_share_7 : decode cX5_share 7 = .ok (.ldc 65, 2) := by decide +kernel
theorem dX5_share_9 : decode cX5_share 9 = .ok (.ireturn, 1) := by decide +kernel
theorem dX5_share_10 : decode cX5_share 10 = .ok (.iload_n 1, 1) := by decide +kernel
theorem dX5_share_11 : decode cX5_share 11 = .ok (.invokestatic 115, 3) := by decide +kernel
theorem dX5_share_14 : decode cX5_share 14 = .ok (.ifCond .ne 6, 3) := by decide +kernel
theorem dX5_share_17 : decode cX5_share 17 = .ok (.ldc 48, 2) := by decide +kernel
theorem dX5_share_19 : decode cX5_share 19 = .ok (.ireturn, 1) := by decide +kernel
theorem dX5_share_20 : decode cX5_share 20 = .ok (.iload_n 1, 1) := by decide +kernel
theorem dX5_share_21 : decode cX5_share 21 = .ok (.iload_n 2, 1) := by decide +kernel
theorem dX5_share_22 : decode cX5_share 22 = .ok (.invokestatic 69, 3) := by decide +kernel
theorem dX5_share_25 : decode cX5_share 25 = .ok (.ifCond .ne 5, 3) := by decide +kernel
theorem dX5_share_28 : decode cX5_share 28 = .ok (.iconst 0, 1) := by decide +kernel
theorem dX5_share_29 : decode cX5_share 29 = .ok (.ireturn, 1) := by decide +kernel
theorem dX5_share_30 : decode cX5_share 30 = .ok (.aload_n 0, 1) := by decide +kernel
theorem dX5_share_31 : decode cX5_share 31 = .ok (.getfield 40, 3) := by decide +kernel
theorem dX5_share_34 : decode cX5_share 34 = .ok (.aload_n 0, 1) := by decide +kernel
theorem dX5_share_35 : decode cX5_share 35 = .ok (.getfield 10, 3) := by decide +kernel
theorem dX5_share_38 : decode cX5_share 38 = .ok (.iload_n 1, 1) := by decide +kernel
theorem dX5_share_39 : decode cX5_share 39 = .ok (.invokevirtual 118, 3) := by decide +kernel
theorem dX5_share_42 : decode cX5_share 42 = .ok (.aload_n 0, 1) := by decide +kernel
theorem dX5_share_43 : decode cX5_share 43 = .ok (.getfield 40, 3) := by decide +kernel
theorem dX5_share_46 : decode cX5_share 46 = .ok (.aload_n 0, 1) := by decide +kernel
theorem dX5_share_47 : decode cX5_share 47 = .ok (.getfield 10, 3) := by decide +kernel
theorem dX5_share_50 : decode cX5_share 50 = .ok (.iload_n 1, 1) := by decide +kernel
theorem dX5_share_51 : decode cX5_share 51 = .ok (.invokevirtual 202, 3) := by decide +kernel
theorem dX5_share_54 : decode cX5_share 54 = .ok (.aload_n 0, 1) := by decide +kernel
theorem dX5_share_55 : decode cX5_share 55 = .ok (.getfield 40, 3) := by decide +kernel
theorem dX5_share_58 : decode cX5_share 58 = .ok (.aload_n 0, 1) := by decide +kernel
theorem dX5_share_59 : decode cX5_share 59 = .ok (.getfield 10, 3) := by decide +kernel
theorem dX5_share_62 : decode cX5_share 62 = .ok (.getfield 89, 3) := by decide +kernel
theorem dX5_share_65 : decode cX5_share 65 = .ok (.iload_n 2, 1) := by decide +kernel
theorem dX5_share_66 : decode cX5_share 66 = .ok (.aaload, 1) := by decide +kernel
theorem dX5_share_67 : decode cX5_share 67 = .ok (.invokevirtual 205, 3) := by decide +kernel
theorem dX5_share_70 : decode cX5_share 70 = .ok (.aload_n 0, 1) := by decide +kernel
theorem dX5_share_71 : decode cX5_share 71 = .ok (.getfield 40, 3) := by decide +kernel
theorem dX5_share_74 : decode cX5_share 74 = .ok (.getfield 208, 3) := by decide +kernel
theorem dX5_share_77 : decode cX5_share 77 = .ok (.getfield 212, 3) := by decide +kernel
theorem dX5_share_80 : decode cX5_share 80 = .ok (.iload_n 2, 1) := by decide +kernel
theorem dX5_share_81 : decode cX5_share 81 = .ok (.iaload, 1) := by decide +kernel
theorem dX5_share_82 : decode cX5_share 82 = .ok (.iadd, 1) := by decide +kernel
theorem dX5_share_83 : decode cX5_share 83 = .ok (.ireturn, 1) := by decide +kernel
theorem dX5_ifMore_0 : decode cX5_ifMore 0 = .ok (.iload_n 1, 1) := by decide +kernel
theorem dX5_ifMore_1 : decode cX5_ifMore 1 = .ok (.invokestatic 58, 3) := by decide +kernel
theorem dX5_ifMore_4 : decode cX5_ifMore 4 = .ok (.ifCond .eq 10, 3) := by decide +kernel
theorem dX5_ifMore_7 : decode cX5_ifMore 7 = .ok (.iload_n 2, 1) := by decide +kernel
theorem dX5_ifMore_8 : decode cX5_ifMore 8 = .ok (.invokestatic 62, 3) := by decide +kernel
theorem dX5_ifMore_11 : decode cX5_ifMore 11 = .ok (.ifCond .ne 6, 3) := by decide +kernel
theorem dX5_ifMore_14 : decode cX5_ifMore 14 = .ok (.ldc 65, 2) := by decide +kernel
theorem dX5_ifMore_16 : decode cX5_ifMore 16 = .ok (.ireturn, 1) := by decide +kernel
theorem dX5_ifMore_17 : decode cX5_ifMore 17 = .ok (.iload_n 3, 1) := by decide +kernel
theorem dX5_ifMore_18 : decode cX5_ifMore 18 = .ok (.iconst 1, 1) := by decide +kernel
theorem dX5_ifMore_19 : decode cX5_ifMore 19 = .ok (.if_icmp .lt 9, 3) := by decide +kernel
theorem dX5_ifMore_22 : decode cX5_ifMore 22 = .ok (.iload_n 3, 1) := by decide +kernel
theorem dX5_ifMore_23 : decode cX5_ifMore 23 = .ok (.bipush 20, 2) := by decide +kernel
theorem dX5_ifMore_25 : decode cX5_ifMore 25 = .ok (.if_icmp .le 6, 3) := by decide +kernel
theorem dX5_ifMore_28 : decode cX5_ifMore 28 = .ok (.ldc 48, 2) := by decide +kernel
theorem dX5_ifMore_30 : decode cX5_ifMore 30 = .ok (.ireturn, 1) := by decide +kernel
theorem dX5_ifMore_31 : decode cX5_ifMore 31 = .ok (.aload_n 0, 1) := by decide +kernel
theorem dX5_ifMore_32 : decode cX5_ifMore 32 = .ok (.bipush 63, 2) := by decide +kernel
theorem dX5_ifMore_34 : decode cX5_ifMore 34 = .ok (.invokevirtual 92, 3) := by decide +kernel
theorem dX5_ifMore_37 : decode cX5_ifMore 37 = .ok (.istore 4, 2) := by decide +kernel
theorem dX5_ifMore_39 : decode cX5_ifMore 39 = .ok (.aload_n 0, 1) := by decide +kernel
theorem dX5_ifMore_40 : decode cX5_ifMore 40 = .ok (.getfield 40, 3) := by decide +kernel
theorem dX5_ifMore_43 : decode cX5_ifMore 43 = .ok (.getfield 217, 3) := by decide +kernel
theorem dX5_ifMore_46 : decode cX5_ifMore 46 = .ok (.iload_n 2, 1) := by decide +kernel
theorem dX5_ifMore_47 : decode cX5_ifMore 47 = .ok (.dup2, 1) := by decide +kernel
theorem dX5_ifMore_48 : decode cX5_ifMore 48 = .ok (.iaload, 1) := by decide +kernel
theorem dX5_ifMore_49 : decode cX5_ifMore 49 = .ok (.iload_n 3, 1) := by decide +kernel
theorem dX5_ifMore_50 : decode cX5_ifMore 50 = .ok (.iadd, 1) := by decide +kernel
theorem dX5_ifMore_51 : decode cX5_ifMore 51 = .ok (.iastore, 1) := by decide +kernel
theorem dX5_ifMore_52 : decode cX5_ifMore 52 = .ok (.aload_n 0, 1) := by decide +kernel
theorem dX5_ifMore_53 : decode cX5_ifMore 53 = .ok (.getfield 40, 3) := by decide +kernel
theorem dX5_ifMore_56 : decode cX5_ifMore 56 = .ok (.aload_n 0, 1) := by decide +kernel
theorem dX5_ifMore_57 : decode cX5_ifMore 57 = .ok (.getfield 10, 3) := by decide +kernel
theorem dX5_ifMore_60 : decode cX5_ifMore 60 = .ok (.getfield 55, 3) := by decide +kernel
theorem dX5_ifMore_63 : decode cX5_ifMore 63 = .ok (.invokevirtual 220, 3) := by decide +kernel
theorem dX5_ifMore_66 : decode cX5_ifMore 66 = .ok (.aload_n 0, 1) := by decide +kernel
theorem dX5_ifMore_67 : decode cX5_ifMore 67 = .ok (.getfield 40, 3) := by decide +kernel
theorem dX5_ifMore_70 : decode cX5_ifMore 70 = .ok (.invokevirtual 125, 3) := by decide +kernel
theorem dX5_ifMore_73 : decode cX5_ifMore 73 = .ok (.iload 4, 2) := by decide +kernel
theorem dX5_ifMore_75 : decode cX5_ifMore 75 = .ok (.isub, 1) := by decide +kernel
theorem dX5_ifMore_76 : decode cX5_ifMore 76 = .ok (.ireturn, 1) := by decide +kernel
theorem dX5_bestParting_0 : decode cX5_bestParting 0 = .ok (.iload_n 1, 1) := by decide +kernel
theorem dX5_bestParting_1 : decode cX5_bestParting 1 = .ok (.ifCond .eq 11, 3) := by decide +kernel
theorem dX5_bestParting_4 : decode cX5_bestParting 4 = .ok (.iload_n 1, 1) := by decide +kernel
theorem dX5_bestParting_5 : decode cX5_bestParting 5 = .ok (.iconst 1, 1) := by decide +kernel
theorem dX5_bestParting_6 : decode cX5_bestParting 6 = .ok (.if_icmp .eq 6, 3) := by decide +kernel
theorem dX5_bestParting_9 : decode cX5_bestParting 9 = .ok (.ldc 48, 2) := by decide +kernel
theorem dX5_bestParting_11 : decode cX5_bestParting 11 = .ok (.ireturn, 1) := by decide +kernel
theorem dX5_bestParting_12 : decode cX5_bestParting 12 = .ok (.iconst 0, 1) := by decide +kernel
theorem dX5_bestParting_13 : decode cX5_bestParting 13 = .ok (.istore_n 2, 1) := by decide +kernel
theorem dX5_bestParting_14 : decode cX5_bestParting 14 = .ok (.aload_n 0, 1) := by decide +kernel
theorem dX5_bestParting_15 : decode cX5_bestParting 15 = .ok (.iconst 0, 1) := by decide +kernel
theorem dX5_bestParting_16 : decode cX5_bestParting 16 = .ok (.invokevirtual 224, 3) := by decide +kernel
theorem dX5_bestParting_19 : decode cX5_bestParting 19 = .ok (.istore_n 3, 1) := by decide +kernel
theorem dX5_bestParting_20 : decode cX5_bestParting 20 = .ok (.iconst 1, 1) := by decide +kernel
theorem dX5_bestParting_21 : decode cX5_bestParting 21 = .ok (.istore 4, 2) := by decide +kernel
theorem dX5_bestParting_23 : decode cX5_bestParting 23 = .ok (.iload 4, 2) := by decide +kernel
theorem dX5_bestParting_25 : decode cX5_bestParting 25 = .ok (.bipush 31, 2) := by decide +kernel
theorem dX5_bestParting_27 : decode cX5_bestParting 27 = .ok (.if_icmp .gt 29, 3) := by decide +kernel
theorem dX5_bestParting_30 : decode cX5_bestParting 30 = .ok (.aload_n 0, 1) := by decide +kernel
theorem dX5_bestParting_31 : decode cX5_bestParting 31 = .ok (.iload 4, 2) := by decide +kernel
theorem dX5_bestParting_33 : decode cX5_bestParting 33 = .ok (.invokevirtual 224, 3) := by decide +kernel
theorem dX5_bestParting_36 : decode cX5_bestParting 36 = .ok (.istore 5, 2) := by decide +kernel
theorem dX5_bestParting_38 : decode cX5_bestParting 38 = .ok (.iload 5, 2) := by decide +kernel
theorem dX5_bestParting_40 : decode cX5_bestParting 40 = .ok (.iload_n 3, 1) := by decide +kernel
theorem dX5_bestParting_41 : decode cX5_bestParting 41 = .ok (.if_icmp .ge 9, 3) := by decide +kernel
theorem dX5_bestParting_44 : decode cX5_bestParting 44 = .ok (.iload 5, 2) := by decide +kernel
theorem dX5_bestParting_46 : decode cX5_bestParting 46 = .ok (.istore_n 3, 1) := by decide +kernel
theorem dX5_bestParting_47 : decode cX5_bestParting 47 = .ok (.iload 4, 2) := by decide +kernel
theorem dX5_bestParting_49 : decode cX5_bestParting 49 = .ok (.istore_n 2, 1) := by decide +kernel
theorem dX5_bestParting_50 : decode cX5_bestParting 50 = .ok (.iinc 4 1, 3) := by decide +kernel
theorem dX5_bestParting_53 : decode cX5_bestParting 53 = .ok (.goto (-30), 3) := by decide +kernel
theorem dX5_bestParting_56 : decode cX5_bestParting 56 = .ok (.iload_n 1, 1) := by decide +kernel
theorem dX5_bestParting_57 : decode cX5_bestParting 57 = .ok (.ifCond .ne 7, 3) := by decide +kernel
theorem dX5_bestParting_60 : decode cX5_bestParting 60 = .ok (.iload_n 2, 1) := by decide +kernel
theorem dX5_bestParting_61 : decode cX5_bestParting 61 = .ok (.goto 4, 3) := by decide +kernel
theorem dX5_bestParting_64 : decode cX5_bestParting 64 = .ok (.iload_n 3, 1) := by decide +kernel
theorem dX5_bestParting_65 : decode cX5_bestParting 65 = .ok (.ireturn, 1) := by decide +kernel
theorem dX5_standIn_0 : decode cX5_standIn 0 = .ok (.iload_n 1, 1) := by decide +kernel
theorem dX5_standIn_1 : decode cX5_standIn 1 = .ok (.invokestatic 58, 3) := by decide +kernel
theorem dX5_standIn_4 : decode cX5_standIn 4 = .ok (.ifCond .eq 10, 3) := by decide +kernel
theorem dX5_standIn_7 : decode cX5_standIn 7 = .ok (.iload_n 2, 1) := by decide +kernel
theorem dX5_standIn_8 : decode cX5_standIn 8 = .ok (.invokestatic 62, 3) := by decide +kernel
theorem dX5_standIn_11 : decode cX5_standIn 11 = .ok (.ifCond .ne 6, 3) := by decide +kernel
theorem dX5_standIn_14 : decode cX5_standIn 14 = .ok (.ldc 65, 2) := by decide +kernel
theorem dX5_standIn_16 : decode cX5_standIn 16 = .ok (.ireturn, 1) := by decide +kernel
theorem dX5_standIn_17 : decode cX5_standIn 17 = .ok (.aload_n 0, 1) := by decide +kernel
theorem dX5_standIn_18 : decode cX5_standIn 18 = .ok (.getfield 10, 3) := by decide +kernel
theorem dX5_standIn_21 : decode cX5_standIn 21 = .ok (.getfield 66, 3) := by decide +kernel
theorem dX5_standIn_24 : decode cX5_standIn 24 = .ok (.iload_n 1, 1) := by decide +kernel
theorem dX5_standIn_25 : decode cX5_standIn 25 = .ok (.iaload, 1) := by decide +kernel
theorem dX5_standIn_26 : decode cX5_standIn 26 = .ok (.iload_n 2, 1) := by decide +kernel
theorem dX5_standIn_27 : decode cX5_standIn 27 = .ok (.invokestatic 69, 3) := by decide +kernel
theorem dX5_standIn_30 : decode cX5_standIn 30 = .ok (.ifCond .ne 6, 3) := by decide +kernel
theorem dX5_standIn_33 : decode cX5_standIn 33 = .ok (.ldc 99, 2) := by decide +kernel
theorem dX5_standIn_35 : decode cX5_standIn 35 = .ok (.ireturn, 1) := by decide +kernel
theorem dX5_standIn_36 : decode cX5_standIn 36 = .ok (.aload_n 0, 1) := by decide +kernel
theorem dX5_standIn_37 : decode cX5_standIn 37 = .ok (.getfield 10, 3) := by decide +kernel
theorem dX5_standIn_40 : decode cX5_standIn 40 = .ok (.getfield 85, 3) := by decide +kernel
theorem dX5_standIn_43 : decode cX5_standIn 43 = .ok (.iload_n 1, 1) := by decide +kernel
theorem dX5_standIn_44 : decode cX5_standIn 44 = .ok (.aaload, 1) := by decide +kernel
theorem dX5_standIn_45 : decode cX5_standIn 45 = .ok (.astore_n 3, 1) := by decide +kernel
theorem dX5_standIn_46 : decode cX5_standIn 46 = .ok (.aload_n 3, 1) := by decide +kernel
theorem dX5_standIn_47 : decode cX5_standIn 47 = .ok (.iload_n 2, 1) := by decide +kernel
theorem dX5_standIn_48 : decode cX5_standIn 48 = .ok (.iaload, 1) := by decide +kernel
theorem dX5_standIn_49 : decode cX5_standIn 49 = .ok (.ifCond .le 5, 3) := by decide +kernel
theorem dX5_standIn_52 : decode cX5_standIn 52 = .ok (.iload_n 2, 1) := by decide +kernel
theorem dX5_standIn_53 : decode cX5_standIn 53 = .ok (.ireturn, 1) := by decide +kernel
theorem dX5_standIn_54 : decode cX5_standIn 54 = .ok (.iload_n 2, 1) := by decide +kernel
theorem dX5_standIn_55 : decode cX5_standIn 55 = .ok (.ifCond .le 15, 3) := by decide +kernel
theorem dX5_standIn_58 : decode cX5_standIn 58 = .ok (.aload_n 3, 1) := by decide +kernel
theorem dX5_standIn_59 : decode cX5_standIn 59 = .ok (.iload_n 2, 1) := by decide +kernel
theorem dX5_standIn_60 : decode cX5_standIn 60 = .ok (.iconst 1, 1) := by decide +kernel
theorem dX5_standIn_61 : decode cX5_standIn 61 = .ok (.isub, 1) := by decide +kernel
theorem dX5_standIn_62 : decode cX5_standIn 62 = .ok (.iaload, 1) := by decide +kernel
theorem dX5_standIn_63 : decode cX5_standIn 63 = .ok (.ifCond .le 7, 3) := by decide +kernel
theorem dX5_standIn_66 : decode cX5_standIn 66 = .ok (.iload_n 2, 1) := by decide +kernel
theorem dX5_standIn_67 : decode cX5_standIn 67 = .ok (.iconst 1, 1) := by decide +kernel
theorem dX5_standIn_68 : decode cX5_standIn 68 = .ok (.isub, 1) := by decide +kernel
theorem dX5_standIn_69 : decode cX5_standIn 69 = .ok (.ireturn, 1) := by decide +kernel
theorem dX5_standIn_70 : decode cX5_standIn 70 = .ok (.iload_n 2, 1) := by decide +kernel
theorem dX5_standIn_71 : decode cX5_standIn 71 = .ok (.bipush 7, 2) := by decide +kernel
theorem dX5_standIn_73 : decode cX5_standIn 73 = .ok (.if_icmp .ge 15, 3) := by decide +kernel
theorem dX5_standIn_76 : decode cX5_standIn 76 = .ok (.aload_n 3, 1) := by decide +kernel
theorem dX5_standIn_77 : decode cX5_standIn 77 = .ok (.iload_n 2, 1) := by decide +kernel
theorem dX5_standIn_78 : decode cX5_standIn 78 = .ok (.iconst 1, 1) := by decide +kernel
theorem dX5_standIn_79 : decode cX5_standIn 79 = .ok (.iadd, 1) := by decide +kernel
theorem dX5_standIn_80 : decode cX5_standIn 80 = .ok (.iaload, 1) := by decide +kernel
theorem dX5_standIn_81 : decode cX5_standIn 81 = .ok (.ifCond .le 7, 3) := by decide +kernel
theorem dX5_standIn_84 : decode cX5_standIn 84 = .ok (.iload_n 2, 1) := by decide +kernel
theorem dX5_standIn_85 : decode cX5_standIn 85 = .ok (.iconst 1, 1) := by decide +kernel
theorem dX5_standIn_86 : decode cX5_standIn 86 = .ok (.iadd, 1) := by decide +kernel
theorem dX5_standIn_87 : decode cX5_standIn 87 = .ok (.ireturn, 1) := by decide +kernel
theorem dX5_standIn_88 : decode cX5_standIn 88 = .ok (.ldc 99, 2) := by decide +kernel
theorem dX5_standIn_90 : decode cX5_standIn 90 = .ok (.ireturn, 1) := by decide +kernel
theorem dX5_untilHome_0 : decode cX5_untilHome 0 = .ok (.aload_n 0, 1) := by decide +kernel
theorem dX5_untilHome_1 : decode cX5_untilHome 1 = .ok (.getfield 16, 3) := by decide +kernel
theorem dX5_untilHome_4 : decode cX5_untilHome 4 = .ok (.aload_n 0, 1) := by decide +kernel
theorem dX5_untilHome_5 : decode cX5_untilHome 5 = .ok (.getfield 10, 3) := by decide +kernel
theorem dX5_untilHome_8 : decode cX5_untilHome 8 = .ok (.invokevirtual 227, 3) := by decide +kernel
theorem dX5_untilHome_11 : decode cX5_untilHome 11 = .ok (.iconst 0, 1) := by decide +kernel
theorem dX5_untilHome_12 : decode cX5_untilHome 12 = .ok (.istore_n 1, 1) := by decide +kernel
theorem dX5_untilHome_13 : decode cX5_untilHome 13 = .ok (.aload_n 0, 1) := by decide +kernel
theorem dX5_untilHome_14 : decode cX5_untilHome 14 = .ok (.getfield 16, 3) := by decide +kernel
theorem dX5_untilHome_17 : decode cX5_untilHome 17 = .ok (.getfield 132, 3) := by decide +kernel
theorem dX5_untilHome_20 : decode cX5_untilHome 20 = .ok (.ifCond .le 23, 3) := by decide +kernel
theorem dX5_untilHome_23 : decode cX5_untilHome 23 = .ok (.iload_n 1, 1) := by decide +kernel
theorem dX5_untilHome_24 : decode cX5_untilHome 24 = .ok (.bipush 50, 2) := by decide +kernel
theorem dX5_untilHome_26 : decode cX5_untilHome 26 = .ok (.if_icmp .ge 17, 3) := by decide +kernel
theorem dX5_untilHome_29 : decode cX5_untilHome 29 = .ok (.aload_n 0, 1) := by decide +kernel
theorem dX5_untilHome_30 : decode cX5_untilHome 30 = .ok (.getfield 16, 3) := by decide +kernel
theorem dX5_untilHome_33 : decode cX5_untilHome 33 = .ok (.invokevirtual 143, 3) := by decide +kernel
theorem dX5_untilHome_36 : decode cX5_untilHome 36 = .ok (.pop, 1) := by decide +kernel
theorem dX5_untilHome_37 : decode cX5_untilHome 37 = .ok (.iinc 1 1, 3) := by decide +kernel
theorem dX5_untilHome_40 : decode cX5_untilHome 40 = .ok (.goto (-27), 3) := by decide +kernel
theorem dX5_untilHome_43 : decode cX5_untilHome 43 = .ok (.iload_n 1, 1) := by decide +kernel
theorem dX5_untilHome_44 : decode cX5_untilHome 44 = .ok (.ireturn, 1) := by decide +kernel
theorem dX5_undo_0 : decode cX5_undo 0 = .ok (.aload_n 0, 1) := by decide +kernel
theorem dX5_undo_1 : decode cX5_undo 1 = .ok (.getfield 191, 3) := by decide +kernel
theorem dX5_undo_4 : decode cX5_undo 4 = .ok (.ifCond .le 12, 3) := by decide +kernel
theorem dX5_undo_7 : decode cX5_undo 7 = .ok (.aload_n 0, 1) := by decide +kernel
theorem dX5_undo_8 : decode cX5_undo 8 = .ok (.getfield 191, 3) := by decide +kernel
theorem dX5_undo_11 : decode cX5_undo 11 = .ok (.bipush 6, 2) := by decide +kernel
theorem dX5_undo_13 : decode cX5_undo 13 = .ok (.if_icmp .le 6, 3) := by decide +kernel
theorem dX5_undo_16 : decode cX5_undo 16 = .ok (.ldc 73, 2) := by decide +kernel
theorem dX5_undo_18 : decode cX5_undo 18 = .ok (.ireturn, 1) := by decide +kernel
theorem dX5_undo_19 : decode cX5_undo 19 = .ok (.aload_n 0, 1) := by decide +kernel
theorem dX5_undo_20 : decode cX5_undo 20 = .ok (.dup, 1) := by decide +kernel
theorem dX5_undo_21 : decode cX5_undo 21 = .ok (.getfield 191, 3) := by decide +kernel
theorem dX5_undo_24 : decode cX5_undo 24 = .ok (.iconst 1, 1) := by decide +kernel
theorem dX5_undo_25 : decode cX5_undo 25 = .ok (.isub, 1) := by decide +kernel
theorem dX5_undo_26 : decode cX5_undo 26 = .ok (.putfield 191, 3) := by decide +kernel
theorem dX5_undo_29 : decode cX5_undo 29 = .ok (.aload_n 0, 1) := by decide +kernel
theorem dX5_undo_30 : decode cX5_undo 30 = .ok (.getfield 10, 3) := by decide +kernel
theorem dX5_undo_33 : decode cX5_undo 33 = .ok (.aload_n 0, 1) := by decide +kernel
theorem dX5_undo_34 : decode cX5_undo 34 = .ok (.getfield 19, 3) := by decide +kernel
theorem dX5_undo_37 : decode cX5_undo 37 = .ok (.aload_n 0, 1) := by decide +kernel
theorem dX5_undo_38 : decode cX5_undo 38 = .ok (.getfield 191, 3) := by decide +kernel
theorem dX5_undo_41 : decode cX5_undo 41 = .ok (.aaload, 1) := by decide +kernel
theorem dX5_undo_42 : decode cX5_undo 42 = .ok (.invokevirtual 227, 3) := by decide +kernel
theorem dX5_undo_45 : decode cX5_undo 45 = .ok (.aload_n 0, 1) := by decide +kernel
theorem dX5_undo_46 : decode cX5_undo 46 = .ok (.getfield 191, 3) := by decide +kernel
theorem dX5_undo_49 : decode cX5_undo 49 = .ok (.ireturn, 1) := by decide +kernel
theorem dX5_remember_0 : decode cX5_remember 0 = .ok (.aload_n 0, 1) := by decide +kernel
theorem dX5_remember_1 : decode cX5_remember 1 = .ok (.getfield 191, 3) := by decide +kernel
theorem dX5_remember_4 : decode cX5_remember 4 = .ok (.bipush 6, 2) := by decide +kernel
theorem dX5_remember_6 : decode cX5_remember 6 = .ok (.if_icmp .lt 50, 3) := by decide +kernel
theorem dX5_remember_9 : decode cX5_remember 9 = .ok (.aload_n 0, 1) := by decide +kernel
theorem dX5_remember_10 : decode cX5_remember 10 = .ok (.getfield 19, 3) := by decide +kernel
theorem dX5_remember_13 : decode cX5_remember 13 = .ok (.iconst 0, 1) := by decide +kernel
theorem dX5_remember_14 : decode cX5_remember 14 = .ok (.aaload, 1) := by decide +kernel
theorem dX5_remember_15 : decode cX5_remember 15 = .ok (.astore_n 1, 1) := by decide +kernel
theorem dX5_remember_16 : decode cX5_remember 16 = .ok (.iconst 1, 1) := by decide +kernel
theorem dX5_remember_17 : decode cX5_remember 17 = .ok (.istore_n 2, 1) := by decide +kernel
theorem dX5_remember_18 : decode cX5_remember 18 = .ok (.iload_n 2, 1) := by decide +kernel
theorem dX5_remember_19 : decode cX5_remember 19 = .ok (.bipush 6, 2) := by decide +kernel
theorem dX5_remember_21 : decode cX5_remember 21 = .ok (.if_icmp .ge 23, 3) := by decide +kernel
theorem dX5_remember_24 : decode cX5_remember 24 = .ok (.aload_n 0, 1) := by decide +kernel
theorem dX5_remember_25 : decode cX5_remember 25 = .ok (.getfield 19, 3) := by decide +kernel
theorem dX5_remember_28 : decode cX5_remember 28 = .ok (.iload_n 2, 1) := by decide +kernel
theorem dX5_remember_29 : decode cX5_remember 29 = .ok (.iconst 1, 1) := by decide +kernel
theorem dX5_remember_30 : decode cX5_remember 30 = .ok (.isub, 1) := by decide +kernel
theorem dX5_remember_31 : decode cX5_remember 31 = .ok (.aload_n 0, 1) := by decide +kernel
theorem dX5_remember_32 : decode cX5_remember 32 = .ok (.getfield 19, 3) := by decide +kernel
theorem dX5_remember_35 : decode cX5_remember 35 = .ok (.iload_n 2, 1) := by decide +kernel
theorem dX5_remember_36 : decode cX5_remember 36 = .ok (.aaload, 1) := by decide +kernel
theorem dX5_remember_37 : decode cX5_remember 37 = .ok (.aastore, 1) := by decide +kernel
theorem dX5_remember_38 : decode cX5_remember 38 = .ok (.iinc 2 1, 3) := by decide +kernel
theorem dX5_remember_41 : decode cX5_remember 41 = .ok (.goto (-23), 3) := by decide +kernel
theorem dX5_remember_44 : decode cX5_remember 44 = .ok (.aload_n 0, 1) := by decide +kernel
theorem dX5_remember_45 : decode cX5_remember 45 = .ok (.getfield 19, 3) := by decide +kernel
theorem dX5_remember_48 : decode cX5_remember 48 = .ok (.iconst 5, 1) := by decide +kernel
theorem dX5_remember_49 : decode cX5_remember 49 = .ok (.aload_n 1, 1) := by decide +kernel
theorem dX5_remember_50 : decode cX5_remember 50 = .ok (.aastore, 1) := by decide +kernel
theorem dX5_remember_51 : decode cX5_remember 51 = .ok (.aload_n 0, 1) := by decide +kernel
theorem dX5_remember_52 : decode cX5_remember 52 = .ok (.iconst 5, 1) := by decide +kernel
theorem dX5_remember_53 : decode cX5_remember 53 = .ok (.putfield 191, 3) := by decide +kernel
theorem dX5_remember_56 : decode cX5_remember 56 = .ok (.aload_n 0, 1) := by decide +kernel
theorem dX5_remember_57 : decode cX5_remember 57 = .ok (.getfield 19, 3) := by decide +kernel
theorem dX5_remember_60 : decode cX5_remember 60 = .ok (.aload_n 0, 1) := by decide +kernel
theorem dX5_remember_61 : decode cX5_remember 61 = .ok (.getfield 191, 3) := by decide +kernel
theorem dX5_remember_64 : decode cX5_remember 64 = .ok (.aaload, 1) := by decide +kernel
theorem dX5_remember_65 : decode cX5_remember 65 = .ok (.aload_n 0, 1) := by decide +kernel
theorem dX5_remember_66 : decode cX5_remember 66 = .ok (.getfield 10, 3) := by decide +kernel
theorem dX5_remember_69 : decode cX5_remember 69 = .ok (.invokevirtual 227, 3) := by decide +kernel
theorem dX5_remember_72 : decode cX5_remember 72 = .ok (.aload_n 0, 1) := by decide +kernel
theorem dX5_remember_73 : decode cX5_remember 73 = .ok (.dup, 1) := by decide +kernel
theorem dX5_remember_74 : decode cX5_remember 74 = .ok (.getfield 191, 3) := by decide +kernel
theorem dX5_remember_77 : decode cX5_remember 77 = .ok (.iconst 1, 1) := by decide +kernel
theorem dX5_remember_78 : decode cX5_remember 78 = .ok (.iadd, 1) := by decide +kernel
theorem dX5_remember_79 : decode cX5_remember 79 = .ok (.putfield 191, 3) := by decide +kernel
theorem dX5_remember_82 : decode cX5_remember 82 = .ok (.return_, 1) := by decide +kernel
theorem dX5_costOf_0 : decode cX5_costOf 0 = .ok (.aload_n 0, 1) := by decide +kernel
theorem dX5_costOf_1 : decode cX5_costOf 1 = .ok (.getfield 40, 3) := by decide +kernel
theorem dX5_costOf_4 : decode cX5_costOf 4 = .ok (.aload_n 0, 1) := by decide +kernel
theorem dX5_costOf_5 : decode cX5_costOf 5 = .ok (.getfield 10, 3) := by decide +kernel
theorem dX5_costOf_8 : decode cX5_costOf 8 = .ok (.iload_n 1, 1) := by decide +kernel
theorem dX5_costOf_9 : decode cX5_costOf 9 = .ok (.invokevirtual 118, 3) := by decide +kernel
theorem dX5_costOf_12 : decode cX5_costOf 12 = .ok (.aload_n 0, 1) := by decide +kernel
theorem dX5_costOf_13 : decode cX5_costOf 13 = .ok (.getfield 40, 3) := by decide +kernel
theorem dX5_costOf_16 : decode cX5_costOf 16 = .ok (.invokevirtual 125, 3) := by decide +kernel
theorem dX5_costOf_19 : decode cX5_costOf 19 = .ok (.ireturn, 1) := by decide +kernel
theorem dX5_pencePartedAt_0 : decode cX5_pencePartedAt 0 = .ok (.aload_n 0, 1) := by decide +kernel
theorem dX5_pencePartedAt_1 : decode cX5_pencePartedAt 1 = .ok (.iload_n 1, 1) := by decide +kernel
theorem dX5_pencePartedAt_2 : decode cX5_pencePartedAt 2 = .ok (.invokevirtual 238, 3) := by decide +kernel
theorem dX5_pencePartedAt_5 : decode cX5_pencePartedAt 5 = .ok (.aload_n 0, 1) := by decide +kernel
theorem dX5_pencePartedAt_6 : decode cX5_pencePartedAt 6 = .ok (.bipush 63, 2) := by decide +kernel
theorem dX5_pencePartedAt_8 : decode cX5_pencePartedAt 8 = .ok (.iload_n 1, 1) := by decide +kernel
theorem dX5_pencePartedAt_9 : decode cX5_pencePartedAt 9 = .ok (.isub, 1) := by decide +kernel
theorem dX5_pencePartedAt_10 : decode cX5_pencePartedAt 10 = .ok (.invokevirtual 238, 3) := by decide +kernel
theorem dX5_pencePartedAt_13 : decode cX5_pencePartedAt 13 = .ok (.iadd, 1) := by decide +kernel
theorem dX5_pencePartedAt_14 : decode cX5_pencePartedAt 14 = .ok (.ireturn, 1) := by decide +kernel
theorem dX5_costWithDuty_0 : decode cX5_costWithDuty 0 = .ok (.aload_n 0, 1) := by decide +kernel
theorem dX5_costWithDuty_1 : decode cX5_costWithDuty 1 = .ok (.iload_n 1, 1) := by decide +kernel
theorem dX5_costWithDuty_2 : decode cX5_costWithDuty 2 = .ok (.invokevirtual 92, 3) := by decide +kernel
theorem dX5_costWithDuty_5 : decode cX5_costWithDuty 5 = .ok (.aload_n 0, 1) := by decide +kernel
theorem dX5_costWithDuty_6 : decode cX5_costWithDuty 6 = .ok (.getfield 40, 3) := by decide +kernel
theorem dX5_costWithDuty_9 : decode cX5_costWithDuty 9 = .ok (.getfield 194, 3) := by decide +kernel
theorem dX5_costWithDuty_12 : decode cX5_costWithDuty 12 = .ok (.aload_n 0, 1) := by decide +kernel
theorem dX5_costWithDuty_13 : decode cX5_costWithDuty 13 = .ok (.getfield 10, 3) := by decide +kernel
theorem dX5_costWithDuty_16 : decode cX5_costWithDuty 16 = .ok (.getfield 55, 3) := by decide +kernel
theorem dX5_costWithDuty_19 : decode cX5_costWithDuty 19 = .ok (.invokestatic 198, 3) := by decide +kernel
theorem dX5_costWithDuty_22 : decode cX5_costWithDuty 22 = .ok (.iadd, 1) := by decide +kernel
theorem dX5_costWithDuty_23 : decode cX5_costWithDuty 23 = .ok (.ireturn, 1) := by decide +kernel
theorem dX5_isMember_0 : decode cX5_isMember 0 = .ok (.iload_n 0, 1) := by decide +kernel
theorem dX5_isMember_1 : decode cX5_isMember 1 = .ok (.ifCond .lt 13, 3) := by decide +kernel
theorem dX5_isMember_4 : decode cX5_isMember 4 = .ok (.iload_n 0, 1) := by decide +kernel
theorem dX5_isMember_5 : decode cX5_isMember 5 = .ok (.bipush 6, 2) := by decide +kernel
theorem dX5_isMember_7 : decode cX5_isMember 7 = .ok (.if_icmp .ge 7, 3) := by decide +kernel
theorem dX5_isMember_10 : decode cX5_isMember 10 = .ok (.iconst 1, 1) := by decide +kernel
theorem dX5_isMember_11 : decode cX5_isMember 11 = .ok (.goto 4, 3) := by decide +kernel
theorem dX5_isMember_14 : decode cX5_isMember 14 = .ok (.iconst 0, 1) := by decide +kernel
theorem dX5_isMember_15 : decode cX5_isMember 15 = .ok (.ireturn, 1) := by decide +kernel
theorem dX5_isGauge_0 : decode cX5_isGauge 0 = .ok (.iload_n 0, 1) := by decide +kernel
theorem dX5_isGauge_1 : decode cX5_isGauge 1 = .ok (.ifCond .lt 13, 3) := by decide +kernel
theorem dX5_isGauge_4 : decode cX5_isGauge 4 = .ok (.iload_n 0, 1) := by decide +kernel
theorem dX5_isGauge_5 : decode cX5_isGauge 5 = .ok (.bipush 8, 2) := by decide +kernel
theorem dX5_isGauge_7 : decode cX5_isGauge 7 = .ok (.if_icmp .ge 7, 3) := by decide +kernel
theorem dX5_isGauge_10 : decode cX5_isGauge 10 = .ok (.iconst 1, 1) := by decide +kernel
theorem dX5_isGauge_11 : decode cX5_isGauge 11 = .ok (.goto 4, 3) := by decide +kernel
theorem dX5_isGauge_14 : decode cX5_isGauge 14 = .ok (.iconst 0, 1) := by decide +kernel
theorem dX5_isGauge_15 : decode cX5_isGauge 15 = .ok (.ireturn, 1) := by decide +kernel
theorem dX5_isSet_0 : decode cX5_isSet 0 = .ok (.iload_n 0, 1) := by decide +kernel
theorem dX5_isSet_1 : decode cX5_isSet 1 = .ok (.ifCond .lt 13, 3) := by decide +kernel
theorem dX5_isSet_4 : decode cX5_isSet 4 = .ok (.iload_n 0, 1) := by decide +kernel
theorem dX5_isSet_5 : decode cX5_isSet 5 = .ok (.bipush 63, 2) := by decide +kernel
theorem dX5_isSet_7 : decode cX5_isSet 7 = .ok (.if_icmp .gt 7, 3) := by decide +kernel
theorem dX5_isSet_10 : decode cX5_isSet 10 = .ok (.iconst 1, 1) := by decide +kernel
theorem dX5_isSet_11 : decode cX5_isSet 11 = .ok (.goto 4, 3) := by decide +kernel
theorem dX5_isSet_14 : decode cX5_isSet 14 = .ok (.iconst 0, 1) := by decide +kernel
theorem dX5_isSet_15 : decode cX5_isSet 15 = .ok (.ireturn, 1) := by decide +kernel
theorem dX5_isIn_0 : decode cX5_isIn 0 = .ok (.iload_n 0, 1) := by decide +kernel
theorem dX5_isIn_1 : decode cX5_isIn 1 = .ok (.iload_n 1, 1) := by decide +kernel
theorem dX5_isIn_2 : decode cX5_isIn 2 = .ok (.ishr, 1) := by decide +kernel
theorem dX5_isIn_3 : decode cX5_isIn 3 = .ok (.iconst 1, 1) := by decide +kernel
theorem dX5_isIn_4 : decode cX5_isIn 4 = .ok (.iand, 1) := by decide +kernel
theorem dX5_isIn_5 : decode cX5_isIn 5 = .ok (.iconst 1, 1) := by decide +kernel
theorem dX5_isIn_6 : decode cX5_isIn 6 = .ok (.if_icmp .ne 7, 3) := by decide +kernel
theorem dX5_isIn_9 : decode cX5_isIn 9 = .ok (.iconst 1, 1) := by decide +kernel
theorem dX5_isIn_10 : decode cX5_isIn 10 = .ok (.goto 4, 3) := by decide +kernel
theorem dX5_isIn_13 : decode cX5_isIn 13 = .ok (.iconst 0, 1) := by decide +kernel
theorem dX5_isIn_14 : decode cX5_isIn 14 = .ok (.ireturn, 1) := by decide +kernel
theorem dX5_priceOf_0 : decode cX5_priceOf 0 = .ok (.bipush 10, 2) := by decide +kernel
theorem dX5_priceOf_2 : decode cX5_priceOf 2 = .ok (.iconst 5, 1) := by decide +kernel
theorem dX5_priceOf_3 : decode cX5_priceOf 3 = .ok (.iload_n 0, 1) := by decide +kernel
theorem dX5_priceOf_4 : decode cX5_priceOf 4 = .ok (.imul, 1) := by decide +kernel
theorem dX5_priceOf_5 : decode cX5_priceOf 5 = .ok (.iadd, 1) := by decide +kernel
theorem dX5_priceOf_6 : decode cX5_priceOf 6 = .ok (.ireturn, 1) := by decide +kernel
theorem dX5_weightOf_0 : decode cX5_weightOf 0 = .ok (.iconst 1, 1) := by decide +kernel
theorem dX5_weightOf_1 : decode cX5_weightOf 1 = .ok (.iload_n 0, 1) := by decide +kernel
theorem dX5_weightOf_2 : decode cX5_weightOf 2 = .ok (.iadd, 1) := by decide +kernel
theorem dX5_weightOf_3 : decode cX5_weightOf 3 = .ok (.ireturn, 1) := by decide +kernel
theorem dX5_dutyOn_0 : decode cX5_dutyOn 0 = .ok (.iload_n 0, 1) := by decide +kernel
theorem dX5_dutyOn_1 : decode cX5_dutyOn 1 = .ok (.aload_n 1, 1) := by decide +kernel
theorem dX5_dutyOn_2 : decode cX5_dutyOn 2 = .ok (.iconst 5, 1) := by decide +kernel
theorem dX5_dutyOn_3 : decode cX5_dutyOn 3 = .ok (.iaload, 1) := by decide +kernel
theorem dX5_dutyOn_4 : decode cX5_dutyOn 4 = .ok (.isub, 1) := by decide +kernel
theorem dX5_dutyOn_5 : decode cX5_dutyOn 5 = .ok (.iconst 0, 1) := by decide +kernel
theorem dX5_dutyOn_6 : decode cX5_dutyOn 6 = .ok (.invokestatic 241, 3) := by decide +kernel
theorem dX5_dutyOn_9 : decode cX5_dutyOn 9 = .ok (.aload_n 1, 1) := by decide +kernel
theorem dX5_dutyOn_10 : decode cX5_dutyOn 10 = .ok (.bipush 6, 2) := by decide +kernel
theorem dX5_dutyOn_12 : decode cX5_dutyOn 12 = .ok (.iaload, 1) := by decide +kernel
theorem dX5_dutyOn_13 : decode cX5_dutyOn 13 = .ok (.imul, 1) := by decide +kernel
theorem dX5_dutyOn_14 : decode cX5_dutyOn 14 = .ok (.bipush 100, 2) := by decide +kernel
theorem dX5_dutyOn_16 : decode cX5_dutyOn 16 = .ok (.idiv, 1) := by decide +kernel
theorem dX5_dutyOn_17 : decode cX5_dutyOn 17 = .ok (.ireturn, 1) := by decide +kernel
theorem dX5_sumOf_0 : decode cX5_sumOf 0 = .ok (.iconst 0, 1) := by decide +kernel
theorem dX5_sumOf_1 : decode cX5_sumOf 1 = .ok (.istore_n 1, 1) := by decide +kernel
theorem dX5_sumOf_2 : decode cX5_sumOf 2 = .ok (.aload_n 0, 1) := by decide +kernel
theorem dX5_sumOf_3 : decode cX5_sumOf 3 = .ok (.astore_n 2, 1) := by decide +kernel
theorem dX5_sumOf_4 : decode cX5_sumOf 4 = .ok (.aload_n 2, 1) := by decide +kernel
theorem dX5_sumOf_5 : decode cX5_sumOf 5 = .ok (.arraylength, 1) := by decide +kernel
theorem dX5_sumOf_6 : decode cX5_sumOf 6 = .ok (.istore_n 3, 1) := by decide +kernel
theorem dX5_sumOf_7 : decode cX5_sumOf 7 = .ok (.iconst 0, 1) := by decide +kernel
theorem dX5_sumOf_8 : decode cX5_sumOf 8 = .ok (.istore 4, 2) := by decide +kernel
theorem dX5_sumOf_10 : decode cX5_sumOf 10 = .ok (.iload 4, 2) := by decide +kernel
theorem dX5_sumOf_12 : decode cX5_sumOf 12 = .ok (.iload_n 3, 1) := by decide +kernel
theorem dX5_sumOf_13 : decode cX5_sumOf 13 = .ok (.if_icmp .ge 20, 3) := by decide +kernel
theorem dX5_sumOf_16 : decode cX5_sumOf 16 = .ok (.aload_n 2, 1) := by decide +kernel
theorem dX5_sumOf_17 : decode cX5_sumOf 17 = .ok (.iload 4, 2) := by decide +kernel
theorem dX5_sumOf_19 : decode cX5_sumOf 19 = .ok (.iaload, 1) := by decide +kernel
theorem dX5_sumOf_20 : decode cX5_sumOf 20 = .ok (.istore 5, 2) := by decide +kernel
theorem dX5_sumOf_22 : decode cX5_sumOf 22 = .ok (.iload_n 1, 1) := by decide +kernel
theorem dX5_sumOf_23 : decode cX5_sumOf 23 = .ok (.iload 5, 2) := by decide +kernel
