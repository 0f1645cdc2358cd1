theorem d_St_init_0 : decode prog_1_method_1_code 0 = .ok (.aload_n 0, 1) := by decide +kernel
theorem d_St_init_1 : decode prog_1_method_1_code 1 = .ok (.invokespecial 1, 3) := by decide +kernel
theorem d_St_init_4 : decode prog_1_method_1_code 4 = .ok (.aload_n 0, 1) := by decide +kernel
theorem d_St_init_5 : decode prog_1_method_1_code 5 = .ok (.iload_n 1, 1) := by decide +kernel
theorem d_St_init_6 : decode prog_1_method_1_code 6 = .ok (.iconst 3, 1) := by decide +kernel
theorem d_St_init_7 : decode prog_1_method_1_code 7 = .ok (.invokestatic 9, 3) := by decide +kernel
theorem d_St_init_10 : decode prog_1_method_1_code 10 = .ok (.putfield 15, 3) := by decide +kernel
theorem d_St_init_13 : decode prog_1_method_1_code 13 = .ok (.aload_n 0, 1) := by decide +kernel
theorem d_St_init_14 : decode prog_1_method_1_code 14 = .ok (.new 19, 3) := by decide +kernel
theorem d_St_init_17 : decode prog_1_method_1_code 17 = .ok (.dup, 1) := by decide +kernel
theorem d_St_init_18 : decode prog_1_method_1_code 18 = .ok (.aload_n 0, 1) := by decide +kernel
theorem d_St_init_19 : decode prog_1_method_1_code 19 = .ok (.getfield 15, 3) := by decide +kernel
theorem d_St_init_22 : decode prog_1_method_1_code 22 = .ok (.invokespecial 21, 3) := by decide +kernel
theorem d_St_init_25 : decode prog_1_method_1_code 25 = .ok (.putfield 24, 3) := by decide +kernel
theorem d_St_init_28 : decode prog_1_method_1_code 28 = .ok (.aload_n 0, 1) := by decide +kernel
theorem d_St_init_29 : decode prog_1_method_1_code 29 = .ok (.new 19, 3) := by decide +kernel
theorem d_St_init_32 : decode prog_1_method_1_code 32 = .ok (.dup, 1) := by decide +kernel
theorem d_St_init_33 : decode prog_1_method_1_code 33 = .ok (.aload_n 0, 1) := by decide +kernel
theorem d_St_init_34 : decode prog_1_method_1_code 34 = .ok (.getfield 15, 3) := by decide +kernel
theorem d_St_init_37 : decode prog_1_method_1_code 37 = .ok (.invokespecial 21, 3) := by decide +kernel
theorem d_St_init_40 : decode prog_1_method_1_code 40 = .ok (.putfield 28, 3) := by decide +kernel
theorem d_St_init_43 : decode prog_1_method_1_code 43 = .ok (.aload_n 0, 1) := by decide +kernel
theorem d_St_init_44 : decode prog_1_method_1_code 44 = .ok (.new 19, 3) := by decide +kernel
theorem d_St_init_47 : decode prog_1_method_1_code 47 = .ok (.dup, 1) := by decide +kernel
theorem d_St_init_48 : decode prog_1_method_1_code 48 = .ok (.aload_n 0, 1) := by decide +kernel
theorem d_St_init_49 : decode prog_1_method_1_code 49 = .ok (.getfield 15, 3) := by decide +kernel
theorem d_St_init_52 : decode prog_1_method_1_code 52 = .ok (.invokespecial 21, 3) := by decide +kernel
theorem d_St_init_55 : decode prog_1_method_1_code 55 = .ok (.putfield 31, 3) := by decide +kernel
theorem d_St_init_58 : decode prog_1_method_1_code 58 = .ok (.aload_n 0, 1) := by decide +kernel
theorem d_St_init_59 : decode prog_1_method_1_code 59 = .ok (.new 19, 3) := by decide +kernel
theorem d_St_init_62 : decode prog_1_method_1_code 62 = .ok (.dup, 1) := by decide +kernel
theorem d_St_init_63 : decode prog_1_method_1_code 63 = .ok (.aload_n 0, 1) := by decide +kernel
theorem d_St_init_64 : decode prog_1_method_1_code 64 = .ok (.getfield 15, 3) := by decide +kernel
theorem d_St_init_67 : decode prog_1_method_1_code 67 = .ok (.invokespecial 21, 3) := by decide +kernel
theorem d_St_init_70 : decode prog_1_method_1_code 70 = .ok (.putfield 34, 3) := by decide +kernel
theorem d_St_init_73 : decode prog_1_method_1_code 73 = .ok (.aload_n 0, 1) := by decide +kernel
theorem d_St_init_74 : decode prog_1_method_1_code 74 = .ok (.new 37, 3) := by decide +kernel
theorem d_St_init_77 : decode prog_1_method_1_code 77 = .ok (.dup, 1) := by decide +kernel
theorem d_St_init_78 : decode prog_1_method_1_code 78 = .ok (.aload_n 0, 1) := by decide +kernel
theorem d_St_init_79 : decode prog_1_method_1_code 79 = .ok (.getfield 24, 3) := by decide +kernel
theorem d_St_init_82 : decode prog_1_method_1_code 82 = .ok (.getfield 39, 3) := by decide +kernel
theorem d_St_init_85 : decode prog_1_method_1_code 85 = .ok (.arraylength, 1) := by decide +kernel
theorem d_St_init_86 : decode prog_1_method_1_code 86 = .ok (.invokespecial 43, 3) := by decide +kernel
theorem d_St_init_89 : decode prog_1_method_1_code 89 = .ok (.putfield 44, 3) := by decide +kernel
theorem d_St_init_92 : decode prog_1_method_1_code 92 = .ok (.aload_n 0, 1) := by decide +kernel
theorem d_St_init_93 : decode prog_1_method_1_code 93 = .ok (.new 48, 3) := by decide +kernel
theorem d_St_init_96 : decode prog_1_method_1_code 96 = .ok (.dup, 1) := by decide +kernel
theorem d_St_init_97 : decode prog_1_method_1_code 97 = .ok (.aload_n 0, 1) := by decide +kernel
theorem d_St_init_98 : decode prog_1_method_1_code 98 = .ok (.getfield 44, 3) := by decide +kernel
theorem d_St_init_101 : decode prog_1_method_1_code 101 = .ok (.invokevirtual 50, 3) := by decide +kernel
theorem d_St_init_104 : decode prog_1_method_1_code 104 = .ok (.invokespecial 54, 3) := by decide +kernel
theorem d_St_init_107 : decode prog_1_method_1_code 107 = .ok (.putfield 55, 3) := by decide +kernel
theorem d_St_init_110 : decode prog_1_method_1_code 110 = .ok (.aload_n 0, 1) := by decide +kernel
theorem d_St_init_111 : decode prog_1_method_1_code 111 = .ok (.iconst 0, 1) := by decide +kernel
theorem d_St_init_112 : decode prog_1_method_1_code 112 = .ok (.putfield 59, 3) := by decide +kernel
theorem d_St_init_115 : decode prog_1_method_1_code 115 = .ok (.return_, 1) := by decide +kernel
theorem d_Ma_floorMod_0 : decode prog_13_method_50_code 0 = .ok (.iload_n 0, 1) := by decide +kernel
theorem d_Ma_floorMod_1 : decode prog_13_method_50_code 1 = .ok (.iload_n 1, 1) := by decide +kernel
theorem d_Ma_floorMod_2 : decode prog_13_method_50_code 2 = .ok (.irem, 1) := by decide +kernel
theorem d_Ma_floorMod_3 : decode prog_13_method_50_code 3 = .ok (.istore_n 2, 1) := by decide +kernel
theorem d_Ma_floorMod_4 : decode prog_13_method_50_code 4 = .ok (.iload_n 0, 1) := by decide +kernel
theorem d_Ma_floorMod_5 : decode prog_13_method_50_code 5 = .ok (.iload_n 1, 1) := by decide +kernel
theorem d_Ma_floorMod_6 : decode prog_13_method_50_code 6 = .ok (.ixor, 1) := by decide +kernel
theorem d_Ma_floorMod_7 : decode prog_13_method_50_code 7 = .ok (.ifCond .ge 11, 3) := by decide +kernel
theorem d_Ma_floorMod_10 : decode prog_13_method_50_code 10 = .ok (.iload_n 2, 1) := by decide +kernel
theorem d_Ma_floorMod_11 : decode prog_13_method_50_code 11 = .ok (.ifCond .eq 7, 3) := by decide +kernel
theorem d_Ma_floorMod_14 : decode prog_13_method_50_code 14 = .ok (.iload_n 2, 1) := by decide +kernel
theorem d_Ma_floorMod_15 : decode prog_13_method_50_code 15 = .ok (.iload_n 1, 1) := by decide +kernel
theorem d_Ma_floorMod_16 : decode prog_13_method_50_code 16 = .ok (.iadd, 1) := by decide +kernel
theorem d_Ma_floorMod_17 : decode prog_13_method_50_code 17 = .ok (.ireturn, 1) := by decide +kernel
theorem d_Ma_floorMod_18 : decode prog_13_method_50_code 18 = .ok (.iload_n 2, 1) := by decide +kernel
theorem d_Ma_floorMod_19 : decode prog_13_method_50_code 19 = .ok (.ireturn, 1) := by decide +kernel
theorem d_Ke_init_0 : decode prog_2_method_1_code 0 = .ok (.aload_n 0, 1) := by decide +kernel
theorem d_Ke_init_1 : decode prog_2_method_1_code 1 = .ok (.invokespecial 3, 3) := by decide +kernel
theorem d_Ke_init_4 : decode prog_2_method_1_code 4 = .ok (.aload_n 0, 1) := by decide +kernel
theorem d_Ke_init_5 : decode prog_2_method_1_code 5 = .ok (.iload_n 1, 1) := by decide +kernel
theorem d_Ke_init_6 : decode prog_2_method_1_code 6 = .ok (.iconst 2, 1) := by decide +kernel
theorem d_Ke_init_7 : decode prog_2_method_1_code 7 = .ok (.if_icmp .ne 7, 3) := by decide +kernel
theorem d_Ke_init_10 : decode prog_2_method_1_code 10 = .ok (.iconst 1, 1) := by decide +kernel
theorem d_Ke_init_11 : decode prog_2_method_1_code 11 = .ok (.goto 4, 3) := by decide +kernel
theorem d_Ke_init_14 : decode prog_2_method_1_code 14 = .ok (.iconst 0, 1) := by decide +kernel
theorem d_Ke_init_15 : decode prog_2_method_1_code 15 = .ok (.putfield 9, 3) := by decide +kernel
theorem d_Ke_init_18 : decode prog_2_method_1_code 18 = .ok (.aload_n 0, 1) := by decide +kernel
theorem d_Ke_init_19 : decode prog_2_method_1_code 19 = .ok (.aload_n 0, 1) := by decide +kernel
theorem d_Ke_init_20 : decode prog_2_method_1_code 20 = .ok (.getfield 9, 3) := by decide +kernel
theorem d_Ke_init_23 : decode prog_2_method_1_code 23 = .ok (.ifCond .eq 8, 3) := by decide +kernel
theorem d_Ke_init_26 : decode prog_2_method_1_code 26 = .ok (.bipush 7, 2) := by decide +kernel
theorem d_Ke_init_28 : decode prog_2_method_1_code 28 = .ok (.goto 6, 3) := by decide +kernel
theorem d_Ke_init_31 : decode prog_2_method_1_code 31 = .ok (.iload_n 1, 1) := by decide +kernel
theorem d_Ke_init_32 : decode prog_2_method_1_code 32 = .ok (.iconst 1, 1) := by decide +kernel
theorem d_Ke_init_33 : decode prog_2_method_1_code 33 = .ok (.iadd, 1) := by decide +kernel
theorem d_Ke_init_34 : decode prog_2_method_1_code 34 = .ok (.newarray .long, 2) := by decide +kernel
theorem d_Ke_init_36 : decode prog_2_method_1_code 36 = .ok (.putfield 15, 3) := by decide +kernel
theorem d_Ke_init_39 : decode prog_2_method_1_code 39 = .ok (.aload_n 0, 1) := by decide +kernel
theorem d_Ke_init_40 : decode prog_2_method_1_code 40 = .ok (.invokevirtual 19, 3) := by decide +kernel
theorem d_Ke_init_43 : decode prog_2_method_1_code 43 = .ok (.return_, 1) := by decide +kernel
theorem d_Ke_becomeFirst_0 : decode prog_2_method_2_code 0 = .ok (.aload_n 0, 1) := by decide +kernel
theorem d_Ke_becomeFirst_1 : decode prog_2_method_2_code 1 = .ok (.getfield 15, 3) := by decide +kernel
theorem d_Ke_becomeFirst_4 : decode prog_2_method_2_code 4 = .ok (.aload_n 0, 1) := by decide +kernel
theorem d_Ke_becomeFirst_5 : decode prog_2_method_2_code 5 = .ok (.getfield 9, 3) := by decide +kernel
theorem d_Ke_becomeFirst_8 : decode prog_2_method_2_code 8 = .ok (.ifCond .eq 7, 3) := by decide +kernel
theorem d_Ke_becomeFirst_11 : decode prog_2_method_2_code 11 = .ok (.lconst 0, 1) := by decide +kernel
theorem d_Ke_becomeFirst_12 : decode prog_2_method_2_code 12 = .ok (.goto 6, 3) := by decide +kernel
theorem d_Ke_becomeFirst_15 : decode prog_2_method_2_code 15 = .ok (.ldc2_w 22, 3) := by decide +kernel
theorem d_Ke_becomeFirst_18 : decode prog_2_method_2_code 18 = .ok (.invokestatic 24, 3) := by decide +kernel
theorem d_Ke_becomeFirst_21 : decode prog_2_method_2_code 21 = .ok (.return_, 1) := by decide +kernel
theorem d_Ar_fillJ_0 : decode prog_19_method_101_code 0 = .ok (.iconst 0, 1) := by decide +kernel
theorem d_Ar_fillJ_1 : decode prog_19_method_101_code 1 = .ok (.istore_n 3, 1) := by decide +kernel
theorem d_Ar_fillJ_2 : decode prog_19_method_101_code 2 = .ok (.aload_n 0, 1) := by decide +kernel
theorem d_Ar_fillJ_3 : decode prog_19_method_101_code 3 = .ok (.arraylength, 1) := by decide +kernel
theorem d_Ar_fillJ_4 : decode prog_19_method_101_code 4 = .ok (.istore 4, 2) := by decide +kernel
theorem d_Ar_fillJ_6 : decode prog_19_method_101_code 6 = .ok (.iload_n 3, 1) := by decide +kernel
theorem d_Ar_fillJ_7 : decode prog_19_method_101_code 7 = .ok (.iload 4, 2) := by decide +kernel
theorem d_Ar_fillJ_9 : decode prog_19_method_101_code 9 = .ok (.if_icmp .ge 13, 3) := by decide +kernel
theorem d_Ar_fillJ_12 : decode prog_19_method_101_code 12 = .ok (.aload_n 0, 1) := by decide +kernel
theorem d_Ar_fillJ_13 : decode prog_19_method_101_code 13 = .ok (.iload_n 3, 1) := by decide +kernel
theorem d_Ar_fillJ_14 : decode prog_19_method_101_code 14 = .ok (.lload_n 1, 1) := by decide +kernel
theorem d_Ar_fillJ_15 : decode prog_19_method_101_code 15 = .ok (.lastore, 1) := by decide +kernel
theorem d_Ar_fillJ_16 : decode prog_19_method_101_code 16 = .ok (.iinc 3 1, 3) := by decide +kernel
theorem d_Ar_fillJ_19 : decode prog_19_method_101_code 19 = .ok (.goto (-13), 3) := by decide +kernel
theorem d_Ar_fillJ_22 : decode prog_19_method_101_code 22 = .ok (.return_, 1) := by decide +kernel
theorem d_Ta_init_0 : decode prog_4_method_1_code 0 = .ok (.aload_n 0, 1) := by decide +kernel
theorem d_Ta_init_1 : decode prog_4_method_1_code 1 = .ok (.invokespecial 3, 3) := by decide +kernel
theorem d_Ta_init_4 : decode prog_4_method_1_code 4 = .ok (.aload_n 0, 1) := by decide +kernel
theorem d_Ta_init_5 : decode prog_4_method_1_code 5 = .ok (.iload_n 1, 1) := by decide +kernel
theorem d_Ta_init_6 : decode prog_4_method_1_code 6 = .ok (.putfield 9, 3) := by decide +kernel
theorem d_Ta_init_9 : decode prog_4_method_1_code 9 = .ok (.aload_n 0, 1) := by decide +kernel
theorem d_Ta_init_10 : decode prog_4_method_1_code 10 = .ok (.bipush 16, 2) := by decide +kernel
theorem d_Ta_init_12 : decode prog_4_method_1_code 12 = .ok (.iload_n 1, 1) := by decide +kernel
theorem d_Ta_init_13 : decode prog_4_method_1_code 13 = .ok (.imul, 1) := by decide +kernel
theorem d_Ta_init_14 : decode prog_4_method_1_code 14 = .ok (.newarray .long, 2) := by decide +kernel
theorem d_Ta_init_16 : decode prog_4_method_1_code 16 = .ok (.putfield 15, 3) := by decide +kernel
theorem d_Ta_init_19 : decode prog_4_method_1_code 19 = .ok (.aload_n 0, 1) := by decide +kernel
theorem d_Ta_init_20 : decode prog_4_method_1_code 20 = .ok (.bipush 16, 2) := by decide +kernel
theorem d_Ta_init_22 : decode prog_4_method_1_code 22 = .ok (.newarray .long, 2) := by decide +kernel
theorem d_Ta_init_24 : decode prog_4_method_1_code 24 = .ok (.putfield 19, 3) := by decide +kernel
theorem d_Ta_init_27 : decode prog_4_method_1_code 27 = .ok (.aload_n 0, 1) := by decide +kernel
theorem d_Ta_init_28 : decode prog_4_method_1_code 28 = .ok (.iconst 0, 1) := by decide +kernel
theorem d_Ta_init_29 : decode prog_4_method_1_code 29 = .ok (.putfield 22, 3) := by decide +kernel
theorem d_Ta_init_32 : decode prog_4_method_1_code 32 = .ok (.aload_n 0, 1) := by decide +kernel
theorem d_Ta_init_33 : decode prog_4_method_1_code 33 = .ok (.iconst 0, 1) := by decide +kernel
theorem d_Ta_init_34 : decode prog_4_method_1_code 34 = .ok (.putfield 25, 3) := by decide +kernel
theorem d_Ta_init_37 : decode prog_4_method_1_code 37 = .ok (.return_, 1) := by decide +kernel
theorem d_Ta_mostShared_0 : decode prog_4_method_8_code 0 = .ok (.bipush 8, 2) := by decide +kernel
theorem d_Ta_mostShared_2 : decode prog_4_method_8_code 2 = .ok (.aload_n 0, 1) := by decide +kernel
theorem d_Ta_mostShared_3 : decode prog_4_method_8_code 3 = .ok (.getfield 9, 3) := by decide +kernel
theorem d_Ta_mostShared_6 : decode prog_4_method_8_code 6 = .ok (.imul, 1) := by decide +kernel
theorem d_Ta_mostShared_7 : decode prog_4_method_8_code 7 = .ok (.ireturn, 1) := by decide +kernel
theorem d_Sh_init_0 : decode prog_3_method_1_code 0 = .ok (.aload_n 0, 1) := by decide +kernel
theorem d_Sh_init_1 : decode prog_3_method_1_code 1 = .ok (.invokespecial 3, 3) := by decide +kernel
theorem d_Sh_init_4 : decode prog_3_method_1_code 4 = .ok (.aload_n 0, 1) := by decide +kernel
theorem d_Sh_init_5 : decode prog_3_method_1_code 5 = .ok (.getstatic 9, 3) := by decide +kernel
theorem d_Sh_init_8 : decode prog_3_method_1_code 8 = .ok (.arraylength, 1) := by decide +kernel
theorem d_Sh_init_9 : decode prog_3_method_1_code 9 = .ok (.newarray .int, 2) := by decide +kernel
theorem d_Sh_init_11 : decode prog_3_method_1_code 11 = .ok (.putfield 13, 3) := by decide +kernel
theorem d_Sh_init_14 : decode prog_3_method_1_code 14 = .ok (.aload_n 0, 1) := by decide +kernel
theorem d_Sh_init_15 : decode prog_3_method_1_code 15 = .ok (.iconst 0, 1) := by decide +kernel
theorem d_Sh_init_16 : decode prog_3_method_1_code 16 = .ok (.putfield 18, 3) := by decide +kernel
theorem d_Sh_init_19 : decode prog_3_method_1_code 19 = .ok (.aload_n 0, 1) := by decide +kernel
theorem d_Sh_init_20 : decode prog_3_method_1_code 20 = .ok (.iconst 0, 1) := by decide +kernel
theorem d_Sh_init_21 : decode prog_3_method_1_code 21 = .ok (.putfield 22, 3) := by decide +kernel
theorem d_Sh_init_24 : decode prog_3_method_1_code 24 = .ok (.aload_n 0, 1) := by decide +kernel
theorem d_Sh_init_25 : decode prog_3_method_1_code 25 = .ok (.iload_n 1, 1) := by decide +kernel
theorem d_Sh_init_26 : decode prog_3_method_1_code 26 = .ok (.newarray .int, 2) := by decide +kernel
theorem d_Sh_init_28 : decode prog_3_method_1_code 28 = .ok (.putfield 25, 3) := by decide +kernel
theorem d_Sh_init_31 : decode prog_3_method_1_code 31 = .ok (.aload_n 0, 1) := by decide +kernel
theorem d_Sh_init_32 : decode prog_3_method_1_code 32 = .ok (.iload_n 1, 1) := by decide +kernel
theorem d_Sh_init_33 : decode prog_3_method_1_code 33 = .ok (.newarray .int, 2) := by decide +kernel
theorem d_Sh_init_35 : decode prog_3_method_1_code 35 = .ok (.putfield 28, 3) := by decide +kernel
theorem d_Sh_init_38 : decode prog_3_method_1_code 38 = .ok (.aload_n 0, 1) := by decide +kernel
theorem d_Sh_init_39 : decode prog_3_method_1_code 39 = .ok (.iload_n 1, 1) := by decide +kernel
theorem d_Sh_init_40 : decode prog_3_method_1_code 40 = .ok (.newarray .int, 2) := by decide +kernel
theorem d_Sh_init_42 : decode prog_3_method_1_code 42 = .ok (.putfield 31, 3) := by decide +kernel
theorem d_Sh_init_45 : decode prog_3_method_1_code 45 = .ok (.aload_n 0, 1) := by decide +kernel
theorem d_Sh_init_46 : decode prog_3_method_1_code 46 = .ok (.iconst 0, 1) := by decide +kernel
theorem d_Sh_init_47 : decode prog_3_method_1_code 47 = .ok (.putfield 34, 3) := by decide +kernel
theorem d_Sh_init_50 : decode prog_3_method_1_code 50 = .ok (.return_, 1) := by decide +kernel
theorem d_St_erase_0 : decode prog_1_method_5_code 0 = .ok (.aload_n 0, 1) := by decide +kernel
theorem d_St_erase_1 : decode prog_1_method_5_code 1 = .ok (.getfield 24, 3) := by decide +kernel
theorem d_St_erase_4 : decode prog_1_method_5_code 4 = .ok (.invokevirtual 94, 3) := by decide +kernel
theorem d_St_erase_7 : decode prog_1_method_5_code 7 = .ok (.return_, 1) := by decide +kernel
theorem d_St_keep_0 : decode prog_1_method_6_code 0 = .ok (.aload_n 0, 1) := by decide +kernel
theorem d_St_keep_1 : decode prog_1_method_6_code 1 = .ok (.getfield 28, 3) := by decide +kernel
theorem d_St_keep_4 : decode prog_1_method_6_code 4 = .ok (.aload_n 0, 1) := by decide +kernel
theorem d_St_keep_5 : decode prog_1_method_6_code 5 = .ok (.getfield 24, 3) := by decide +kernel
theorem d_St_keep_8 : decode prog_1_method_6_code 8 = .ok (.invokevirtual 97, 3) := by decide +kernel
theorem d_St_keep_11 : decode prog_1_method_6_code 11 = .ok (.return_, 1) := by decide +kernel
theorem d_Ke_become_0 : decode prog_2_method_3_code 0 = .ok (.aload_n 1, 1) := by decide +kernel
theorem d_Ke_become_1 : decode prog_2_method_3_code 1 = .ok (.getfield 15, 3) := by decide +kernel
theorem d_Ke_become_4 : decode prog_2_method_3_code 4 = .ok (.iconst 0, 1) := by decide +kernel
theorem d_Ke_become_5 : decode prog_2_method_3_code 5 = .ok (.aload_n 0, 1) := by decide +kernel
theorem d_Ke_become_6 : decode prog_2_method_3_code 6 = .ok (.getfield 15, 3) := by decide +kernel
theorem d_Ke_become_9 : decode prog_2_method_3_code 9 = .ok (.iconst 0, 1) := by decide +kernel
theorem d_Ke_become_10 : decode prog_2_method_3_code 10 = .ok (.aload_n 0, 1) := by decide +kernel
theorem d_Ke_become_11 : decode prog_2_method_3_code 11 = .ok (.getfield 15, 3) := by decide +kernel
theorem d_Ke_become_14 : decode prog_2_method_3_code 14 = .ok (.arraylength, 1) := by decide +kernel
theorem d_Ke_become_15 : decode prog_2_method_3_code 15 = .ok (.invokestatic 30, 3) := by decide +kernel
theorem d_Ke_become_18 : decode prog_2_method_3_code 18 = .ok (.return_, 1) := by decide +kernel
theorem d_St_there_0 : decode prog_1_method_13_code 0 = .ok (.aload_n 0, 1) := by decide +kernel
theorem d_St_there_1 : decode prog_1_method_13_code 1 = .ok (.getfield 59, 3) := by decide +kernel
theorem d_St_there_4 : decode prog_1_method_13_code 4 = .ok (.ifCond .eq 32, 3) := by decide +kernel
theorem d_St_there_7 : decode prog_1_method_13_code 7 = .ok (.aload_n 0, 1) := by decide +kernel
theorem d_St_there_8 : decode prog_1_method_13_code 8 = .ok (.getfield 44, 3) := by decide +kernel
theorem d_St_there_11 : decode prog_1_method_13_code 11 = .ok (.aload_n 0, 1) := by decide +kernel
theorem d_St_there_12 : decode prog_1_method_13_code 12 = .ok (.getfield 44, 3) := by decide +kernel
theorem d_St_there_15 : decode prog_1_method_13_code 15 = .ok (.aload_n 0, 1) := by decide +kernel
theorem d_St_there_16 : decode prog_1_method_13_code 16 = .ok (.getfield 31, 3) := by decide +kernel
theorem d_St_there_19 : decode prog_1_method_13_code 19 = .ok (.invokevirtual 106, 3) := by decide +kernel
theorem d_St_there_22 : decode prog_1_method_13_code 22 = .ok (.aload_n 0, 1) := by decide +kernel
theorem d_St_there_23 : decode prog_1_method_13_code 23 = .ok (.getfield 31, 3) := by decide +kernel
theorem d_St_there_26 : decode prog_1_method_13_code 26 = .ok (.invokevirtual 110, 3) := by decide +kernel
theorem d_St_there_29 : decode prog_1_method_13_code 29 = .ok (.ifCond .eq 7, 3) := by decide +kernel
theorem d_St_there_32 : decode prog_1_method_13_code 32 = .ok (.iconst 1, 1) := by decide +kernel
theorem d_St_there_33 : decode prog_1_method_13_code 33 = .ok (.goto 4, 3) := by decide +kernel
theorem d_St_there_36 : decode prog_1_method_13_code 36 = .ok (.iconst 0, 1) := by decide +kernel
theorem d_St_there_37 : decode prog_1_method_13_code 37 = .ok (.ireturn, 1) := by decide +kernel
theorem d_Ta_countBelow_0 : decode prog_4_method_2_code 0 = .ok (.iconst 0, 1) := by decide +kernel
theorem d_Ta_countBelow_1 : decode prog_4_method_2_code 1 = .ok (.istore_n 2, 1) := by decide +kernel
theorem d_Ta_countBelow_2 : decode prog_4_method_2_code 2 = .ok (.aload_n 0, 1) := by decide +kernel
theorem d_Ta_countBelow_3 : decode prog_4_method_2_code 3 = .ok (.getfield 22, 3) := by decide +kernel
theorem d_Ta_countBelow_6 : decode prog_4_method_2_code 6 = .ok (.istore_n 3, 1) := by decide +kernel
theorem d_Ta_countBelow_7 : decode prog_4_method_2_code 7 = .ok (.iload_n 2, 1) := by decide +kernel
theorem d_Ta_countBelow_8 : decode prog_4_method_2_code 8 = .ok (.iload_n 3, 1) := by decide +kernel
theorem d_Ta_countBelow_9 : decode prog_4_method_2_code 9 = .ok (.if_icmp .ge 34, 3) := by decide +kernel
theorem d_Ta_countBelow_12 : decode prog_4_method_2_code 12 = .ok (.iload_n 2, 1) := by decide +kernel
theorem d_Ta_countBelow_13 : decode prog_4_method_2_code 13 = .ok (.iload_n 3, 1) := by decide +kernel
theorem d_Ta_countBelow_14 : decode prog_4_method_2_code 14 = .ok (.iadd, 1) := by decide +kernel
theorem d_Ta_countBelow_15 : decode prog_4_method_2_code 15 = .ok (.iconst 2, 1) := by decide +kernel
theorem d_Ta_countBelow_16 : decode prog_4_method_2_code 16 = .ok (.idiv, 1) := by decide +kernel
theorem d_Ta_countBelow_17 : decode prog_4_method_2_code 17 = .ok (.istore 4, 2) := by decide +kernel
theorem d_Ta_countBelow_19 : decode prog_4_method_2_code 19 = .ok (.aload_n 0, 1) := by decide +kernel
theorem d_Ta_countBelow_20 : decode prog_4_method_2_code 20 = .ok (.iload 4, 2) := by decide +kernel
theorem d_Ta_countBelow_22 : decode prog_4_method_2_code 22 = .ok (.aload_n 1, 1) := by decide +kernel
theorem d_Ta_countBelow_23 : decode prog_4_method_2_code 23 = .ok (.invokevirtual 29, 3) := by decide +kernel
theorem d_Ta_countBelow_26 : decode prog_4_method_2_code 26 = .ok (.ifCond .eq 11, 3) := by decide +kernel
theorem d_Ta_countBelow_29 : decode prog_4_method_2_code 29 = .ok (.iload 4, 2) := by decide +kernel
theorem d_Ta_countBelow_31 : decode prog_4_method_2_code 31 = .ok (.iconst 1, 1) := by decide +kernel
theorem d_Ta_countBelow_32 : decode prog_4_method_2_code 32 = .ok (.iadd, 1) := by decide +kernel
theorem d_Ta_countBelow_33 : decode prog_4_method_2_code 33 = .ok (.istore_n 2, 1) := by decide +kernel
theorem d_Ta_countBelow_34 : decode prog_4_method_2_code 34 = .ok (.goto 6, 3) := by decide +kernel
theorem d_Ta_countBelow_37 : decode prog_4_method_2_code 37 = .ok (.iload 4, 2) := by decide +kernel
theorem d_Ta_countBelow_39 : decode prog_4_method_2_code 39 = .ok (.istore_n 3, 1) := by decide +kernel
theorem d_Ta_countBelow_40 : decode prog_4_method_2_code 40 = .ok (.goto (-33), 3) := by decide +kernel
theorem d_Ta_countBelow_43 : decode prog_4_method_2_code 43 = .ok (.iload_n 2, 1) := by decide +kernel
theorem d_Ta_countBelow_44 : decode prog_4_method_2_code 44 = .ok (.ireturn, 1) := by decide +kernel
theorem d_Ta_isBelow_0 : decode prog_4_method_11_code 0 = .ok (.iconst 0, 1) := by decide +kernel
theorem d_Ta_isBelow_1 : decode prog_4_method_11_code 1 = .ok (.istore_n 3, 1) := by decide +kernel
theorem d_Ta_isBelow_2 : decode prog_4_method_11_code 2 = .ok (.iload_n 3, 1) := by decide +kernel
theorem d_Ta_isBelow_3 : decode prog_4_method_11_code 3 = .ok (.aload_n 0, 1) := by decide +kernel
theorem d_Ta_isBelow_4 : decode prog_4_method_11_code 4 = .ok (.getfield 9, 3) := by decide +kernel
theorem d_Ta_isBelow_7 : decode prog_4_method_11_code 7 = .ok (.if_icmp .ge 62, 3) := by decide +kernel
theorem d_Ta_isBelow_10 : decode prog_4_method_11_code 10 = .ok (.aload_n 0, 1) := by decide +kernel
theorem d_Ta_isBelow_11 : decode prog_4_method_11_code 11 = .ok (.getfield 15, 3) := by decide +kernel
theorem d_Ta_isBelow_14 : decode prog_4_method_11_code 14 = .ok (.iload_n 1, 1) := by decide +kernel
theorem d_Ta_isBelow_15 : decode prog_4_method_11_code 15 = .ok (.aload_n 0, 1) := by decide +kernel
theorem d_Ta_isBelow_16 : decode prog_4_method_11_code 16 = .ok (.getfield 9, 3) := by decide +kernel
theorem d_Ta_isBelow_19 : decode prog_4_method_11_code 19 = .ok (.imul, 1) := by decide +kernel
theorem d_Ta_isBelow_20 : decode prog_4_method_11_code 20 = .ok (.iload_n 3, 1) := by decide +kernel
theorem d_Ta_isBelow_21 : decode prog_4_method_11_code 21 = .ok (.iadd, 1) := by decide +kernel
theorem d_Ta_isBelow_22 : decode prog_4_method_11_code 22 = .ok (.laload, 1) := by decide +kernel
theorem d_Ta_isBelow_23 : decode prog_4_method_11_code 23 = .ok (.lstore 4, 2) := by decide +kernel
theorem d_Ta_isBelow_25 : decode prog_4_method_11_code 25 = .ok (.aload_n 2, 1) := by decide +kernel
theorem d_Ta_isBelow_26 : decode prog_4_method_11_code 26 = .ok (.getfield 57, 3) := by decide +kernel
theorem d_Ta_isBelow_29 : decode prog_4_method_11_code 29 = .ok (.iload_n 3, 1) := by decide +kernel
theorem d_Ta_isBelow_30 : decode prog_4_method_11_code 30 = .ok (.laload, 1) := by decide +kernel
theorem d_Ta_isBelow_31 : decode prog_4_method_11_code 31 = .ok (.lstore 6, 2) := by decide +kernel
theorem d_Ta_isBelow_33 : decode prog_4_method_11_code 33 = .ok (.lload 4, 2) := by decide +kernel
theorem d_Ta_isBelow_35 : decode prog_4_method_11_code 35 = .ok (.lload 6, 2) := by decide +kernel
theorem d_Ta_isBelow_37 : decode prog_4_method_11_code 37 = .ok (.lcmp, 1) := by decide +kernel
theorem d_Ta_isBelow_38 : decode prog_4_method_11_code 38 = .ok (.ifCond .eq 25, 3) := by decide +kernel
theorem d_Ta_isBelow_41 : decode prog_4_method_11_code 41 = .ok (.lload 4, 2) := by decide +kernel
theorem d_Ta_isBelow_43 : decode prog_4_method_11_code 43 = .ok (.ldc2_w 66, 3) := by decide +kernel
theorem d_Ta_isBelow_46 : decode prog_4_method_11_code 46 = .ok (.lxor, 1) := by decide +kernel
theorem d_Ta_isBelow_47 : decode prog_4_method_11_code 47 = .ok (.lload 6, 2) := by decide +kernel
theorem d_Ta_isBelow_49 : decode prog_4_method_11_code 49 = .ok (.ldc2_w 66, 3) := by decide +kernel
theorem d_Ta_isBelow_52 : decode prog_4_method_11_code 52 = .ok (.lxor, 1) := by decide +kernel
theorem d_Ta_isBelow_53 : decode prog_4_method_11_code 53 = .ok (.lcmp, 1) := by decide +kernel
theorem d_Ta_isBelow_54 : decode prog_4_method_11_code 54 = .ok (.ifCond .ge 7, 3) := by decide +kernel
theorem d_Ta_isBelow_57 : decode prog_4_method_11_code 57 = .ok (.iconst 1, 1) := by decide +kernel
theorem d_Ta_isBelow_58 : decode prog_4_method_11_code 58 = .ok (.goto 4, 3) := by decide +kernel
theorem d_Ta_isBelow_61 : decode prog_4_method_11_code 61 = .ok (.iconst 0, 1) := by decide +kernel
theorem d_Ta_isBelow_62 : decode prog_4_method_11_code 62 = .ok (.ireturn, 1) := by decide +kernel
theorem d_Ta_isBelow_63 : decode prog_4_method_11_code 63 = .ok (.iinc 3 1, 3) := by decide +kernel
theorem d_Ta_isBelow_66 : decode prog_4_method_11_code 66 = .ok (.goto (-64), 3) := by decide +kernel
theorem d_Ta_isBelow_69 : decode prog_4_method_11_code 69 = .ok (.iconst 0, 1) := by decide +kernel
theorem d_Ta_isBelow_70 : decode prog_4_method_11_code 70 = .ok (.ireturn, 1) := by decide +kernel
theorem d_Ta_holds_0 : decode prog_4_method_4_code 0 = .ok (.iload_n 1, 1) := by decide +kernel
theorem d_Ta_holds_1 : decode prog_4_method_4_code 1 = .ok (.aload_n 0, 1) := by decide +kernel
theorem d_Ta_holds_2 : decode prog_4_method_4_code 2 = .ok (.getfield 22, 3) := by decide +kernel
theorem d_Ta_holds_5 : decode prog_4_method_4_code 5 = .ok (.if_icmp .ge 20, 3) := by decide +kernel
theorem d_Ta_holds_8 : decode prog_4_method_4_code 8 = .ok (.aload_n 0, 1) := by decide +kernel
theorem d_Ta_holds_9 : decode prog_4_method_4_code 9 = .ok (.iload_n 1, 1) := by decide +kernel
theorem d_Ta_holds_10 : decode prog_4_method_4_code 10 = .ok (.aload_n 2, 1) := by decide +kernel
theorem d_Ta_holds_11 : decode prog_4_method_4_code 11 = .ok (.invokevirtual 40, 3) := by decide +kernel
theorem d_Ta_holds_14 : decode prog_4_method_4_code 14 = .ok (.aload_n 0, 1) := by decide +kernel
theorem d_Ta_holds_15 : decode prog_4_method_4_code 15 = .ok (.invokevirtual 44, 3) := by decide +kernel
theorem d_Ta_holds_18 : decode prog_4_method_4_code 18 = .ok (.if_icmp .ne 7, 3) := by decide +kernel
theorem d_Ta_holds_21 : decode prog_4_method_4_code 21 = .ok (.iconst 1, 1) := by decide +kernel
theorem d_Ta_holds_22 : decode prog_4_method_4_code 22 = .ok (.goto 4, 3) := by decide +kernel
theorem d_Ta_holds_25 : decode prog_4_method_4_code 25 = .ok (.iconst 0, 1) := by decide +kernel
theorem d_Ta_holds_26 : decode prog_4_method_4_code 26 = .ok (.ireturn, 1) := by decide +kernel
theorem d_Ta_sharedWithKey_0 : decode prog_4_method_10_code 0 = .ok (.aload_n 0, 1) := by decide +kernel
theorem d_Ta_sharedWithKey_1 : decode prog_4_method_10_code 1 = .ok (.iload_n 1, 1) := by decide +kernel
theorem d_Ta_sharedWithKey_2 : decode prog_4_method_10_code 2 = .ok (.aload_n 2, 1) := by decide +kernel
theorem d_Ta_sharedWithKey_3 : decode prog_4_method_10_code 3 = .ok (.getfield 57, 3) := by decide +kernel
theorem d_Ta_sharedWithKey_6 : decode prog_4_method_10_code 6 = .ok (.iconst 0, 1) := by decide +kernel
theorem d_Ta_sharedWithKey_7 : decode prog_4_method_10_code 7 = .ok (.invokevirtual 62, 3) := by decide +kernel
theorem d_Ta_sharedWithKey_10 : decode prog_4_method_10_code 10 = .ok (.ireturn, 1) := by decide +kernel
theorem d_Ta_sharedBytes_0 : decode prog_4_method_12_code 0 = .ok (.iconst 0, 1) := by decide +kernel
theorem d_Ta_sharedBytes_1 : decode prog_4_method_12_code 1 = .ok (.istore 4, 2) := by decide +kernel
theorem d_Ta_sharedBytes_3 : decode prog_4_method_12_code 3 = .ok (.iload 4, 2) := by decide +kernel
theorem d_Ta_sharedBytes_5 : decode prog_4_method_12_code 5 = .ok (.aload_n 0, 1) := by decide +kernel
theorem d_Ta_sharedBytes_6 : decode prog_4_method_12_code 6 = .ok (.getfield 9, 3) := by decide +kernel
theorem d_Ta_sharedBytes_9 : decode prog_4_method_12_code 9 = .ok (.if_icmp .ge 51, 3) := by decide +kernel
theorem d_Ta_sharedBytes_12 : decode prog_4_method_12_code 12 = .ok (.aload_n 0, 1) := by decide +kernel
theorem d_Ta_sharedBytes_13 : decode prog_4_method_12_code 13 = .ok (.getfield 15, 3) := by decide +kernel
theorem d_Ta_sharedBytes_16 : decode prog_4_method_12_code 16 = .ok (.iload_n 1, 1) := by decide +kernel
theorem d_Ta_sharedBytes_17 : decode prog_4_method_12_code 17 = .ok (.aload_n 0, 1) := by decide +kernel
theorem d_Ta_sharedBytes_18 : decode prog_4_method_12_code 18 = .ok (.getfield 9, 3) := by decide +kernel
theorem d_Ta_sharedBytes_21 : decode prog_4_method_12_code 21 = .ok (.imul, 1) := by decide +kernel
theorem d_Ta_sharedBytes_22 : decode prog_4_method_12_code 22 = .ok (.iload 4, 2) := by decide +kernel
theorem d_Ta_sharedBytes_24 : decode prog_4_method_12_code 24 = .ok (.iadd, 1) := by decide +kernel
theorem d_Ta_sharedBytes_25 : decode prog_4_method_12_code 25 = .ok (.laload, 1) := by decide +kernel
theorem d_Ta_sharedBytes_26 : decode prog_4_method_12_code 26 = .ok (.aload_n 2, 1) := by decide +kernel
theorem d_Ta_sharedBytes_27 : decode prog_4_method_12_code 27 = .ok (.iload_n 3, 1) := by decide +kernel
theorem d_Ta_sharedBytes_28 : decode prog_4_method_12_code 28 = .ok (.iload 4, 2) := by decide +kernel
theorem d_Ta_sharedBytes_30 : decode prog_4_method_12_code 30 = .ok (.iadd, 1) := by decide +kernel
theorem d_Ta_sharedBytes_31 : decode prog_4_method_12_code 31 = .ok (.laload, 1) := by decide +kernel
theorem d_Ta_sharedBytes_32 : decode prog_4_method_12_code 32 = .ok (.lxor, 1) := by decide +kernel
theorem d_Ta_sharedBytes_33 : decode prog_4_method_12_code 33 = .ok (.lstore 5, 2) := by decide +kernel
theorem d_Ta_sharedBytes_35 : decode prog_4_method_12_code 35 = .ok (.lload 5, 2) := by decide +kernel
theorem d_Ta_sharedBytes_37 : decode prog_4_method_12_code 37 = .ok (.lconst 0, 1) := by decide +kernel
theorem d_Ta_sharedBytes_38 : decode prog_4_method_12_code 38 = .ok (.lcmp, 1) := by decide +kernel
theorem d_Ta_sharedBytes_39 : decode prog_4_method_12_code 39 = .ok (.ifCond .eq 15, 3) := by decide +kernel
theorem d_Ta_sharedBytes_42 : decode prog_4_method_12_code 42 = .ok (.bipush 8, 2) := by decide +kernel
theorem d_Ta_sharedBytes_44 : decode prog_4_method_12_code 44 = .ok (.iload 4, 2) := by decide +kernel
theorem d_Ta_sharedBytes_46 : decode prog_4_method_12_code 46 = .ok (.imul, 1) := by decide +kernel
theorem d_Ta_sharedBytes_47 : decode prog_4_method_12_code 47 = .ok (.lload 5, 2) := by decide +kernel
theorem d_Ta_sharedBytes_49 : decode prog_4_method_12_code 49 = .ok (.invokestatic 68, 3) := by decide +kernel
theorem d_Ta_sharedBytes_52 : decode prog_4_method_12_code 52 = .ok (.iadd, 1) := by decide +kernel
theorem d_Ta_sharedBytes_53 : decode prog_4_method_12_code 53 = .ok (.ireturn, 1) := by decide +kernel
theorem d_Ta_sharedBytes_54 : decode prog_4_method_12_code 54 = .ok (.iinc 4 1, 3) := by decide +kernel
theorem d_Ta_sharedBytes_57 : decode prog_4_method_12_code 57 = .ok (.goto (-54), 3) := by decide +kernel
theorem d_Ta_sharedBytes_60 : decode prog_4_method_12_code 60 = .ok (.aload_n 0, 1) := by decide +kernel
theorem d_Ta_sharedBytes_61 : decode prog_4_method_12_code 61 = .ok (.invokevirtual 44, 3) := by decide +kernel
theorem d_Ta_sharedBytes_64 : decode prog_4_method_12_code 64 = .ok (.ireturn, 1) := by decide +kernel
theorem d_Ta_zeroBytesBefore_0 : decode prog_4_method_13_code 0 = .ok (.iconst 0, 1) := by decide +kernel
theorem d_Ta_zeroBytesBefore_1 : decode prog_4_method_13_code 1 = .ok (.istore_n 2, 1) := by decide +kernel
theorem d_Ta_zeroBytesBefore_2 : decode prog_4_method_13_code 2 = .ok (.bipush 56, 2) := by decide +kernel
theorem d_Ta_zeroBytesBefore_4 : decode prog_4_method_13_code 4 = .ok (.istore_n 3, 1) := by decide +kernel
theorem d_Ta_zeroBytesBefore_5 : decode prog_4_method_13_code 5 = .ok (.iload_n 3, 1) := by decide +kernel
theorem d_Ta_zeroBytesBefore_6 : decode prog_4_method_13_code 6 = .ok (.ifCond .le 20, 3) := by decide +kernel
theorem d_Ta_zeroBytesBefore_9 : decode prog_4_method_13_code 9 = .ok (.lload_n 0, 1) := by decide +kernel
theorem d_Ta_zeroBytesBefore_10 : decode prog_4_method_13_code 10 = .ok (.iload_n 3, 1) := by decide +kernel
theorem d_Ta_zeroBytesBefore_11 : decode prog_4_method_13_code 11 = .ok (.lushr, 1) := by decide +kernel
theorem d_Ta_zeroBytesBefore_12 : decode prog_4_method_13_code 12 = .ok (.lconst 0, 1) := by decide +kernel
theorem d_Ta_zeroBytesBefore_13 : decode prog_4_method_13_code 13 = .ok (.lcmp, 1) := by decide +kernel
theorem d_Ta_zeroBytesBefore_14 : decode prog_4_method_13_code 14 = .ok (.ifCond .ne 12, 3) := by decide +kernel
theorem d_Ta_zeroBytesBefore_17 : decode prog_4_method_13_code 17 = .ok (.iinc 2 1, 3) := by decide +kernel
theorem d_Ta_zeroBytesBefore_20 : decode prog_4_method_13_code 20 = .ok (.iinc 3 (-8), 3) := by decide +kernel
theorem d_Ta_zeroBytesBefore_23 : decode prog_4_method_13_code 23 = .ok (.goto (-18), 3) := by decide +kernel
theorem d_Ta_zeroBytesBefore_26 : decode prog_4_method_13_code 26 = .ok (.iload_n 2, 1) := by decide +kernel
theorem d_Ta_zeroBytesBefore_27 : decode prog_4_method_13_code 27 = .ok (.ireturn, 1) := by decide +kernel
theorem d_St_rank_0 : decode prog_1_method_17_code 0 = .ok (.aload_n 0, 1) := by decide +kernel
theorem d_St_rank_1 : decode prog_1_method_17_code 1 = .ok (.getfield 44, 3) := by decide +kernel
theorem d_St_rank_4 : decode prog_1_method_17_code 4 = .ok (.aload_n 0, 1) := by decide +kernel
theorem d_St_rank_5 : decode prog_1_method_17_code 5 = .ok (.getfield 24, 3) := by decide +kernel
theorem d_St_rank_8 : decode prog_1_method_17_code 8 = .ok (.invokevirtual 106, 3) := by decide +kernel
theorem d_St_rank_11 : decode prog_1_method_17_code 11 = .ok (.ireturn, 1) := by decide +kernel
theorem d_St_range_0 : decode prog_1_method_19_code 0 = .ok (.iconst 0, 1) := by decide +kernel
theorem d_St_range_1 : decode prog_1_method_19_code 1 = .ok (.aload_n 0, 1) := by decide +kernel
theorem d_St_range_2 : decode prog_1_method_19_code 2 = .ok (.getfield 44, 3) := by decide +kernel
theorem d_St_range_5 : decode prog_1_method_19_code 5 = .ok (.aload_n 0, 1) := by decide +kernel
theorem d_St_range_6 : decode prog_1_method_19_code 6 = .ok (.getfield 24, 3) := by decide +kernel
theorem d_St_range_9 : decode prog_1_method_19_code 9 = .ok (.invokevirtual 132, 3) := by decide +kernel
theorem d_St_range_12 : decode prog_1_method_19_code 12 = .ok (.aload_n 0, 1) := by decide +kernel
theorem d_St_range_13 : decode prog_1_method_19_code 13 = .ok (.getfield 44, 3) := by decide +kernel
theorem d_St_range_16 : decode prog_1_method_19_code 16 = .ok (.aload_n 0, 1) := by decide +kernel
theorem d_St_range_17 : decode prog_1_method_19_code 17 = .ok (.getfield 28, 3) := by decide +kernel
theorem d_St_range_20 : decode prog_1_method_19_code 20 = .ok (.invokevirtual 106, 3) := by decide +kernel
theorem d_St_range_23 : decode prog_1_method_19_code 23 = .ok (.isub, 1) := by decide +kernel
theorem d_St_range_24 : decode prog_1_method_19_code 24 = .ok (.invokestatic 154, 3) := by decide +kernel
theorem d_St_range_27 : decode prog_1_method_19_code 27 = .ok (.ireturn, 1) := by decide +kernel
theorem d_Ta_countUpTo_0 : decode prog_4_method_3_code 0 = .ok (.aload_n 0, 1) := by decide +kernel
theorem d_Ta_countUpTo_1 : decode prog_4_method_3_code 1 = .ok (.aload_n 1, 1) := by decide +kernel
theorem d_Ta_countUpTo_2 : decode prog_4_method_3_code 2 = .ok (.invokevirtual 33, 3) := by decide +kernel
theorem d_Ta_countUpTo_5 : decode prog_4_method_3_code 5 = .ok (.istore_n 2, 1) := by decide +kernel
theorem d_Ta_countUpTo_6 : decode prog_4_method_3_code 6 = .ok (.aload_n 0, 1) := by decide +kernel
theorem d_Ta_countUpTo_7 : decode prog_4_method_3_code 7 = .ok (.iload_n 2, 1) := by decide +kernel
theorem d_Ta_countUpTo_8 : decode prog_4_method_3_code 8 = .ok (.aload_n 1, 1) := by decide +kernel
theorem d_Ta_countUpTo_9 : decode prog_4_method_3_code 9 = .ok (.invokevirtual 37, 3) := by decide +kernel
theorem d_Ta_countUpTo_12 : decode prog_4_method_3_code 12 = .ok (.ifCond .eq 9, 3) := by decide +kernel
theorem d_Ta_countUpTo_15 : decode prog_4_method_3_code 15 = .ok (.iload_n 2, 1) := by decide +kernel
theorem d_Ta_countUpTo_16 : decode prog_4_method_3_code 16 = .ok (.iconst 1, 1) := by decide +kernel
theorem d_Ta_countUpTo_17 : decode prog_4_method_3_code 17 = .ok (.iadd, 1) := by decide +kernel
theorem d_Ta_countUpTo_18 : decode prog_4_method_3_code 18 = .ok (.goto 4, 3) := by decide +kernel
theorem d_Ta_countUpTo_21 : decode prog_4_method_3_code 21 = .ok (.iload_n 2, 1) := by decide +kernel
theorem d_Ta_countUpTo_22 : decode prog_4_method_3_code 22 = .ok (.ireturn, 1) := by decide +kernel
theorem d_Ma_max_0 : decode prog_13_method_65_code 0 = .ok (.iload_n 0, 1) := by decide +kernel
theorem d_Ma_max_1 : decode prog_13_method_65_code 1 = .ok (.iload_n 1, 1) := by decide +kernel
theorem d_Ma_max_2 : decode prog_13_method_65_code 2 = .ok (.if_icmp .lt 7, 3) := by decide +kernel
theorem d_Ma_max_5 : decode prog_13_method_65_code 5 = .ok (.iload_n 0, 1) := by decide +kernel
theorem d_Ma_max_6 : decode prog_13_method_65_code 6 = .ok (.goto 4, 3) := by decide +kernel
theorem d_Ma_max_9 : decode prog_13_method_65_code 9 = .ok (.iload_n 1, 1) := by decide +kernel
theorem d_Ma_max_10 : decode prog_13_method_65_code 10 = .ok (.ireturn, 1) := by decide +kernel
theorem d_St_cut_0 : decode prog_1_method_20_code 0 = .ok (.aload_n 0, 1) := by decide +kernel
theorem d_St_cut_1 : decode prog_1_method_20_code 1 = .ok (.getfield 44, 3) := by decide +kernel
theorem d_St_cut_4 : decode prog_1_method_20_code 4 = .ok (.aload_n 0, 1) := by decide +kernel
theorem d_St_cut_5 : decode prog_1_method_20_code 5 = .ok (.getfield 28, 3) := by decide +kernel
theorem d_St_cut_8 : decode prog_1_method_20_code 8 = .ok (.invokevirtual 106, 3) := by decide +kernel
theorem d_St_cut_11 : decode prog_1_method_20_code 11 = .ok (.istore_n 1, 1) := by decide +kernel
theorem d_St_cut_12 : decode prog_1_method_20_code 12 = .ok (.aload_n 0, 1) := by decide +kernel
theorem d_St_cut_13 : decode prog_1_method_20_code 13 = .ok (.getfield 44, 3) := by decide +kernel
theorem d_St_cut_16 : decode prog_1_method_20_code 16 = .ok (.aload_n 0, 1) := by decide +kernel
theorem d_St_cut_17 : decode prog_1_method_20_code 17 = .ok (.getfield 24, 3) := by decide +kernel
theorem d_St_cut_20 : decode prog_1_method_20_code 20 = .ok (.invokevirtual 132, 3) := by decide +kernel
theorem d_St_cut_23 : decode prog_1_method_20_code 23 = .ok (.istore_n 2, 1) := by decide +kernel
theorem d_St_cut_24 : decode prog_1_method_20_code 24 = .ok (.iload_n 2, 1) := by decide +kernel
theorem d_St_cut_25 : decode prog_1_method_20_code 25 = .ok (.iload_n 1, 1) := by decide +kernel
theorem d_St_cut_26 : decode prog_1_method_20_code 26 = .ok (.if_icmp .gt 5, 3) := by decide +kernel
theorem d_St_cut_29 : decode prog_1_method_20_code 29 = .ok (.iconst 0, 1) := by decide +kernel
theorem d_St_cut_30 : decode prog_1_method_20_code 30 = .ok (.ireturn, 1) := by decide +kernel
theorem d_St_cut_31 : decode prog_1_method_20_code 31 = .ok (.aload_n 0, 1) := by decide +kernel
theorem d_St_cut_32 : decode prog_1_method_20_code 32 = .ok (.getfield 44, 3) := by decide +kernel
theorem d_St_cut_35 : decode prog_1_method_20_code 35 = .ok (.iload_n 1, 1) := by decide +kernel
theorem d_St_cut_36 : decode prog_1_method_20_code 36 = .ok (.iload_n 2, 1) := by decide +kernel
theorem d_St_cut_37 : decode prog_1_method_20_code 37 = .ok (.invokevirtual 128, 3) := by decide +kernel
theorem d_St_cut_40 : decode prog_1_method_20_code 40 = .ok (.iload_n 2, 1) := by decide +kernel
theorem d_St_cut_41 : decode prog_1_method_20_code 41 = .ok (.iload_n 1, 1) := by decide +kernel
theorem d_St_cut_42 : decode prog_1_method_20_code 42 = .ok (.isub, 1) := by decide +kernel
theorem d_St_cut_43 : decode prog_1_method_20_code 43 = .ok (.ireturn, 1) := by decide +kernel
theorem d_Ta_cutOut_0 : decode prog_4_method_6_code 0 = .ok (.aload_n 0, 1) := by decide +kernel
theorem d_Ta_cutOut_1 : decode prog_4_method_6_code 1 = .ok (.getfield 22, 3) := by decide +kernel
theorem d_Ta_cutOut_4 : decode prog_4_method_6_code 4 = .ok (.iload_n 2, 1) := by decide +kernel
theorem d_Ta_cutOut_5 : decode prog_4_method_6_code 5 = .ok (.isub, 1) := by decide +kernel
theorem d_Ta_cutOut_6 : decode prog_4_method_6_code 6 = .ok (.istore_n 3, 1) := by decide +kernel
theorem d_Ta_cutOut_7 : decode prog_4_method_6_code 7 = .ok (.aload_n 0, 1) := by decide +kernel
theorem d_Ta_cutOut_8 : decode prog_4_method_6_code 8 = .ok (.getfield 15, 3) := by decide +kernel
theorem d_Ta_cutOut_11 : decode prog_4_method_6_code 11 = .ok (.iload_n 2, 1) := by decide +kernel
theorem d_Ta_cutOut_12 : decode prog_4_method_6_code 12 = .ok (.aload_n 0, 1) := by decide +kernel
theorem d_Ta_cutOut_13 : decode prog_4_method_6_code 13 = .ok (.getfield 9, 3) := by decide +kernel
theorem d_Ta_cutOut_16 : decode prog_4_method_6_code 16 = .ok (.imul, 1) := by decide +kernel
theorem d_Ta_cutOut_17 : decode prog_4_method_6_code 17 = .ok (.aload_n 0, 1) := by decide +kernel
theorem d_Ta_cutOut_18 : decode prog_4_method_6_code 18 = .ok (.getfield 15, 3) := by decide +kernel
theorem d_Ta_cutOut_21 : decode prog_4_method_6_code 21 = .ok (.iload_n 1, 1) := by decide +kernel
theorem d_Ta_cutOut_22 : decode prog_4_method_6_code 22 = .ok (.aload_n 0, 1) := by decide +kernel
theorem d_Ta_cutOut_23 : decode prog_4_method_6_code 23 = .ok (.getfield 9, 3) := by decide +kernel
theorem d_Ta_cutOut_26 : decode prog_4_method_6_code 26 = .ok (.imul, 1) := by decide +kernel
theorem d_Ta_cutOut_27 : decode prog_4_method_6_code 27 = .ok (.iload_n 3, 1) := by decide +kernel
theorem d_Ta_cutOut_28 : decode prog_4_method_6_code 28 = .ok (.aload_n 0, 1) := by decide +kernel
theorem d_Ta_cutOut_29 : decode prog_4_method_6_code 29 = .ok (.getfield 9, 3) := by decide +kernel
theorem d_Ta_cutOut_32 : decode prog_4_method_6_code 32 = .ok (.imul, 1) := by decide +kernel
theorem d_Ta_cutOut_33 : decode prog_4_method_6_code 33 = .ok (.invokestatic 51, 3) := by decide +kernel
theorem d_Ta_cutOut_36 : decode prog_4_method_6_code 36 = .ok (.aload_n 0, 1) := by decide +kernel
theorem d_Ta_cutOut_37 : decode prog_4_method_6_code 37 = .ok (.getfield 19, 3) := by decide +kernel
theorem d_Ta_cutOut_40 : decode prog_4_method_6_code 40 = .ok (.iload_n 2, 1) := by decide +kernel
theorem d_Ta_cutOut_41 : decode prog_4_method_6_code 41 = .ok (.aload_n 0, 1) := by decide +kernel
theorem d_Ta_cutOut_42 : decode prog_4_method_6_code 42 = .ok (.getfield 19, 3) := by decide +kernel
theorem d_Ta_cutOut_45 : decode prog_4_method_6_code 45 = .ok (.iload_n 1, 1) := by decide +kernel
theorem d_Ta_cutOut_46 : decode prog_4_method_6_code 46 = .ok (.iload_n 3, 1) := by decide +kernel
theorem d_Ta_cutOut_47 : decode prog_4_method_6_code 47 = .ok (.invokestatic 51, 3) := by decide +kernel
theorem d_Ta_cutOut_50 : decode prog_4_method_6_code 50 = .ok (.aload_n 0, 1) := by decide +kernel
theorem d_Ta_cutOut_51 : decode prog_4_method_6_code 51 = .ok (.dup, 1) := by decide +kernel
theorem d_Ta_cutOut_52 : decode prog_4_method_6_code 52 = .ok (.getfield 22, 3) := by decide +kernel
theorem d_Ta_cutOut_55 : decode prog_4_method_6_code 55 = .ok (.iload_n 2, 1) := by decide +kernel
theorem d_Ta_cutOut_56 : decode prog_4_method_6_code 56 = .ok (.iload_n 1, 1) := by decide +kernel
theorem d_Ta_cutOut_57 : decode prog_4_method_6_code 57 = .ok (.isub, 1) := by decide +kernel
theorem d_Ta_cutOut_58 : decode prog_4_method_6_code 58 = .ok (.isub, 1) := by decide +kernel
theorem d_Ta_cutOut_59 : decode prog_4_method_6_code 59 = .ok (.putfield 22, 3) := by decide +kernel
theorem d_Ta_cutOut_62 : decode prog_4_method_6_code 62 = .ok (.aload_n 0, 1) := by decide +kernel
theorem d_Ta_cutOut_63 : decode prog_4_method_6_code 63 = .ok (.iconst 1, 1) := by decide +kernel
theorem d_Ta_cutOut_64 : decode prog_4_method_6_code 64 = .ok (.putfield 25, 3) := by decide +kernel
theorem d_Ta_cutOut_67 : decode prog_4_method_6_code 67 = .ok (.return_, 1) := by decide +kernel
theorem d_St_compact_0 : decode prog_1_method_23_code 0 = .ok (.aload_n 0, 1) := by decide +kernel
theorem d_St_compact_1 : decode prog_1_method_23_code 1 = .ok (.getfield 55, 3) := by decide +kernel
theorem d_St_compact_4 : decode prog_1_method_23_code 4 = .ok (.aload_n 0, 1) := by decide +kernel
theorem d_St_compact_5 : decode prog_1_method_23_code 5 = .ok (.getfield 44, 3) := by decide +kernel
theorem d_St_compact_8 : decode prog_1_method_23_code 8 = .ok (.invokevirtual 174, 3) := by decide +kernel
theorem d_St_compact_11 : decode prog_1_method_23_code 11 = .ok (.iconst 0, 1) := by decide +kernel
theorem d_St_compact_12 : decode prog_1_method_23_code 12 = .ok (.istore_n 1, 1) := by decide +kernel
theorem d_St_compact_13 : decode prog_1_method_23_code 13 = .ok (.iconst 0, 1) := by decide +kernel
theorem d_St_compact_14 : decode prog_1_method_23_code 14 = .ok (.istore_n 2, 1) := by decide +kernel
theorem d_St_compact_15 : decode prog_1_method_23_code 15 = .ok (.iload_n 2, 1) := by decide +kernel
theorem d_St_compact_16 : decode prog_1_method_23_code 16 = .ok (.getstatic 178, 3) := by decide +kernel
theorem d_St_compact_19 : decode prog_1_method_23_code 19 = .ok (.arraylength, 1) := by decide +kernel
theorem d_St_compact_20 : decode prog_1_method_23_code 20 = .ok (.if_icmp .ge 27, 3) := by decide +kernel
theorem d_St_compact_23 : decode prog_1_method_23_code 23 = .ok (.iload_n 1, 1) := by decide +kernel
theorem d_St_compact_24 : decode prog_1_method_23_code 24 = .ok (.aload_n 0, 1) := by decide +kernel
theorem d_St_compact_25 : decode prog_1_method_23_code 25 = .ok (.getfield 55, 3) := by decide +kernel
theorem d_St_compact_28 : decode prog_1_method_23_code 28 = .ok (.getfield 182, 3) := by decide +kernel
theorem d_St_compact_31 : decode prog_1_method_23_code 31 = .ok (.iload_n 2, 1) := by decide +kernel
theorem d_St_compact_32 : decode prog_1_method_23_code 32 = .ok (.iaload, 1) := by decide +kernel
theorem d_St_compact_33 : decode prog_1_method_23_code 33 = .ok (.getstatic 178, 3) := by decide +kernel
theorem d_St_compact_36 : decode prog_1_method_23_code 36 = .ok (.iload_n 2, 1) := by decide +kernel
theorem d_St_compact_37 : decode prog_1_method_23_code 37 = .ok (.iaload, 1) := by decide +kernel
theorem d_St_compact_38 : decode prog_1_method_23_code 38 = .ok (.imul, 1) := by decide +kernel
theorem d_St_compact_39 : decode prog_1_method_23_code 39 = .ok (.iadd, 1) := by decide +kernel
theorem d_St_compact_40 : decode prog_1_method_23_code 40 = .ok (.istore_n 1, 1) := by decide +kernel
theorem d_St_compact_41 : decode prog_1_method_23_code 41 = .ok (.iinc 2 1, 3) := by decide +kernel
theorem d_St_compact_44 : decode prog_1_method_23_code 44 = .ok (.goto (-29), 3) := by decide +kernel
theorem d_St_compact_47 : decode prog_1_method_23_code 47 = .ok (.iconst 0, 1) := by decide +kernel
theorem d_St_compact_48 : decode prog_1_method_23_code 48 = .ok (.istore_n 2, 1) := by decide +kernel
theorem d_St_compact_49 : decode prog_1_method_23_code 49 = .ok (.iload_n 2, 1) := by decide +kernel
theorem d_St_compact_50 : decode prog_1_method_23_code 50 = .ok (.aload_n 0, 1) := by decide +kernel
theorem d_St_compact_51 : decode prog_1_method_23_code 51 = .ok (.getfield 44, 3) := by decide +kernel
theorem d_St_compact_54 : decode prog_1_method_23_code 54 = .ok (.getfield 117, 3) := by decide +kernel
theorem d_St_compact_57 : decode prog_1_method_23_code 57 = .ok (.if_icmp .ge 39, 3) := by decide +kernel
theorem d_St_compact_60 : decode prog_1_method_23_code 60 = .ok (.aload_n 0, 1) := by decide +kernel
theorem d_St_compact_61 : decode prog_1_method_23_code 61 = .ok (.getfield 44, 3) := by decide +kernel
theorem d_St_compact_64 : decode prog_1_method_23_code 64 = .ok (.iload_n 2, 1) := by decide +kernel
theorem d_St_compact_65 : decode prog_1_method_23_code 65 = .ok (.aload_n 0, 1) := by decide +kernel
theorem d_St_compact_66 : decode prog_1_method_23_code 66 = .ok (.getfield 34, 3) := by decide +kernel
theorem d_St_compact_69 : decode prog_1_method_23_code 69 = .ok (.invokevirtual 185, 3) := by decide +kernel
theorem d_St_compact_72 : decode prog_1_method_23_code 72 = .ok (.iload_n 1, 1) := by decide +kernel
theorem d_St_compact_73 : decode prog_1_method_23_code 73 = .ok (.iconst 4, 1) := by decide +kernel
theorem d_St_compact_74 : decode prog_1_method_23_code 74 = .ok (.aload_n 0, 1) := by decide +kernel
theorem d_St_compact_75 : decode prog_1_method_23_code 75 = .ok (.getfield 34, 3) := by decide +kernel
theorem d_St_compact_78 : decode prog_1_method_23_code 78 = .ok (.invokevirtual 189, 3) := by decide +kernel
theorem d_St_compact_81 : decode prog_1_method_23_code 81 = .ok (.iconst 4, 1) := by decide +kernel
theorem d_St_compact_82 : decode prog_1_method_23_code 82 = .ok (.iadd, 1) := by decide +kernel
theorem d_St_compact_83 : decode prog_1_method_23_code 83 = .ok (.iconst 1, 1) := by decide +kernel
theorem d_St_compact_84 : decode prog_1_method_23_code 84 = .ok (.isub, 1) := by decide +kernel
theorem d_St_compact_85 : decode prog_1_method_23_code 85 = .ok (.iconst 4, 1) := by decide +kernel
theorem d_St_compact_86 : decode prog_1_method_23_code 86 = .ok (.idiv, 1) := by decide +kernel
theorem d_St_compact_87 : decode prog_1_method_23_code 87 = .ok (.iadd, 1) := by decide +kernel
theorem d_St_compact_88 : decode prog_1_method_23_code 88 = .ok (.iadd, 1) := by decide +kernel
theorem d_St_compact_89 : decode prog_1_method_23_code 89 = .ok (.istore_n 1, 1) := by decide +kernel
theorem d_St_compact_90 : decode prog_1_method_23_code 90 = .ok (.iinc 2 1, 3) := by decide +kernel
theorem d_St_compact_93 : decode prog_1_method_23_code 93 = .ok (.goto (-44), 3) := by decide +kernel
theorem d_St_compact_96 : decode prog_1_method_23_code 96 = .ok (.iload_n 1, 1) := by decide +kernel
theorem d_St_compact_97 : decode prog_1_method_23_code 97 = .ok (.ireturn, 1) := by decide +kernel
theorem d_Sh_measure_0 : decode prog_3_method_2_code 0 = .ok (.aload_n 1, 1) := by decide +kernel
theorem d_Sh_measure_1 : decode prog_3_method_2_code 1 = .ok (.getfield 37, 3) := by decide +kernel
theorem d_Sh_measure_4 : decode prog_3_method_2_code 4 = .ok (.ifCond .ne 4, 3) := by decide +kernel
theorem d_Sh_measure_7 : decode prog_3_method_2_code 7 = .ok (.return_, 1) := by decide +kernel
theorem d_Sh_measure_8 : decode prog_3_method_2_code 8 = .ok (.aload_n 0, 1) := by decide +kernel
theorem d_Sh_measure_9 : decode prog_3_method_2_code 9 = .ok (.getfield 13, 3) := by decide +kernel
theorem d_Sh_measure_12 : decode prog_3_method_2_code 12 = .ok (.iconst 0, 1) := by decide +kernel
theorem d_Sh_measure_13 : decode prog_3_method_2_code 13 = .ok (.invokestatic 43, 3) := by decide +kernel
theorem d_Sh_measure_16 : decode prog_3_method_2_code 16 = .ok (.aload_n 0, 1) := by decide +kernel
theorem d_Sh_measure_17 : decode prog_3_method_2_code 17 = .ok (.iconst 0, 1) := by decide +kernel
theorem d_Sh_measure_18 : decode prog_3_method_2_code 18 = .ok (.putfield 22, 3) := by decide +kernel
theorem d_Sh_measure_21 : decode prog_3_method_2_code 21 = .ok (.iconst 1, 1) := by decide +kernel
theorem d_Sh_measure_22 : decode prog_3_method_2_code 22 = .ok (.istore_n 2, 1) := by decide +kernel
theorem d_Sh_measure_23 : decode prog_3_method_2_code 23 = .ok (.iload_n 2, 1) := by decide +kernel
theorem d_Sh_measure_24 : decode prog_3_method_2_code 24 = .ok (.aload_n 1, 1) := by decide +kernel
theorem d_Sh_measure_25 : decode prog_3_method_2_code 25 = .ok (.getfield 49, 3) := by decide +kernel
theorem d_Sh_measure_28 : decode prog_3_method_2_code 28 = .ok (.if_icmp .ge 25, 3) := by decide +kernel
theorem d_Sh_measure_31 : decode prog_3_method_2_code 31 = .ok (.aload_n 1, 1) := by decide +kernel
theorem d_Sh_measure_32 : decode prog_3_method_2_code 32 = .ok (.iload_n 2, 1) := by decide +kernel
theorem d_Sh_measure_33 : decode prog_3_method_2_code 33 = .ok (.invokevirtual 52, 3) := by decide +kernel
theorem d_Sh_measure_36 : decode prog_3_method_2_code 36 = .ok (.istore_n 3, 1) := by decide +kernel
theorem d_Sh_measure_37 : decode prog_3_method_2_code 37 = .ok (.aload_n 0, 1) := by decide +kernel
theorem d_Sh_measure_38 : decode prog_3_method_2_code 38 = .ok (.iload_n 3, 1) := by decide +kernel
theorem d_Sh_measure_39 : decode prog_3_method_2_code 39 = .ok (.aload_n 0, 1) := by decide +kernel
theorem d_Sh_measure_40 : decode prog_3_method_2_code 40 = .ok (.iload_n 3, 1) := by decide +kernel
theorem d_Sh_measure_41 : decode prog_3_method_2_code 41 = .ok (.invokevirtual 56, 3) := by decide +kernel
theorem d_Sh_measure_44 : decode prog_3_method_2_code 44 = .ok (.invokevirtual 59, 3) := by decide +kernel
theorem d_Sh_measure_47 : decode prog_3_method_2_code 47 = .ok (.iinc 2 1, 3) := by decide +kernel
theorem d_Sh_measure_50 : decode prog_3_method_2_code 50 = .ok (.goto (-27), 3) := by decide +kernel
theorem d_Sh_measure_53 : decode prog_3_method_2_code 53 = .ok (.aload_n 0, 1) := by decide +kernel
theorem d_Sh_measure_54 : decode prog_3_method_2_code 54 = .ok (.aload_n 0, 1) := by decide +kernel
theorem d_Sh_measure_55 : decode prog_3_method_2_code 55 = .ok (.iconst (-1), 1) := by decide +kernel
theorem d_Sh_measure_56 : decode prog_3_method_2_code 56 = .ok (.invokevirtual 56, 3) := by decide +kernel
theorem d_Sh_measure_59 : decode prog_3_method_2_code 59 = .ok (.putfield 18, 3) := by decide +kernel
theorem d_Sh_measure_62 : decode prog_3_method_2_code 62 = .ok (.aload_n 1, 1) := by decide +kernel
theorem d_Sh_measure_63 : decode prog_3_method_2_code 63 = .ok (.iconst 0, 1) := by decide +kernel
theorem d_Sh_measure_64 : decode prog_3_method_2_code 64 = .ok (.putfield 37, 3) := by decide +kernel
theorem d_Sh_measure_67 : decode prog_3_method_2_code 67 = .ok (.return_, 1) := by decide +kernel
theorem d_Ar_fillI_0 : decode prog_19_method_103_code 0 = .ok (.iconst 0, 1) := by decide +kernel
theorem d_Ar_fillI_1 : decode prog_19_method_103_code 1 = .ok (.istore_n 2, 1) := by decide +kernel
theorem d_Ar_fillI_2 : decode prog_19_method_103_code 2 = .ok (.aload_n 0, 1) := by decide +kernel
theorem d_Ar_fillI_3 : decode prog_19_method_103_code 3 = .ok (.arraylength, 1) := by decide +kernel
theorem d_Ar_fillI_4 : decode prog_19_method_103_code 4 = .ok (.istore_n 3, 1) := by decide +kernel
theorem d_Ar_fillI_5 : decode prog_19_method_103_code 5 = .ok (.iload_n 2, 1) := by decide +kernel
theorem d_Ar_fillI_6 : decode prog_19_method_103_code 6 = .ok (.iload_n 3, 1) := by decide +kernel
theorem d_Ar_fillI_7 : decode prog_19_method_103_code 7 = .ok (.if_icmp .ge 13, 3) := by decide +kernel
theorem d_Ar_fillI_10 : decode prog_19_method_103_code 10 = .ok (.aload_n 0, 1) := by decide +kernel
theorem d_Ar_fillI_11 : decode prog_19_method_103_code 11 = .ok (.iload_n 2, 1) := by decide +kernel
theorem d_Ar_fillI_12 : decode prog_19_method_103_code 12 = .ok (.iload_n 1, 1) := by decide +kernel
theorem d_Ar_fillI_13 : decode prog_19_method_103_code 13 = .ok (.iastore, 1) := by decide +kernel
theorem d_Ar_fillI_14 : decode prog_19_method_103_code 14 = .ok (.iinc 2 1, 3) := by decide +kernel
theorem d_Ar_fillI_17 : decode prog_19_method_103_code 17 = .ok (.goto (-12), 3) := by decide +kernel
theorem d_Ar_fillI_20 : decode prog_19_method_103_code 20 = .ok (.return_, 1) := by decide +kernel
theorem d_Ta_sharedWithPrevious_0 : decode prog_4_method_9_code 0 = .ok (.aload_n 0, 1) := by decide +kernel
theorem d_Ta_sharedWithPrevious_1 : decode prog_4_method_9_code 1 = .ok (.iload_n 1, 1) := by decide +kernel
theorem d_Ta_sharedWithPrevious_2 : decode prog_4_method_9_code 2 = .ok (.aload_n 0, 1) := by decide +kernel
theorem d_Ta_sharedWithPrevious_3 : decode prog_4_method_9_code 3 = .ok (.getfield 15, 3) := by decide +kernel
theorem d_Ta_sharedWithPrevious_6 : decode prog_4_method_9_code 6 = .ok (.iload_n 1, 1) := by decide +kernel
theorem d_Ta_sharedWithPrevious_7 : decode prog_4_method_9_code 7 = .ok (.iconst 1, 1) := by decide +kernel
theorem d_Ta_sharedWithPrevious_8 : decode prog_4_method_9_code 8 = .ok (.isub, 1) := by decide +kernel
theorem d_Ta_sharedWithPrevious_9 : decode prog_4_method_9_code 9 = .ok (.aload_n 0, 1) := by decide +kernel
theorem d_Ta_sharedWithPrevious_10 : decode prog_4_method_9_code 10 = .ok (.getfield 9, 3) := by decide +kernel
theorem d_Ta_sharedWithPrevious_13 : decode prog_4_method_9_code 13 = .ok (.imul, 1) := by decide +kernel
theorem d_Ta_sharedWithPrevious_14 : decode prog_4_method_9_code 14 = .ok (.invokevirtual 62, 3) := by decide +kernel
theorem d_Ta_sharedWithPrevious_17 : decode prog_4_method_9_code 17 = .ok (.ireturn, 1) := by decide +kernel
theorem d_Sh_closeLongerThan_0 : decode prog_3_method_3_code 0 = .ok (.iconst 0, 1) := by decide +kernel
theorem d_Sh_closeLongerThan_1 : decode prog_3_method_3_code 1 = .ok (.istore_n 2, 1) := by decide +kernel
theorem d_Sh_closeLongerThan_2 : decode prog_3_method_3_code 2 = .ok (.aload_n 0, 1) := by decide +kernel
theorem d_Sh_closeLongerThan_3 : decode prog_3_method_3_code 3 = .ok (.getfield 34, 3) := by decide +kernel
theorem d_Sh_closeLongerThan_6 : decode prog_3_method_3_code 6 = .ok (.ifCond .le 93, 3) := by decide +kernel
theorem d_Sh_closeLongerThan_9 : decode prog_3_method_3_code 9 = .ok (.aload_n 0, 1) := by decide +kernel
theorem d_Sh_closeLongerThan_10 : decode prog_3_method_3_code 10 = .ok (.getfield 25, 3) := by decide +kernel
theorem d_Sh_closeLongerThan_13 : decode prog_3_method_3_code 13 = .ok (.aload_n 0, 1) := by decide +kernel
theorem d_Sh_closeLongerThan_14 : decode prog_3_method_3_code 14 = .ok (.getfield 34, 3) := by decide +kernel
theorem d_Sh_closeLongerThan_17 : decode prog_3_method_3_code 17 = .ok (.iconst 1, 1) := by decide +kernel
theorem d_Sh_closeLongerThan_18 : decode prog_3_method_3_code 18 = .ok (.isub, 1) := by decide +kernel
theorem d_Sh_closeLongerThan_19 : decode prog_3_method_3_code 19 = .ok (.iaload, 1) := by decide +kernel
theorem d_Sh_closeLongerThan_20 : decode prog_3_method_3_code 20 = .ok (.iload_n 1, 1) := by decide +kernel
theorem d_Sh_closeLongerThan_21 : decode prog_3_method_3_code 21 = .ok (.if_icmp .le 78, 3) := by decide +kernel
theorem d_Sh_closeLongerThan_24 : decode prog_3_method_3_code 24 = .ok (.aload_n 0, 1) := by decide +kernel
theorem d_Sh_closeLongerThan_25 : decode prog_3_method_3_code 25 = .ok (.dup, 1) := by decide +kernel
theorem d_Sh_closeLongerThan_26 : decode prog_3_method_3_code 26 = .ok (.getfield 34, 3) := by decide +kernel
theorem d_Sh_closeLongerThan_29 : decode prog_3_method_3_code 29 = .ok (.iconst 1, 1) := by decide +kernel
theorem d_Sh_closeLongerThan_30 : decode prog_3_method_3_code 30 = .ok (.isub, 1) := by decide +kernel
theorem d_Sh_closeLongerThan_31 : decode prog_3_method_3_code 31 = .ok (.putfield 34, 3) := by decide +kernel
theorem d_Sh_closeLongerThan_34 : decode prog_3_method_3_code 34 = .ok (.aload_n 0, 1) := by decide +kernel
theorem d_Sh_closeLongerThan_35 : decode prog_3_method_3_code 35 = .ok (.getfield 31, 3) := by decide +kernel
theorem d_Sh_closeLongerThan_38 : decode prog_3_method_3_code 38 = .ok (.aload_n 0, 1) := by decide +kernel
theorem d_Sh_closeLongerThan_39 : decode prog_3_method_3_code 39 = .ok (.getfield 34, 3) := by decide +kernel
theorem d_Sh_closeLongerThan_42 : decode prog_3_method_3_code 42 = .ok (.iaload, 1) := by decide +kernel
theorem d_Sh_closeLongerThan_43 : decode prog_3_method_3_code 43 = .ok (.iload_n 2, 1) := by decide +kernel
theorem d_Sh_closeLongerThan_44 : decode prog_3_method_3_code 44 = .ok (.iconst 1, 1) := by decide +kernel
theorem d_Sh_closeLongerThan_45 : decode prog_3_method_3_code 45 = .ok (.iadd, 1) := by decide +kernel
theorem d_Sh_closeLongerThan_46 : decode prog_3_method_3_code 46 = .ok (.invokestatic 63, 3) := by decide +kernel
theorem d_Sh_closeLongerThan_49 : decode prog_3_method_3_code 49 = .ok (.istore_n 2, 1) := by decide +kernel
theorem d_Sh_closeLongerThan_50 : decode prog_3_method_3_code 50 = .ok (.aload_n 0, 1) := by decide +kernel
theorem d_Sh_closeLongerThan_51 : decode prog_3_method_3_code 51 = .ok (.getfield 13, 3) := by decide +kernel
theorem d_Sh_closeLongerThan_54 : decode prog_3_method_3_code 54 = .ok (.aload_n 0, 1) := by decide +kernel
theorem d_Sh_closeLongerThan_55 : decode prog_3_method_3_code 55 = .ok (.getfield 28, 3) := by decide +kernel
theorem d_Sh_closeLongerThan_58 : decode prog_3_method_3_code 58 = .ok (.aload_n 0, 1) := by decide +kernel
theorem d_Sh_closeLongerThan_59 : decode prog_3_method_3_code 59 = .ok (.getfield 34, 3) := by decide +kernel
theorem d_Sh_closeLongerThan_62 : decode prog_3_method_3_code 62 = .ok (.iaload, 1) := by decide +kernel
theorem d_Sh_closeLongerThan_63 : decode prog_3_method_3_code 63 = .ok (.invokestatic 69, 3) := by decide +kernel
theorem d_Sh_closeLongerThan_66 : decode prog_3_method_3_code 66 = .ok (.dup2, 1) := by decide +kernel
theorem d_Sh_closeLongerThan_67 : decode prog_3_method_3_code 67 = .ok (.iaload, 1) := by decide +kernel
theorem d_Sh_closeLongerThan_68 : decode prog_3_method_3_code 68 = .ok (.iconst 1, 1) := by decide +kernel
theorem d_Sh_closeLongerThan_69 : decode prog_3_method_3_code 69 = .ok (.iadd, 1) := by decide +kernel
theorem d_Sh_closeLongerThan_70 : decode prog_3_method_3_code 70 = .ok (.iastore, 1) := by decide +kernel
theorem d_Sh_closeLongerThan_71 : decode prog_3_method_3_code 71 = .ok (.aload_n 0, 1) := by decide +kernel
theorem d_Sh_closeLongerThan_72 : decode prog_3_method_3_code 72 = .ok (.getfield 25, 3) := by decide +kernel
theorem d_Sh_closeLongerThan_75 : decode prog_3_method_3_code 75 = .ok (.aload_n 0, 1) := by decide +kernel
theorem d_Sh_closeLongerThan_76 : decode prog_3_method_3_code 76 = .ok (.getfield 34, 3) := by decide +kernel
theorem d_Sh_closeLongerThan_79 : decode prog_3_method_3_code 79 = .ok (.iaload, 1) := by decide +kernel
theorem d_Sh_closeLongerThan_80 : decode prog_3_method_3_code 80 = .ok (.ifCond .ne (-78), 3) := by decide +kernel
theorem d_Sh_closeLongerThan_83 : decode prog_3_method_3_code 83 = .ok (.aload_n 0, 1) := by decide +kernel
theorem d_Sh_closeLongerThan_84 : decode prog_3_method_3_code 84 = .ok (.aload_n 0, 1) := by decide +kernel
theorem d_Sh_closeLongerThan_85 : decode prog_3_method_3_code 85 = .ok (.getfield 28, 3) := by decide +kernel
theorem d_Sh_closeLongerThan_88 : decode prog_3_method_3_code 88 = .ok (.aload_n 0, 1) := by decide +kernel
theorem d_Sh_closeLongerThan_89 : decode prog_3_method_3_code 89 = .ok (.getfield 34, 3) := by decide +kernel
theorem d_Sh_closeLongerThan_92 : decode prog_3_method_3_code 92 = .ok (.iaload, 1) := by decide +kernel
theorem d_Sh_closeLongerThan_93 : decode prog_3_method_3_code 93 = .ok (.putfield 22, 3) := by decide +kernel
theorem d_Sh_closeLongerThan_96 : decode prog_3_method_3_code 96 = .ok (.goto (-94), 3) := by decide +kernel
theorem d_Sh_closeLongerThan_99 : decode prog_3_method_3_code 99 = .ok (.iload_n 2, 1) := by decide +kernel
theorem d_Sh_closeLongerThan_100 : decode prog_3_method_3_code 100 = .ok (.ireturn, 1) := by decide +kernel
theorem d_Sh_sizeWith_0 : decode prog_3_method_5_code 0 = .ok (.iload_n 0, 1) := by decide +kernel
theorem d_Sh_sizeWith_1 : decode prog_3_method_5_code 1 = .ok (.iconst 4, 1) := by decide +kernel
theorem d_Sh_sizeWith_2 : decode prog_3_method_5_code 2 = .ok (.if_icmp .gt 5, 3) := by decide +kernel
theorem d_Sh_sizeWith_5 : decode prog_3_method_5_code 5 = .ok (.iconst 0, 1) := by decide +kernel
theorem d_Sh_sizeWith_6 : decode prog_3_method_5_code 6 = .ok (.ireturn, 1) := by decide +kernel
theorem d_Sh_sizeWith_7 : decode prog_3_method_5_code 7 = .ok (.iload_n 0, 1) := by decide +kernel
theorem d_Sh_sizeWith_8 : decode prog_3_method_5_code 8 = .ok (.bipush 16, 2) := by decide +kernel
theorem d_Sh_sizeWith_10 : decode prog_3_method_5_code 10 = .ok (.if_icmp .gt 5, 3) := by decide +kernel
theorem d_Sh_sizeWith_13 : decode prog_3_method_5_code 13 = .ok (.iconst 1, 1) := by decide +kernel
theorem d_Sh_sizeWith_14 : decode prog_3_method_5_code 14 = .ok (.ireturn, 1) := by decide +kernel
theorem d_Sh_sizeWith_15 : decode prog_3_method_5_code 15 = .ok (.iload_n 0, 1) := by decide +kernel
theorem d_Sh_sizeWith_16 : decode prog_3_method_5_code 16 = .ok (.bipush 48, 2) := by decide +kernel
theorem d_Sh_sizeWith_18 : decode prog_3_method_5_code 18 = .ok (.if_icmp .gt 7, 3) := by decide +kernel
theorem d_Sh_sizeWith_21 : decode prog_3_method_5_code 21 = .ok (.iconst 2, 1) := by decide +kernel
theorem d_Sh_sizeWith_22 : decode prog_3_method_5_code 22 = .ok (.goto 4, 3) := by decide +kernel
theorem d_Sh_sizeWith_25 : decode prog_3_method_5_code 25 = .ok (.iconst 3, 1) := by decide +kernel
theorem d_Sh_sizeWith_26 : decode prog_3_method_5_code 26 = .ok (.ireturn, 1) := by decide +kernel
theorem d_Sh_addChild_0 : decode prog_3_method_4_code 0 = .ok (.aload_n 0, 1) := by decide +kernel
theorem d_Sh_addChild_1 : decode prog_3_method_4_code 1 = .ok (.getfield 34, 3) := by decide +kernel
theorem d_Sh_addChild_4 : decode prog_3_method_4_code 4 = .ok (.ifCond .le 64, 3) := by decide +kernel
theorem d_Sh_addChild_7 : decode prog_3_method_4_code 7 = .ok (.aload_n 0, 1) := by decide +kernel
theorem d_Sh_addChild_8 : decode prog_3_method_4_code 8 = .ok (.getfield 25, 3) := by decide +kernel
theorem d_Sh_addChild_11 : decode prog_3_method_4_code 11 = .ok (.aload_n 0, 1) := by decide +kernel
theorem d_Sh_addChild_12 : decode prog_3_method_4_code 12 = .ok (.getfield 34, 3) := by decide +kernel
theorem d_Sh_addChild_15 : decode prog_3_method_4_code 15 = .ok (.iconst 1, 1) := by decide +kernel
theorem d_Sh_addChild_16 : decode prog_3_method_4_code 16 = .ok (.isub, 1) := by decide +kernel
theorem d_Sh_addChild_17 : decode prog_3_method_4_code 17 = .ok (.iaload, 1) := by decide +kernel
theorem d_Sh_addChild_18 : decode prog_3_method_4_code 18 = .ok (.iload_n 1, 1) := by decide +kernel
theorem d_Sh_addChild_19 : decode prog_3_method_4_code 19 = .ok (.if_icmp .ne 49, 3) := by decide +kernel
theorem d_Sh_addChild_22 : decode prog_3_method_4_code 22 = .ok (.aload_n 0, 1) := by decide +kernel
theorem d_Sh_addChild_23 : decode prog_3_method_4_code 23 = .ok (.getfield 28, 3) := by decide +kernel
theorem d_Sh_addChild_26 : decode prog_3_method_4_code 26 = .ok (.aload_n 0, 1) := by decide +kernel
theorem d_Sh_addChild_27 : decode prog_3_method_4_code 27 = .ok (.getfield 34, 3) := by decide +kernel
theorem d_Sh_addChild_30 : decode prog_3_method_4_code 30 = .ok (.iconst 1, 1) := by decide +kernel
theorem d_Sh_addChild_31 : decode prog_3_method_4_code 31 = .ok (.isub, 1) := by decide +kernel
theorem d_Sh_addChild_32 : decode prog_3_method_4_code 32 = .ok (.dup2, 1) := by decide +kernel
theorem d_Sh_addChild_33 : decode prog_3_method_4_code 33 = .ok (.iaload, 1) := by decide +kernel
theorem d_Sh_addChild_34 : decode prog_3_method_4_code 34 = .ok (.iconst 1, 1) := by decide +kernel
theorem d_Sh_addChild_35 : decode prog_3_method_4_code 35 = .ok (.iadd, 1) := by decide +kernel
theorem d_Sh_addChild_36 : decode prog_3_method_4_code 36 = .ok (.iastore, 1) := by decide +kernel
theorem d_Sh_addChild_37 : decode prog_3_method_4_code 37 = .ok (.aload_n 0, 1) := by decide +kernel
theorem d_Sh_addChild_38 : decode prog_3_method_4_code 38 = .ok (.getfield 31, 3) := by decide +kernel
theorem d_Sh_addChild_41 : decode prog_3_method_4_code 41 = .ok (.aload_n 0, 1) := by decide +kernel
theorem d_Sh_addChild_42 : decode prog_3_method_4_code 42 = .ok (.getfield 34, 3) := by decide +kernel
theorem d_Sh_addChild_45 : decode prog_3_method_4_code 45 = .ok (.iconst 1, 1) := by decide +kernel
theorem d_Sh_addChild_46 : decode prog_3_method_4_code 46 = .ok (.isub, 1) := by decide +kernel
theorem d_Sh_addChild_47 : decode prog_3_method_4_code 47 = .ok (.aload_n 0, 1) := by decide +kernel
theorem d_Sh_addChild_48 : decode prog_3_method_4_code 48 = .ok (.getfield 31, 3) := by decide +kernel
theorem d_Sh_addChild_51 : decode prog_3_method_4_code 51 = .ok (.aload_n 0, 1) := by decide +kernel
theorem d_Sh_addChild_52 : decode prog_3_method_4_code 52 = .ok (.getfield 34, 3) := by decide +kernel
theorem d_Sh_addChild_55 : decode prog_3_method_4_code 55 = .ok (.iconst 1, 1) := by decide +kernel
theorem d_Sh_addChild_56 : decode prog_3_method_4_code 56 = .ok (.isub, 1) := by decide +kernel
theorem d_Sh_addChild_57 : decode prog_3_method_4_code 57 = .ok (.iaload, 1) := by decide +kernel
theorem d_Sh_addChild_58 : decode prog_3_method_4_code 58 = .ok (.iload_n 2, 1) := by decide +kernel
theorem d_Sh_addChild_59 : decode prog_3_method_4_code 59 = .ok (.iconst 1, 1) := by decide +kernel
theorem d_Sh_addChild_60 : decode prog_3_method_4_code 60 = .ok (.iadd, 1) := by decide +kernel
theorem d_Sh_addChild_61 : decode prog_3_method_4_code 61 = .ok (.invokestatic 63, 3) := by decide +kernel
theorem d_Sh_addChild_64 : decode prog_3_method_4_code 64 = .ok (.iastore, 1) := by decide +kernel
theorem d_Sh_addChild_65 : decode prog_3_method_4_code 65 = .ok (.goto 45, 3) := by decide +kernel
theorem d_Sh_addChild_68 : decode prog_3_method_4_code 68 = .ok (.aload_n 0, 1) := by decide +kernel
theorem d_Sh_addChild_69 : decode prog_3_method_4_code 69 = .ok (.getfield 25, 3) := by decide +kernel
theorem d_Sh_addChild_72 : decode prog_3_method_4_code 72 = .ok (.aload_n 0, 1) := by decide +kernel
theorem d_Sh_addChild_73 : decode prog_3_method_4_code 73 = .ok (.getfield 34, 3) := by decide +kernel
theorem d_Sh_addChild_76 : decode prog_3_method_4_code 76 = .ok (.iload_n 1, 1) := by decide +kernel
theorem d_Sh_addChild_77 : decode prog_3_method_4_code 77 = .ok (.iastore, 1) := by decide +kernel
theorem d_Sh_addChild_78 : decode prog_3_method_4_code 78 = .ok (.aload_n 0, 1) := by decide +kernel
theorem d_Sh_addChild_79 : decode prog_3_method_4_code 79 = .ok (.getfield 28, 3) := by decide +kernel
theorem d_Sh_addChild_82 : decode prog_3_method_4_code 82 = .ok (.aload_n 0, 1) := by decide +kernel
theorem d_Sh_addChild_83 : decode prog_3_method_4_code 83 = .ok (.getfield 34, 3) := by decide +kernel
theorem d_Sh_addChild_86 : decode prog_3_method_4_code 86 = .ok (.iconst 2, 1) := by decide +kernel
theorem d_Sh_addChild_87 : decode prog_3_method_4_code 87 = .ok (.iastore, 1) := by decide +kernel
theorem d_Sh_addChild_88 : decode prog_3_method_4_code 88 = .ok (.aload_n 0, 1) := by decide +kernel
theorem d_Sh_addChild_89 : decode prog_3_method_4_code 89 = .ok (.getfield 31, 3) := by decide +kernel
theorem d_Sh_addChild_92 : decode prog_3_method_4_code 92 = .ok (.aload_n 0, 1) := by decide +kernel
theorem d_Sh_addChild_93 : decode prog_3_method_4_code 93 = .ok (.getfield 34, 3) := by decide +kernel
theorem d_Sh_addChild_96 : decode prog_3_method_4_code 96 = .ok (.iload_n 2, 1) := by decide +kernel
theorem d_Sh_addChild_97 : decode prog_3_method_4_code 97 = .ok (.iconst 1, 1) := by decide +kernel
theorem d_Sh_addChild_98 : decode prog_3_method_4_code 98 = .ok (.iadd, 1) := by decide +kernel
theorem d_Sh_addChild_99 : decode prog_3_method_4_code 99 = .ok (.iastore, 1) := by decide +kernel
theorem d_Sh_addChild_100 : decode prog_3_method_4_code 100 = .ok (.aload_n 0, 1) := by decide +kernel
theorem d_Sh_addChild_101 : decode prog_3_method_4_code 101 = .ok (.dup, 1) := by decide +kernel
theorem d_Sh_addChild_102 : decode prog_3_method_4_code 102 = .ok (.getfield 34, 3) := by decide +kernel
theorem d_Sh_addChild_105 : decode prog_3_method_4_code 105 = .ok (.iconst 1, 1) := by decide +kernel
theorem d_Sh_addChild_106 : decode prog_3_method_4_code 106 = .ok (.iadd, 1) := by decide +kernel
theorem d_Sh_addChild_107 : decode prog_3_method_4_code 107 = .ok (.putfield 34, 3) := by decide +kernel
theorem d_Sh_addChild_110 : decode prog_3_method_4_code 110 = .ok (.return_, 1) := by decide +kernel
theorem d_Ta_copyTo_0 : decode prog_4_method_7_code 0 = .ok (.aload_n 0, 1) := by decide +kernel
theorem d_Ta_copyTo_1 : decode prog_4_method_7_code 1 = .ok (.getfield 15, 3) := by decide +kernel
theorem d_Ta_copyTo_4 : decode prog_4_method_7_code 4 = .ok (.iload_n 1, 1) := by decide +kernel
theorem d_Ta_copyTo_5 : decode prog_4_method_7_code 5 = .ok (.aload_n 0, 1) := by decide +kernel
theorem d_Ta_copyTo_6 : decode prog_4_method_7_code 6 = .ok (.getfield 9, 3) := by decide +kernel
theorem d_Ta_copyTo_9 : decode prog_4_method_7_code 9 = .ok (.imul, 1) := by decide +kernel
theorem d_Ta_copyTo_10 : decode prog_4_method_7_code 10 = .ok (.aload_n 2, 1) := by decide +kernel
theorem d_Ta_copyTo_11 : decode prog_4_method_7_code 11 = .ok (.getfield 57, 3) := by decide +kernel
theorem d_Ta_copyTo_14 : decode prog_4_method_7_code 14 = .ok (.iconst 0, 1) := by decide +kernel
theorem d_Ta_copyTo_15 : decode prog_4_method_7_code 15 = .ok (.aload_n 0, 1) := by decide +kernel
theorem d_Ta_copyTo_16 : decode prog_4_method_7_code 16 = .ok (.getfield 9, 3) := by decide +kernel
theorem d_Ta_copyTo_19 : decode prog_4_method_7_code 19 = .ok (.invokestatic 51, 3) := by decide +kernel
theorem d_Ta_copyTo_22 : decode prog_4_method_7_code 22 = .ok (.return_, 1) := by decide +kernel
theorem d_Ke_codeBytes_0 : decode prog_2_method_8_code 0 = .ok (.aload_n 0, 1) := by decide +kernel
theorem d_Ke_codeBytes_1 : decode prog_2_method_8_code 1 = .ok (.getfield 9, 3) := by decide +kernel
theorem d_Ke_codeBytes_4 : decode prog_2_method_8_code 4 = .ok (.ifCond .eq 12, 3) := by decide +kernel
theorem d_Ke_codeBytes_7 : decode prog_2_method_8_code 7 = .ok (.aload_n 0, 1) := by decide +kernel
theorem d_Ke_codeBytes_8 : decode prog_2_method_8_code 8 = .ok (.invokevirtual 36, 3) := by decide +kernel
theorem d_Ke_codeBytes_11 : decode prog_2_method_8_code 11 = .ok (.iconst 2, 1) := by decide +kernel
theorem d_Ke_codeBytes_12 : decode prog_2_method_8_code 12 = .ok (.iadd, 1) := by decide +kernel
theorem d_Ke_codeBytes_13 : decode prog_2_method_8_code 13 = .ok (.goto 11, 3) := by decide +kernel
theorem d_Ke_codeBytes_16 : decode prog_2_method_8_code 16 = .ok (.bipush 8, 2) := by decide +kernel
theorem d_Ke_codeBytes_18 : decode prog_2_method_8_code 18 = .ok (.aload_n 0, 1) := by decide +kernel
theorem d_Ke_codeBytes_19 : decode prog_2_method_8_code 19 = .ok (.getfield 15, 3) := by decide +kernel
theorem d_Ke_codeBytes_22 : decode prog_2_method_8_code 22 = .ok (.arraylength, 1) := by decide +kernel
theorem d_Ke_codeBytes_23 : decode prog_2_method_8_code 23 = .ok (.imul, 1) := by decide +kernel
theorem d_Ke_codeBytes_24 : decode prog_2_method_8_code 24 = .ok (.ireturn, 1) := by decide +kernel
theorem d_Ke_letterBytes_0 : decode prog_2_method_9_code 0 = .ok (.bipush 8, 2) := by decide +kernel
theorem d_Ke_letterBytes_2 : decode prog_2_method_9_code 2 = .ok (.aload_n 0, 1) := by decide +kernel
theorem d_Ke_letterBytes_3 : decode prog_2_method_9_code 3 = .ok (.getfield 15, 3) := by decide +kernel
theorem d_Ke_letterBytes_6 : decode prog_2_method_9_code 6 = .ok (.arraylength, 1) := by decide +kernel
theorem d_Ke_letterBytes_7 : decode prog_2_method_9_code 7 = .ok (.imul, 1) := by decide +kernel
theorem d_Ke_letterBytes_8 : decode prog_2_method_9_code 8 = .ok (.istore_n 1, 1) := by decide +kernel
theorem d_Ke_letterBytes_9 : decode prog_2_method_9_code 9 = .ok (.iload_n 1, 1) := by decide +kernel
theorem d_Ke_letterBytes_10 : decode prog_2_method_9_code 10 = .ok (.ifCond .le 19, 3) := by decide +kernel
theorem d_Ke_letterBytes_13 : decode prog_2_method_9_code 13 = .ok (.aload_n 0, 1) := by decide +kernel
theorem d_Ke_letterBytes_14 : decode prog_2_method_9_code 14 = .ok (.iload_n 1, 1) := by decide +kernel
theorem d_Ke_letterBytes_15 : decode prog_2_method_9_code 15 = .ok (.iconst 1, 1) := by decide +kernel
theorem d_Ke_letterBytes_16 : decode prog_2_method_9_code 16 = .ok (.isub, 1) := by decide +kernel
theorem d_Ke_letterBytes_17 : decode prog_2_method_9_code 17 = .ok (.invokevirtual 44, 3) := by decide +kernel
theorem d_Ke_letterBytes_20 : decode prog_2_method_9_code 20 = .ok (.ifCond .ne 9, 3) := by decide +kernel
theorem d_Ke_letterBytes_23 : decode prog_2_method_9_code 23 = .ok (.iinc 1 (-1), 3) := by decide +kernel
theorem d_Ke_letterBytes_26 : decode prog_2_method_9_code 26 = .ok (.goto (-17), 3) := by decide +kernel
theorem d_Ke_letterBytes_29 : decode prog_2_method_9_code 29 = .ok (.iload_n 1, 1) := by decide +kernel
theorem d_Ke_letterBytes_30 : decode prog_2_method_9_code 30 = .ok (.ireturn, 1) := by decide +kernel
theorem d_Ke_byteAt_0 : decode prog_2_method_10_code 0 = .ok (.aload_n 0, 1) := by decide +kernel
theorem d_Ke_byteAt_1 : decode prog_2_method_10_code 1 = .ok (.getfield 15, 3) := by decide +kernel
theorem d_Ke_byteAt_4 : decode prog_2_method_10_code 4 = .ok (.iload_n 1, 1) := by decide +kernel
theorem d_Ke_byteAt_5 : decode prog_2_method_10_code 5 = .ok (.bipush 8, 2) := by decide +kernel
theorem d_Ke_byteAt_7 : decode prog_2_method_10_code 7 = .ok (.idiv, 1) := by decide +kernel
theorem d_Ke_byteAt_8 : decode prog_2_method_10_code 8 = .ok (.laload, 1) := by decide +kernel
theorem d_Ke_byteAt_9 : decode prog_2_method_10_code 9 = .ok (.iload_n 1, 1) := by decide +kernel
theorem d_Ke_byteAt_10 : decode prog_2_method_10_code 10 = .ok (.invokestatic 48, 3) := by decide +kernel
theorem d_Ke_byteAt_13 : decode prog_2_method_10_code 13 = .ok (.lushr, 1) := by decide +kernel
theorem d_Ke_byteAt_14 : decode prog_2_method_10_code 14 = .ok (.l2i, 1) := by decide +kernel
theorem d_Ke_byteAt_15 : decode prog_2_method_10_code 15 = .ok (.sipush 255, 3) := by decide +kernel
theorem d_Ke_byteAt_18 : decode prog_2_method_10_code 18 = .ok (.iand, 1) := by decide +kernel
theorem d_Ke_byteAt_19 : decode prog_2_method_10_code 19 = .ok (.ireturn, 1) := by decide +kernel
theorem d_Ke_shiftOf_0 : decode prog_2_method_12_code 0 = .ok (.bipush 56, 2) := by decide +kernel
theorem d_Ke_shiftOf_2 : decode prog_2_method_12_code 2 = .ok (.bipush 8, 2) := by decide +kernel
theorem d_Ke_shiftOf_4 : decode prog_2_method_12_code 4 = .ok (.iload_n 0, 1) := by decide +kernel
theorem d_Ke_shiftOf_5 : decode prog_2_method_12_code 5 = .ok (.bipush 8, 2) := by decide +kernel
theorem d_Ke_shiftOf_7 : decode prog_2_method_12_code 7 = .ok (.irem, 1) := by decide +kernel
theorem d_Ke_shiftOf_8 : decode prog_2_method_12_code 8 = .ok (.imul, 1) := by decide +kernel
theorem d_Ke_shiftOf_9 : decode prog_2_method_12_code 9 = .ok (.isub, 1) := by decide +kernel
theorem d_Ke_shiftOf_10 : decode prog_2_method_12_code 10 = .ok (.ireturn, 1) := by decide +kernel
theorem d_St_clear_0 : decode prog_1_method_25_code 0 = .ok (.aload_n 0, 1) := by decide +kernel
theorem d_St_clear_1 : decode prog_1_method_25_code 1 = .ok (.getfield 44, 3) := by decide +kernel
theorem d_St_clear_4 : decode prog_1_method_25_code 4 = .ok (.getfield 117, 3) := by decide +kernel
theorem d_St_clear_7 : decode prog_1_method_25_code 7 = .ok (.istore_n 1, 1) := by decide +kernel
theorem d_St_clear_8 : decode prog_1_method_25_code 8 = .ok (.aload_n 0, 1) := by decide +kernel
theorem d_St_clear_9 : decode prog_1_method_25_code 9 = .ok (.getfield 44, 3) := by decide +kernel
theorem d_St_clear_12 : decode prog_1_method_25_code 12 = .ok (.iconst 0, 1) := by decide +kernel
theorem d_St_clear_13 : decode prog_1_method_25_code 13 = .ok (.iload_n 1, 1) := by decide +kernel
theorem d_St_clear_14 : decode prog_1_method_25_code 14 = .ok (.invokevirtual 128, 3) := by decide +kernel
theorem d_St_clear_17 : decode prog_1_method_25_code 17 = .ok (.iload_n 1, 1) := by decide +kernel
theorem d_St_clear_18 : decode prog_1_method_25_code 18 = .ok (.ireturn, 1) := by decide +kernel
theorem d_St_number_0 : decode prog_1_method_2_code 0 = .ok (.aload_n 0, 1) := by decide +kernel
theorem d_St_number_1 : decode prog_1_method_2_code 1 = .ok (.getfield 15, 3) := by decide +kernel
theorem d_St_number_4 : decode prog_1_method_2_code 4 = .ok (.ifCond .eq 13, 3) := by decide +kernel
theorem d_St_number_7 : decode prog_1_method_2_code 7 = .ok (.new 63, 3) := by decide +kernel
theorem d_St_number_10 : decode prog_1_method_2_code 10 = .ok (.dup, 1) := by decide +kernel
theorem d_St_number_11 : decode prog_1_method_2_code 11 = .ok (.ldc 65, 2) := by decide +kernel
theorem d_St_number_13 : decode prog_1_method_2_code 13 = .ok (.invokespecial 67, 3) := by decide +kernel
theorem d_St_number_16 : decode prog_1_method_2_code 16 = .ok (.athrow, 1) := by decide +kernel
theorem d_St_number_17 : decode prog_1_method_2_code 17 = .ok (.aload_n 0, 1) := by decide +kernel
theorem d_St_number_18 : decode prog_1_method_2_code 18 = .ok (.getfield 24, 3) := by decide +kernel
theorem d_St_number_21 : decode prog_1_method_2_code 21 = .ok (.iconst 0, 1) := by decide +kernel
theorem d_St_number_22 : decode prog_1_method_2_code 22 = .ok (.lload_n 1, 1) := by decide +kernel
theorem d_St_number_23 : decode prog_1_method_2_code 23 = .ok (.invokevirtual 70, 3) := by decide +kernel
theorem d_St_number_26 : decode prog_1_method_2_code 26 = .ok (.return_, 1) := by decide +kernel
theorem d_Ke_setNumber_0 : decode prog_2_method_4_code 0 = .ok (.aload_n 0, 1) := by decide +kernel
theorem d_Ke_setNumber_1 : decode prog_2_method_4_code 1 = .ok (.getfield 15, 3) := by decide +kernel
theorem d_Ke_setNumber_4 : decode prog_2_method_4_code 4 = .ok (.iload_n 1, 1) := by decide +kernel
theorem d_Ke_setNumber_5 : decode prog_2_method_4_code 5 = .ok (.lload_n 2, 1) := by decide +kernel
theorem d_Ke_setNumber_6 : decode prog_2_method_4_code 6 = .ok (.ldc2_w 22, 3) := by decide +kernel
theorem d_Ke_setNumber_9 : decode prog_2_method_4_code 9 = .ok (.lxor, 1) := by decide +kernel
theorem d_Ke_setNumber_10 : decode prog_2_method_4_code 10 = .ok (.lastore, 1) := by decide +kernel
theorem d_Ke_setNumber_11 : decode prog_2_method_4_code 11 = .ok (.return_, 1) := by decide +kernel
theorem d_St_pair_0 : decode prog_1_method_3_code 0 = .ok (.aload_n 0, 1) := by decide +kernel
theorem d_St_pair_1 : decode prog_1_method_3_code 1 = .ok (.getfield 15, 3) := by decide +kernel
theorem d_St_pair_4 : decode prog_1_method_3_code 4 = .ok (.iconst 1, 1) := by decide +kernel
theorem d_St_pair_5 : decode prog_1_method_3_code 5 = .ok (.if_icmp .eq 13, 3) := by decide +kernel
theorem d_St_pair_8 : decode prog_1_method_3_code 8 = .ok (.new 63, 3) := by decide +kernel
theorem d_St_pair_11 : decode prog_1_method_3_code 11 = .ok (.dup, 1) := by decide +kernel
theorem d_St_pair_12 : decode prog_1_method_3_code 12 = .ok (.ldc 74, 2) := by decide +kernel
theorem d_St_pair_14 : decode prog_1_method_3_code 14 = .ok (.invokespecial 67, 3) := by decide +kernel
theorem d_St_pair_17 : decode prog_1_method_3_code 17 = .ok (.athrow, 1) := by decide +kernel
theorem d_St_pair_18 : decode prog_1_method_3_code 18 = .ok (.aload_n 0, 1) := by decide +kernel
theorem d_St_pair_19 : decode prog_1_method_3_code 19 = .ok (.getfield 24, 3) := by decide +kernel
theorem d_St_pair_22 : decode prog_1_method_3_code 22 = .ok (.iconst 0, 1) := by decide +kernel
theorem d_St_pair_23 : decode prog_1_method_3_code 23 = .ok (.lload_n 1, 1) := by decide +kernel
theorem d_St_pair_24 : decode prog_1_method_3_code 24 = .ok (.invokevirtual 70, 3) := by decide +kernel
theorem d_St_pair_27 : decode prog_1_method_3_code 27 = .ok (.aload_n 0, 1) := by decide +kernel
theorem d_St_pair_28 : decode prog_1_method_3_code 28 = .ok (.getfield 24, 3) := by decide +kernel
theorem d_St_pair_31 : decode prog_1_method_3_code 31 = .ok (.iconst 1, 1) := by decide +kernel
theorem d_St_pair_32 : decode prog_1_method_3_code 32 = .ok (.lload_n 3, 1) := by decide +kernel
theorem d_St_pair_33 : decode prog_1_method_3_code 33 = .ok (.invokevirtual 70, 3) := by decide +kernel
theorem d_St_pair_36 : decode prog_1_method_3_code 36 = .ok (.return_, 1) := by decide +kernel
theorem d_St_letter_0 : decode prog_1_method_4_code 0 = .ok (.aload_n 0, 1) := by decide +kernel
theorem d_St_letter_1 : decode prog_1_method_4_code 1 = .ok (.getfield 15, 3) := by decide +kernel
theorem d_St_letter_4 : decode prog_1_method_4_code 4 = .ok (.iconst 2, 1) := by decide +kernel
theorem d_St_letter_5 : decode prog_1_method_4_code 5 = .ok (.if_icmp .eq 13, 3) := by decide +kernel
theorem d_St_letter_8 : decode prog_1_method_4_code 8 = .ok (.new 63, 3) := by decide +kernel
theorem d_St_letter_11 : decode prog_1_method_4_code 11 = .ok (.dup, 1) := by decide +kernel
theorem d_St_letter_12 : decode prog_1_method_4_code 12 = .ok (.ldc 76, 2) := by decide +kernel
theorem d_St_letter_14 : decode prog_1_method_4_code 14 = .ok (.invokespecial 67, 3) := by decide +kernel
theorem d_St_letter_17 : decode prog_1_method_4_code 17 = .ok (.athrow, 1) := by decide +kernel
theorem d_St_letter_18 : decode prog_1_method_4_code 18 = .ok (.iload_n 1, 1) := by decide +kernel
theorem d_St_letter_19 : decode prog_1_method_4_code 19 = .ok (.ifCond .lt 10, 3) := by decide +kernel
theorem d_St_letter_22 : decode prog_1_method_4_code 22 = .ok (.iload_n 1, 1) := by decide +kernel
theorem d_St_letter_23 : decode prog_1_method_4_code 23 = .ok (.sipush 255, 3) := by decide +kernel
theorem d_St_letter_26 : decode prog_1_method_4_code 26 = .ok (.if_icmp .le 13, 3) := by decide +kernel
theorem d_St_letter_29 : decode prog_1_method_4_code 29 = .ok (.new 78, 3) := by decide +kernel
theorem d_St_letter_32 : decode prog_1_method_4_code 32 = .ok (.dup, 1) := by decide +kernel
theorem d_St_letter_33 : decode prog_1_method_4_code 33 = .ok (.ldc 80, 2) := by decide +kernel
theorem d_St_letter_35 : decode prog_1_method_4_code 35 = .ok (.invokespecial 82, 3) := by decide +kernel
theorem d_St_letter_38 : decode prog_1_method_4_code 38 = .ok (.athrow, 1) := by decide +kernel
theorem d_St_letter_39 : decode prog_1_method_4_code 39 = .ok (.aload_n 0, 1) := by decide +kernel
theorem d_St_letter_40 : decode prog_1_method_4_code 40 = .ok (.getfield 24, 3) := by decide +kernel
theorem d_St_letter_43 : decode prog_1_method_4_code 43 = .ok (.invokevirtual 83, 3) := by decide +kernel
theorem d_St_letter_46 : decode prog_1_method_4_code 46 = .ok (.istore_n 2, 1) := by decide +kernel
theorem d_St_letter_47 : decode prog_1_method_4_code 47 = .ok (.iload_n 2, 1) := by decide +kernel
theorem d_St_letter_48 : decode prog_1_method_4_code 48 = .ok (.bipush 24, 2) := by decide +kernel
theorem d_St_letter_50 : decode prog_1_method_4_code 50 = .ok (.if_icmp .lt 13, 3) := by decide +kernel
theorem d_St_letter_53 : decode prog_1_method_4_code 53 = .ok (.new 86, 3) := by decide +kernel
theorem d_St_letter_56 : decode prog_1_method_4_code 56 = .ok (.dup, 1) := by decide +kernel
theorem d_St_letter_57 : decode prog_1_method_4_code 57 = .ok (.ldc 88, 2) := by decide +kernel
theorem d_St_letter_59 : decode prog_1_method_4_code 59 = .ok (.invokespecial 90, 3) := by decide +kernel
theorem d_St_letter_62 : decode prog_1_method_4_code 62 = .ok (.athrow, 1) := by decide +kernel
theorem d_St_letter_63 : decode prog_1_method_4_code 63 = .ok (.aload_n 0, 1) := by decide +kernel
theorem d_St_letter_64 : decode prog_1_method_4_code 64 = .ok (.getfield 24, 3) := by decide +kernel
theorem d_St_letter_67 : decode prog_1_method_4_code 67 = .ok (.iload_n 1, 1) := by decide +kernel
theorem d_St_letter_68 : decode prog_1_method_4_code 68 = .ok (.invokevirtual 91, 3) := by decide +kernel
theorem d_St_letter_71 : decode prog_1_method_4_code 71 = .ok (.iload_n 2, 1) := by decide +kernel
theorem d_St_letter_72 : decode prog_1_method_4_code 72 = .ok (.iconst 1, 1) := by decide +kernel
theorem d_St_letter_73 : decode prog_1_method_4_code 73 = .ok (.iadd, 1) := by decide +kernel
theorem d_St_letter_74 : decode prog_1_method_4_code 74 = .ok (.ireturn, 1) := by decide +kernel
theorem d_Ke_partCount_0 : decode prog_2_method_6_code 0 = .ok (.aload_n 0, 1) := by decide +kernel
theorem d_Ke_partCount_1 : decode prog_2_method_6_code 1 = .ok (.getfield 9, 3) := by decide +kernel
theorem d_Ke_partCount_4 : decode prog_2_method_6_code 4 = .ok (.ifCond .ne 9, 3) := by decide +kernel
theorem d_Ke_partCount_7 : decode prog_2_method_6_code 7 = .ok (.aload_n 0, 1) := by decide +kernel
theorem d_Ke_partCount_8 : decode prog_2_method_6_code 8 = .ok (.getfield 15, 3) := by decide +kernel
theorem d_Ke_partCount_11 : decode prog_2_method_6_code 11 = .ok (.arraylength, 1) := by decide +kernel
theorem d_Ke_partCount_12 : decode prog_2_method_6_code 12 = .ok (.ireturn, 1) := by decide +kernel
theorem d_Ke_partCount_13 : decode prog_2_method_6_code 13 = .ok (.iconst 0, 1) := by decide +kernel
theorem d_Ke_partCount_14 : decode prog_2_method_6_code 14 = .ok (.istore_n 1, 1) := by decide +kernel
theorem d_Ke_partCount_15 : decode prog_2_method_6_code 15 = .ok (.aload_n 0, 1) := by decide +kernel
theorem d_Ke_partCount_16 : decode prog_2_method_6_code 16 = .ok (.invokevirtual 36, 3) := by decide +kernel
theorem d_Ke_partCount_19 : decode prog_2_method_6_code 19 = .ok (.istore_n 2, 1) := by decide +kernel
theorem d_Ke_partCount_20 : decode prog_2_method_6_code 20 = .ok (.iconst 0, 1) := by decide +kernel
theorem d_Ke_partCount_21 : decode prog_2_method_6_code 21 = .ok (.istore_n 3, 1) := by decide +kernel
theorem d_Ke_partCount_22 : decode prog_2_method_6_code 22 = .ok (.iload_n 3, 1) := by decide +kernel
theorem d_Ke_partCount_23 : decode prog_2_method_6_code 23 = .ok (.iload_n 2, 1) := by decide +kernel
theorem d_Ke_partCount_24 : decode prog_2_method_6_code 24 = .ok (.if_icmp .ge 20, 3) := by decide +kernel
theorem d_Ke_partCount_27 : decode prog_2_method_6_code 27 = .ok (.aload_n 0, 1) := by decide +kernel
theorem d_Ke_partCount_28 : decode prog_2_method_6_code 28 = .ok (.iload_n 3, 1) := by decide +kernel
theorem d_Ke_partCount_29 : decode prog_2_method_6_code 29 = .ok (.invokevirtual 44, 3) := by decide +kernel
theorem d_Ke_partCount_32 : decode prog_2_method_6_code 32 = .ok (.ifCond .eq 6, 3) := by decide +kernel
theorem d_Ke_partCount_35 : decode prog_2_method_6_code 35 = .ok (.iinc 1 1, 3) := by decide +kernel
theorem d_Ke_partCount_38 : decode prog_2_method_6_code 38 = .ok (.iinc 3 1, 3) := by decide +kernel
theorem d_Ke_partCount_41 : decode prog_2_method_6_code 41 = .ok (.goto (-19), 3) := by decide +kernel
theorem d_Ke_partCount_44 : decode prog_2_method_6_code 44 = .ok (.iload_n 1, 1) := by decide +kernel
theorem d_Ke_partCount_45 : decode prog_2_method_6_code 45 = .ok (.ireturn, 1) := by decide +kernel
theorem d_Ke_addLetter_0 : decode prog_2_method_5_code 0 = .ok (.aload_n 0, 1) := by decide +kernel
theorem d_Ke_addLetter_1 : decode prog_2_method_5_code 1 = .ok (.invokevirtual 36, 3) := by decide +kernel
theorem d_Ke_addLetter_4 : decode prog_2_method_5_code 4 = .ok (.istore_n 2, 1) := by decide +kernel
theorem d_Ke_addLetter_5 : decode prog_2_method_5_code 5 = .ok (.iload_n 1, 1) := by decide +kernel
theorem d_Ke_addLetter_6 : decode prog_2_method_5_code 6 = .ok (.ifCond .ne 16, 3) := by decide +kernel
theorem d_Ke_addLetter_9 : decode prog_2_method_5_code 9 = .ok (.aload_n 0, 1) := by decide +kernel
theorem d_Ke_addLetter_10 : decode prog_2_method_5_code 10 = .ok (.iload_n 2, 1) := by decide +kernel
theorem d_Ke_addLetter_11 : decode prog_2_method_5_code 11 = .ok (.iconst 1, 1) := by decide +kernel
theorem d_Ke_addLetter_12 : decode prog_2_method_5_code 12 = .ok (.iadd, 1) := by decide +kernel
theorem d_Ke_addLetter_13 : decode prog_2_method_5_code 13 = .ok (.sipush 255, 3) := by decide +kernel
theorem d_Ke_addLetter_16 : decode prog_2_method_5_code 16 = .ok (.invokevirtual 40, 3) := by decide +kernel
theorem d_Ke_addLetter_19 : decode prog_2_method_5_code 19 = .ok (.goto 9, 3) := by decide +kernel
theorem d_Ke_addLetter_22 : decode prog_2_method_5_code 22 = .ok (.aload_n 0, 1) := by decide +kernel
theorem d_Ke_addLetter_23 : decode prog_2_method_5_code 23 = .ok (.iload_n 2, 1) := by decide +kernel
theorem d_Ke_addLetter_24 : decode prog_2_method_5_code 24 = .ok (.iload_n 1, 1) := by decide +kernel
theorem d_Ke_addLetter_25 : decode prog_2_method_5_code 25 = .ok (.invokevirtual 40, 3) := by decide +kernel
theorem d_Ke_addLetter_28 : decode prog_2_method_5_code 28 = .ok (.return_, 1) := by decide +kernel
theorem d_Ke_fillByte_0 : decode prog_2_method_11_code 0 = .ok (.aload_n 0, 1) := by decide +kernel
theorem d_Ke_fillByte_1 : decode prog_2_method_11_code 1 = .ok (.getfield 15, 3) := by decide +kernel
theorem d_Ke_fillByte_4 : decode prog_2_method_11_code 4 = .ok (.iload_n 1, 1) := by decide +kernel
theorem d_Ke_fillByte_5 : decode prog_2_method_11_code 5 = .ok (.bipush 8, 2) := by decide +kernel
theorem d_Ke_fillByte_7 : decode prog_2_method_11_code 7 = .ok (.idiv, 1) := by decide +kernel
theorem d_Ke_fillByte_8 : decode prog_2_method_11_code 8 = .ok (.dup2, 1) := by decide +kernel
theorem d_Ke_fillByte_9 : decode prog_2_method_11_code 9 = .ok (.laload, 1) := by decide +kernel
theorem d_Ke_fillByte_10 : decode prog_2_method_11_code 10 = .ok (.iload_n 2, 1) := by decide +kernel
theorem d_Ke_fillByte_11 : decode prog_2_method_11_code 11 = .ok (.i2l, 1) := by decide +kernel
theorem d_Ke_fillByte_12 : decode prog_2_method_11_code 12 = .ok (.iload_n 1, 1) := by decide +kernel
theorem d_Ke_fillByte_13 : decode prog_2_method_11_code 13 = .ok (.invokestatic 48, 3) := by decide +kernel
theorem d_Ke_fillByte_16 : decode prog_2_method_11_code 16 = .ok (.lshl, 1) := by decide +kernel
theorem d_Ke_fillByte_17 : decode prog_2_method_11_code 17 = .ok (.lor, 1) := by decide +kernel
theorem d_Ke_fillByte_18 : decode prog_2_method_11_code 18 = .ok (.lastore, 1) := by decide +kernel
theorem d_Ke_fillByte_19 : decode prog_2_method_11_code 19 = .ok (.return_, 1) := by decide +kernel
theorem d_St_take_0 : decode prog_1_method_7_code 0 = .ok (.aload_n 0, 1) := by decide +kernel
theorem d_St_take_1 : decode prog_1_method_7_code 1 = .ok (.getfield 59, 3) := by decide +kernel
theorem d_St_take_4 : decode prog_1_method_7_code 4 = .ok (.ifCond .ne 13, 3) := by decide +kernel
theorem d_St_take_7 : decode prog_1_method_7_code 7 = .ok (.new 101, 3) := by decide +kernel
theorem d_St_take_10 : decode prog_1_method_7_code 10 = .ok (.dup, 1) := by decide +kernel
theorem d_St_take_11 : decode prog_1_method_7_code 11 = .ok (.ldc 103, 2) := by decide +kernel
theorem d_St_take_13 : decode prog_1_method_7_code 13 = .ok (.invokespecial 105, 3) := by decide +kernel
theorem d_St_take_16 : decode prog_1_method_7_code 16 = .ok (.athrow, 1) := by decide +kernel
theorem d_St_take_17 : decode prog_1_method_7_code 17 = .ok (.aload_n 0, 1) := by decide +kernel
theorem d_St_take_18 : decode prog_1_method_7_code 18 = .ok (.getfield 24, 3) := by decide +kernel
theorem d_St_take_21 : decode prog_1_method_7_code 21 = .ok (.aload_n 0, 1) := by decide +kernel
theorem d_St_take_22 : decode prog_1_method_7_code 22 = .ok (.getfield 31, 3) := by decide +kernel
theorem d_St_take_25 : decode prog_1_method_7_code 25 = .ok (.invokevirtual 97, 3) := by decide +kernel
theorem d_St_take_28 : decode prog_1_method_7_code 28 = .ok (.return_, 1) := by decide +kernel
theorem d_St_put_0 : decode prog_1_method_8_code 0 = .ok (.aload_n 0, 1) := by decide +kernel
theorem d_St_put_1 : decode prog_1_method_8_code 1 = .ok (.getfield 44, 3) := by decide +kernel
theorem d_St_put_4 : decode prog_1_method_8_code 4 = .ok (.aload_n 0, 1) := by decide +kernel
theorem d_St_put_5 : decode prog_1_method_8_code 5 = .ok (.getfield 24, 3) := by decide +kernel
theorem d_St_put_8 : decode prog_1_method_8_code 8 = .ok (.invokevirtual 106, 3) := by decide +kernel
theorem d_St_put_11 : decode prog_1_method_8_code 11 = .ok (.istore_n 3, 1) := by decide +kernel
theorem d_St_put_12 : decode prog_1_method_8_code 12 = .ok (.aload_n 0, 1) := by decide +kernel
theorem d_St_put_13 : decode prog_1_method_8_code 13 = .ok (.getfield 44, 3) := by decide +kernel
theorem d_St_put_16 : decode prog_1_method_8_code 16 = .ok (.iload_n 3, 1) := by decide +kernel
theorem d_St_put_17 : decode prog_1_method_8_code 17 = .ok (.aload_n 0, 1) := by decide +kernel
theorem d_St_put_18 : decode prog_1_method_8_code 18 = .ok (.getfield 24, 3) := by decide +kernel
theorem d_St_put_21 : decode prog_1_method_8_code 21 = .ok (.invokevirtual 110, 3) := by decide +kernel
theorem d_St_put_24 : decode prog_1_method_8_code 24 = .ok (.ifCond .eq 15, 3) := by decide +kernel
theorem d_St_put_27 : decode prog_1_method_8_code 27 = .ok (.aload_n 0, 1) := by decide +kernel
theorem d_St_put_28 : decode prog_1_method_8_code 28 = .ok (.getfield 44, 3) := by decide +kernel
theorem d_St_put_31 : decode prog_1_method_8_code 31 = .ok (.getfield 114, 3) := by decide +kernel
theorem d_St_put_34 : decode prog_1_method_8_code 34 = .ok (.iload_n 3, 1) := by decide +kernel
theorem d_St_put_35 : decode prog_1_method_8_code 35 = .ok (.lload_n 1, 1) := by decide +kernel
theorem d_St_put_36 : decode prog_1_method_8_code 36 = .ok (.lastore, 1) := by decide +kernel
theorem d_St_put_37 : decode prog_1_method_8_code 37 = .ok (.iconst 0, 1) := by decide +kernel
theorem d_St_put_38 : decode prog_1_method_8_code 38 = .ok (.ireturn, 1) := by decide +kernel
theorem d_St_put_39 : decode prog_1_method_8_code 39 = .ok (.aload_n 0, 1) := by decide +kernel
theorem d_St_put_40 : decode prog_1_method_8_code 40 = .ok (.getfield 44, 3) := by decide +kernel
theorem d_St_put_43 : decode prog_1_method_8_code 43 = .ok (.getfield 117, 3) := by decide +kernel
theorem d_St_put_46 : decode prog_1_method_8_code 46 = .ok (.sipush 1500, 3) := by decide +kernel
theorem d_St_put_49 : decode prog_1_method_8_code 49 = .ok (.if_icmp .lt 13, 3) := by decide +kernel
theorem d_St_put_52 : decode prog_1_method_8_code 52 = .ok (.new 86, 3) := by decide +kernel
theorem d_St_put_55 : decode prog_1_method_8_code 55 = .ok (.dup, 1) := by decide +kernel
theorem d_St_put_56 : decode prog_1_method_8_code 56 = .ok (.ldc 120, 2) := by decide +kernel
theorem d_St_put_58 : decode prog_1_method_8_code 58 = .ok (.invokespecial 90, 3) := by decide +kernel
theorem d_St_put_61 : decode prog_1_method_8_code 61 = .ok (.athrow, 1) := by decide +kernel
theorem d_St_put_62 : decode prog_1_method_8_code 62 = .ok (.aload_n 0, 1) := by decide +kernel
theorem d_St_put_63 : decode prog_1_method_8_code 63 = .ok (.getfield 44, 3) := by decide +kernel
theorem d_St_put_66 : decode prog_1_method_8_code 66 = .ok (.iload_n 3, 1) := by decide +kernel
theorem d_St_put_67 : decode prog_1_method_8_code 67 = .ok (.aload_n 0, 1) := by decide +kernel
theorem d_St_put_68 : decode prog_1_method_8_code 68 = .ok (.getfield 24, 3) := by decide +kernel
theorem d_St_put_71 : decode prog_1_method_8_code 71 = .ok (.lload_n 1, 1) := by decide +kernel
theorem d_St_put_72 : decode prog_1_method_8_code 72 = .ok (.invokevirtual 122, 3) := by decide +kernel
theorem d_St_put_75 : decode prog_1_method_8_code 75 = .ok (.iconst 1, 1) := by decide +kernel
theorem d_St_put_76 : decode prog_1_method_8_code 76 = .ok (.ireturn, 1) := by decide +kernel
theorem d_Ta_insert_0 : decode prog_4_method_5_code 0 = .ok (.aload_n 0, 1) := by decide +kernel
theorem d_Ta_insert_1 : decode prog_4_method_5_code 1 = .ok (.invokevirtual 48, 3) := by decide +kernel
theorem d_Ta_insert_4 : decode prog_4_method_5_code 4 = .ok (.aload_n 0, 1) := by decide +kernel
theorem d_Ta_insert_5 : decode prog_4_method_5_code 5 = .ok (.getfield 22, 3) := by decide +kernel
theorem d_Ta_insert_8 : decode prog_4_method_5_code 8 = .ok (.iload_n 1, 1) := by decide +kernel
theorem d_Ta_insert_9 : decode prog_4_method_5_code 9 = .ok (.isub, 1) := by decide +kernel
theorem d_Ta_insert_10 : decode prog_4_method_5_code 10 = .ok (.istore 5, 2) := by decide +kernel
theorem d_Ta_insert_12 : decode prog_4_method_5_code 12 = .ok (.aload_n 0, 1) := by decide +kernel
theorem d_Ta_insert_13 : decode prog_4_method_5_code 13 = .ok (.getfield 15, 3) := by decide +kernel
theorem d_Ta_insert_16 : decode prog_4_method_5_code 16 = .ok (.iload_n 1, 1) := by decide +kernel
theorem d_Ta_insert_17 : decode prog_4_method_5_code 17 = .ok (.aload_n 0, 1) := by decide +kernel
theorem d_Ta_insert_18 : decode prog_4_method_5_code 18 = .ok (.getfield 9, 3) := by decide +kernel
theorem d_Ta_insert_21 : decode prog_4_method_5_code 21 = .ok (.imul, 1) := by decide +kernel
theorem d_Ta_insert_22 : decode prog_4_method_5_code 22 = .ok (.aload_n 0, 1) := by decide +kernel
theorem d_Ta_insert_23 : decode prog_4_method_5_code 23 = .ok (.getfield 15, 3) := by decide +kernel
theorem d_Ta_insert_26 : decode prog_4_method_5_code 26 = .ok (.iload_n 1, 1) := by decide +kernel
theorem d_Ta_insert_27 : decode prog_4_method_5_code 27 = .ok (.iconst 1, 1) := by decide +kernel
theorem d_Ta_insert_28 : decode prog_4_method_5_code 28 = .ok (.iadd, 1) := by decide +kernel
theorem d_Ta_insert_29 : decode prog_4_method_5_code 29 = .ok (.aload_n 0, 1) := by decide +kernel
theorem d_Ta_insert_30 : decode prog_4_method_5_code 30 = .ok (.getfield 9, 3) := by decide +kernel
theorem d_Ta_insert_33 : decode prog_4_method_5_code 33 = .ok (.imul, 1) := by decide +kernel
theorem d_Ta_insert_34 : decode prog_4_method_5_code 34 = .ok (.iload 5, 2) := by decide +kernel
theorem d_Ta_insert_36 : decode prog_4_method_5_code 36 = .ok (.aload_n 0, 1) := by decide +kernel
theorem d_Ta_insert_37 : decode prog_4_method_5_code 37 = .ok (.getfield 9, 3) := by decide +kernel
theorem d_Ta_insert_40 : decode prog_4_method_5_code 40 = .ok (.imul, 1) := by decide +kernel
theorem d_Ta_insert_41 : decode prog_4_method_5_code 41 = .ok (.invokestatic 51, 3) := by decide +kernel
theorem d_Ta_insert_44 : decode prog_4_method_5_code 44 = .ok (.aload_n 0, 1) := by decide +kernel
theorem d_Ta_insert_45 : decode prog_4_method_5_code 45 = .ok (.getfield 19, 3) := by decide +kernel
theorem d_Ta_insert_48 : decode prog_4_method_5_code 48 = .ok (.iload_n 1, 1) := by decide +kernel
theorem d_Ta_insert_49 : decode prog_4_method_5_code 49 = .ok (.aload_n 0, 1) := by decide +kernel
theorem d_Ta_insert_50 : decode prog_4_method_5_code 50 = .ok (.getfield 19, 3) := by decide +kernel
theorem d_Ta_insert_53 : decode prog_4_method_5_code 53 = .ok (.iload_n 1, 1) := by decide +kernel
theorem d_Ta_insert_54 : decode prog_4_method_5_code 54 = .ok (.iconst 1, 1) := by decide +kernel
theorem d_Ta_insert_55 : decode prog_4_method_5_code 55 = .ok (.iadd, 1) := by decide +kernel
theorem d_Ta_insert_56 : decode prog_4_method_5_code 56 = .ok (.iload 5, 2) := by decide +kernel
theorem d_Ta_insert_58 : decode prog_4_method_5_code 58 = .ok (.invokestatic 51, 3) := by decide +kernel
theorem d_Ta_insert_61 : decode prog_4_method_5_code 61 = .ok (.aload_n 2, 1) := by decide +kernel
theorem d_Ta_insert_62 : decode prog_4_method_5_code 62 = .ok (.getfield 57, 3) := by decide +kernel
theorem d_Ta_insert_65 : decode prog_4_method_5_code 65 = .ok (.iconst 0, 1) := by decide +kernel
theorem d_Ta_insert_66 : decode prog_4_method_5_code 66 = .ok (.aload_n 0, 1) := by decide +kernel
theorem d_Ta_insert_67 : decode prog_4_method_5_code 67 = .ok (.getfield 15, 3) := by decide +kernel
theorem d_Ta_insert_70 : decode prog_4_method_5_code 70 = .ok (.iload_n 1, 1) := by decide +kernel
theorem d_Ta_insert_71 : decode prog_4_method_5_code 71 = .ok (.aload_n 0, 1) := by decide +kernel
theorem d_Ta_insert_72 : decode prog_4_method_5_code 72 = .ok (.getfield 9, 3) := by decide +kernel
theorem d_Ta_insert_75 : decode prog_4_method_5_code 75 = .ok (.imul, 1) := by decide +kernel
theorem d_Ta_insert_76 : decode prog_4_method_5_code 76 = .ok (.aload_n 0, 1) := by decide +kernel
theorem d_Ta_insert_77 : decode prog_4_method_5_code 77 = .ok (.getfield 9, 3) := by decide +kernel
theorem d_Ta_insert_80 : decode prog_4_method_5_code 80 = .ok (.invokestatic 51, 3) := by decide +kernel
theorem d_Ta_insert_83 : decode prog_4_method_5_code 83 = .ok (.aload_n 0, 1) := by decide +kernel
theorem d_Ta_insert_84 : decode prog_4_method_5_code 84 = .ok (.getfield 19, 3) := by decide +kernel
theorem d_Ta_insert_87 : decode prog_4_method_5_code 87 = .ok (.iload_n 1, 1) := by decide +kernel
theorem d_Ta_insert_88 : decode prog_4_method_5_code 88 = .ok (.lload_n 3, 1) := by decide +kernel
theorem d_Ta_insert_89 : decode prog_4_method_5_code 89 = .ok (.lastore, 1) := by decide +kernel
theorem d_Ta_insert_90 : decode prog_4_method_5_code 90 = .ok (.aload_n 0, 1) := by decide +kernel
theorem d_Ta_insert_91 : decode prog_4_method_5_code 91 = .ok (.dup, 1) := by decide +kernel
theorem d_Ta_insert_92 : decode prog_4_method_5_code 92 = .ok (.getfield 22, 3) := by decide +kernel
theorem d_Ta_insert_95 : decode prog_4_method_5_code 95 = .ok (.iconst 1, 1) := by decide +kernel
theorem d_Ta_insert_96 : decode prog_4_method_5_code 96 = .ok (.iadd, 1) := by decide +kernel
theorem d_Ta_insert_97 : decode prog_4_method_5_code 97 = .ok (.putfield 22, 3) := by decide +kernel
theorem d_Ta_insert_100 : decode prog_4_method_5_code 100 = .ok (.aload_n 0, 1) := by decide +kernel
theorem d_Ta_insert_101 : decode prog_4_method_5_code 101 = .ok (.iconst 1, 1) := by decide +kernel
theorem d_Ta_insert_102 : decode prog_4_method_5_code 102 = .ok (.putfield 25, 3) := by decide +kernel
theorem d_Ta_insert_105 : decode prog_4_method_5_code 105 = .ok (.return_, 1) := by decide +kernel
theorem d_Ta_growIfFull_0 : decode prog_4_method_14_code 0 = .ok (.aload_n 0, 1) := by decide +kernel
theorem d_Ta_growIfFull_1 : decode prog_4_method_14_code 1 = .ok (.getfield 22, 3) := by decide +kernel
theorem d_Ta_growIfFull_4 : decode prog_4_method_14_code 4 = .ok (.aload_n 0, 1) := by decide +kernel
theorem d_Ta_growIfFull_5 : decode prog_4_method_14_code 5 = .ok (.getfield 19, 3) := by decide +kernel
theorem d_Ta_growIfFull_8 : decode prog_4_method_14_code 8 = .ok (.arraylength, 1) := by decide +kernel
theorem d_Ta_growIfFull_9 : decode prog_4_method_14_code 9 = .ok (.if_icmp .ne 39, 3) := by decide +kernel
theorem d_Ta_growIfFull_12 : decode prog_4_method_14_code 12 = .ok (.aload_n 0, 1) := by decide +kernel
theorem d_Ta_growIfFull_13 : decode prog_4_method_14_code 13 = .ok (.aload_n 0, 1) := by decide +kernel
theorem d_Ta_growIfFull_14 : decode prog_4_method_14_code 14 = .ok (.getfield 15, 3) := by decide +kernel
theorem d_Ta_growIfFull_17 : decode prog_4_method_14_code 17 = .ok (.iconst 2, 1) := by decide +kernel
theorem d_Ta_growIfFull_18 : decode prog_4_method_14_code 18 = .ok (.aload_n 0, 1) := by decide +kernel
theorem d_Ta_growIfFull_19 : decode prog_4_method_14_code 19 = .ok (.getfield 15, 3) := by decide +kernel
theorem d_Ta_growIfFull_22 : decode prog_4_method_14_code 22 = .ok (.arraylength, 1) := by decide +kernel
theorem d_Ta_growIfFull_23 : decode prog_4_method_14_code 23 = .ok (.imul, 1) := by decide +kernel
theorem d_Ta_growIfFull_24 : decode prog_4_method_14_code 24 = .ok (.invokestatic 72, 3) := by decide +kernel
theorem d_Ta_growIfFull_27 : decode prog_4_method_14_code 27 = .ok (.putfield 15, 3) := by decide +kernel
theorem d_Ta_growIfFull_30 : decode prog_4_method_14_code 30 = .ok (.aload_n 0, 1) := by decide +kernel
theorem d_Ta_growIfFull_31 : decode prog_4_method_14_code 31 = .ok (.aload_n 0, 1) := by decide +kernel
theorem d_Ta_growIfFull_32 : decode prog_4_method_14_code 32 = .ok (.getfield 19, 3) := by decide +kernel
theorem d_Ta_growIfFull_35 : decode prog_4_method_14_code 35 = .ok (.iconst 2, 1) := by decide +kernel
theorem d_Ta_growIfFull_36 : decode prog_4_method_14_code 36 = .ok (.aload_n 0, 1) := by decide +kernel
theorem d_Ta_growIfFull_37 : decode prog_4_method_14_code 37 = .ok (.getfield 19, 3) := by decide +kernel
theorem d_Ta_growIfFull_40 : decode prog_4_method_14_code 40 = .ok (.arraylength, 1) := by decide +kernel
theorem d_Ta_growIfFull_41 : decode prog_4_method_14_code 41 = .ok (.imul, 1) := by decide +kernel
theorem d_Ta_growIfFull_42 : decode prog_4_method_14_code 42 = .ok (.invokestatic 72, 3) := by decide +kernel
theorem d_Ta_growIfFull_45 : decode prog_4_method_14_code 45 = .ok (.putfield 19, 3) := by decide +kernel
theorem d_Ta_growIfFull_48 : decode prog_4_method_14_code 48 = .ok (.return_, 1) := by decide +kernel
theorem d_Ar_copyOfJ_0 : decode prog_19_method_124_code 0 = .ok (.iload_n 1, 1) := by decide +kernel
theorem d_Ar_copyOfJ_1 : decode prog_19_method_124_code 1 = .ok (.aload_n 0, 1) := by decide +kernel
theorem d_Ar_copyOfJ_2 : decode prog_19_method_124_code 2 = .ok (.arraylength, 1) := by decide +kernel
theorem d_Ar_copyOfJ_3 : decode prog_19_method_124_code 3 = .ok (.if_icmp .ne 11, 3) := by decide +kernel
theorem d_Ar_copyOfJ_6 : decode prog_19_method_124_code 6 = .ok (.aload_n 0, 1) := by decide +kernel
theorem d_Ar_copyOfJ_7 : decode prog_19_method_124_code 7 = .ok (.invokevirtual 319, 3) := by decide +kernel
theorem d_Ar_copyOfJ_10 : decode prog_19_method_124_code 10 = .ok (.checkcast 320, 3) := by decide +kernel
theorem d_Ar_copyOfJ_13 : decode prog_19_method_124_code 13 = .ok (.areturn, 1) := by decide +kernel
theorem d_Ar_copyOfJ_14 : decode prog_19_method_124_code 14 = .ok (.iload_n 1, 1) := by decide +kernel
theorem d_Ar_copyOfJ_15 : decode prog_19_method_124_code 15 = .ok (.newarray .long, 2) := by decide +kernel
theorem d_Ar_copyOfJ_17 : decode prog_19_method_124_code 17 = .ok (.astore_n 2, 1) := by decide +kernel
theorem d_Ar_copyOfJ_18 : decode prog_19_method_124_code 18 = .ok (.aload_n 0, 1) := by decide +kernel
theorem d_Ar_copyOfJ_19 : decode prog_19_method_124_code 19 = .ok (.iconst 0, 1) := by decide +kernel
theorem d_Ar_copyOfJ_20 : decode prog_19_method_124_code 20 = .ok (.aload_n 2, 1) := by decide +kernel
theorem d_Ar_copyOfJ_21 : decode prog_19_method_124_code 21 = .ok (.iconst 0, 1) := by decide +kernel
theorem d_Ar_copyOfJ_22 : decode prog_19_method_124_code 22 = .ok (.aload_n 0, 1) := by decide +kernel
theorem d_Ar_copyOfJ_23 : decode prog_19_method_124_code 23 = .ok (.arraylength, 1) := by decide +kernel
theorem d_Ar_copyOfJ_24 : decode prog_19_method_124_code 24 = .ok (.iload_n 1, 1) := by decide +kernel
theorem d_Ar_copyOfJ_25 : decode prog_19_method_124_code 25 = .ok (.invokestatic 304, 3) := by decide +kernel
theorem d_Ar_copyOfJ_28 : decode prog_19_method_124_code 28 = .ok (.invokestatic 150, 3) := by decide +kernel
theorem d_Ar_copyOfJ_31 : decode prog_19_method_124_code 31 = .ok (.aload_n 2, 1) := by decide +kernel
theorem d_Ar_copyOfJ_32 : decode prog_19_method_124_code 32 = .ok (.areturn, 1) := by decide +kernel
theorem d_Ma_min_0 : decode prog_13_method_69_code 0 = .ok (.iload_n 0, 1) := by decide +kernel
theorem d_Ma_min_1 : decode prog_13_method_69_code 1 = .ok (.iload_n 1, 1) := by decide +kernel
theorem d_Ma_min_2 : decode prog_13_method_69_code 2 = .ok (.if_icmp .gt 7, 3) := by decide +kernel
theorem d_Ma_min_5 : decode prog_13_method_69_code 5 = .ok (.iload_n 0, 1) := by decide +kernel
theorem d_Ma_min_6 : decode prog_13_method_69_code 6 = .ok (.goto 4, 3) := by decide +kernel
theorem d_Ma_min_9 : decode prog_13_method_69_code 9 = .ok (.iload_n 1, 1) := by decide +kernel
theorem d_Ma_min_10 : decode prog_13_method_69_code 10 = .ok (.ireturn, 1) := by decide +kernel
theorem d_St_get_0 : decode prog_1_method_9_code 0 = .ok (.aload_n 0, 1) := by decide +kernel
theorem d_St_get_1 : decode prog_1_method_9_code 1 = .ok (.getfield 44, 3) := by decide +kernel
theorem d_St_get_4 : decode prog_1_method_9_code 4 = .ok (.aload_n 0, 1) := by decide +kernel
theorem d_St_get_5 : decode prog_1_method_9_code 5 = .ok (.getfield 24, 3) := by decide +kernel
theorem d_St_get_8 : decode prog_1_method_9_code 8 = .ok (.invokevirtual 106, 3) := by decide +kernel
theorem d_St_get_11 : decode prog_1_method_9_code 11 = .ok (.istore_n 1, 1) := by decide +kernel
theorem d_St_get_12 : decode prog_1_method_9_code 12 = .ok (.aload_n 0, 1) := by decide +kernel
theorem d_St_get_13 : decode prog_1_method_9_code 13 = .ok (.getfield 44, 3) := by decide +kernel
theorem d_St_get_16 : decode prog_1_method_9_code 16 = .ok (.iload_n 1, 1) := by decide +kernel
theorem d_St_get_17 : decode prog_1_method_9_code 17 = .ok (.aload_n 0, 1) := by decide +kernel
theorem d_St_get_18 : decode prog_1_method_9_code 18 = .ok (.getfield 24, 3) := by decide +kernel
theorem d_St_get_21 : decode prog_1_method_9_code 21 = .ok (.invokevirtual 110, 3) := by decide +kernel
theorem d_St_get_24 : decode prog_1_method_9_code 24 = .ok (.ifCond .ne 13, 3) := by decide +kernel
theorem d_St_get_27 : decode prog_1_method_9_code 27 = .ok (.new 101, 3) := by decide +kernel
theorem d_St_get_30 : decode prog_1_method_9_code 30 = .ok (.dup, 1) := by decide +kernel
theorem d_St_get_31 : decode prog_1_method_9_code 31 = .ok (.ldc 126, 2) := by decide +kernel
theorem d_St_get_33 : decode prog_1_method_9_code 33 = .ok (.invokespecial 105, 3) := by decide +kernel
theorem d_St_get_36 : decode prog_1_method_9_code 36 = .ok (.athrow, 1) := by decide +kernel
theorem d_St_get_37 : decode prog_1_method_9_code 37 = .ok (.aload_n 0, 1) := by decide +kernel
theorem d_St_get_38 : decode prog_1_method_9_code 38 = .ok (.getfield 44, 3) := by decide +kernel
theorem d_St_get_41 : decode prog_1_method_9_code 41 = .ok (.getfield 114, 3) := by decide +kernel
theorem d_St_get_44 : decode prog_1_method_9_code 44 = .ok (.iload_n 1, 1) := by decide +kernel
theorem d_St_get_45 : decode prog_1_method_9_code 45 = .ok (.laload, 1) := by decide +kernel
theorem d_St_get_46 : decode prog_1_method_9_code 46 = .ok (.lreturn, 1) := by decide +kernel
theorem d_St_remove_0 : decode prog_1_method_10_code 0 = .ok (.aload_n 0, 1) := by decide +kernel
theorem d_St_remove_1 : decode prog_1_method_10_code 1 = .ok (.getfield 44, 3) := by decide +kernel
theorem d_St_remove_4 : decode prog_1_method_10_code 4 = .ok (.aload_n 0, 1) := by decide +kernel
theorem d_St_remove_5 : decode prog_1_method_10_code 5 = .ok (.getfield 24, 3) := by decide +kernel
theorem d_St_remove_8 : decode prog_1_method_10_code 8 = .ok (.invokevirtual 106, 3) := by decide +kernel
theorem d_St_remove_11 : decode prog_1_method_10_code 11 = .ok (.istore_n 1, 1) := by decide +kernel
theorem d_St_remove_12 : decode prog_1_method_10_code 12 = .ok (.aload_n 0, 1) := by decide +kernel
theorem d_St_remove_13 : decode prog_1_method_10_code 13 = .ok (.getfield 44, 3) := by decide +kernel
theorem d_St_remove_16 : decode prog_1_method_10_code 16 = .ok (.iload_n 1, 1) := by decide +kernel
theorem d_St_remove_17 : decode prog_1_method_10_code 17 = .ok (.aload_n 0, 1) := by decide +kernel
theorem d_St_remove_18 : decode prog_1_method_10_code 18 = .ok (.getfield 24, 3) := by decide +kernel
theorem d_St_remove_21 : decode prog_1_method_10_code 21 = .ok (.invokevirtual 110, 3) := by decide +kernel
theorem d_St_remove_24 : decode prog_1_method_10_code 24 = .ok (.ifCond .ne 13, 3) := by decide +kernel
theorem d_St_remove_27 : decode prog_1_method_10_code 27 = .ok (.new 101, 3) := by decide +kernel
theorem d_St_remove_30 : decode prog_1_method_10_code 30 = .ok (.dup, 1) := by decide +kernel
theorem d_St_remove_31 : decode prog_1_method_10_code 31 = .ok (.ldc 126, 2) := by decide +kernel
theorem d_St_remove_33 : decode prog_1_method_10_code 33 = .ok (.invokespecial 105, 3) := by decide +kernel
theorem d_St_remove_36 : decode prog_1_method_10_code 36 = .ok (.athrow, 1) := by decide +kernel
theorem d_St_remove_37 : decode prog_1_method_10_code 37 = .ok (.aload_n 0, 1) := by decide +kernel
theorem d_St_remove_38 : decode prog_1_method_10_code 38 = .ok (.getfield 44, 3) := by decide +kernel
theorem d_St_remove_41 : decode prog_1_method_10_code 41 = .ok (.getfield 114, 3) := by decide +kernel
theorem d_St_remove_44 : decode prog_1_method_10_code 44 = .ok (.iload_n 1, 1) := by decide +kernel
theorem d_St_remove_45 : decode prog_1_method_10_code 45 = .ok (.laload, 1) := by decide +kernel
theorem d_St_remove_46 : decode prog_1_method_10_code 46 = .ok (.lstore_n 2, 1) := by decide +kernel
theorem d_St_remove_47 : decode prog_1_method_10_code 47 = .ok (.aload_n 0, 1) := by decide +kernel
theorem d_St_remove_48 : decode prog_1_method_10_code 48 = .ok (.getfield 44, 3) := by decide +kernel
theorem d_St_remove_51 : decode prog_1_method_10_code 51 = .ok (.iload_n 1, 1) := by decide +kernel
theorem d_St_remove_52 : decode prog_1_method_10_code 52 = .ok (.iload_n 1, 1) := by decide +kernel
theorem d_St_remove_53 : decode prog_1_method_10_code 53 = .ok (.iconst 1, 1) := by decide +kernel
theorem d_St_remove_54 : decode prog_1_method_10_code 54 = .ok (.iadd, 1) := by decide +kernel
theorem d_St_remove_55 : decode prog_1_method_10_code 55 = .ok (.invokevirtual 128, 3) := by decide +kernel
theorem d_St_remove_58 : decode prog_1_method_10_code 58 = .ok (.lload_n 2, 1) := by decide +kernel
theorem d_St_remove_59 : decode prog_1_method_10_code 59 = .ok (.lreturn, 1) := by decide +kernel
theorem d_St_seek_0 : decode prog_1_method_11_code 0 = .ok (.iload_n 1, 1) := by decide +kernel
theorem d_St_seek_1 : decode prog_1_method_11_code 1 = .ok (.tableswitch 127 0 5 #[39, 57, 73, 91, 107, 113], 39) := by decide +kernel
theorem d_St_seek_40 : decode prog_1_method_11_code 40 = .ok (.aload_n 0, 1) := by decide +kernel
theorem d_St_seek_41 : decode prog_1_method_11_code 41 = .ok (.aload_n 0, 1) := by decide +kernel
theorem d_St_seek_42 : decode prog_1_method_11_code 42 = .ok (.getfield 44, 3) := by decide +kernel
theorem d_St_seek_45 : decode prog_1_method_11_code 45 = .ok (.aload_n 0, 1) := by decide +kernel
theorem d_St_seek_46 : decode prog_1_method_11_code 46 = .ok (.getfield 24, 3) := by decide +kernel
theorem d_St_seek_49 : decode prog_1_method_11_code 49 = .ok (.invokevirtual 132, 3) := by decide +kernel
theorem d_St_seek_52 : decode prog_1_method_11_code 52 = .ok (.iconst 1, 1) := by decide +kernel
theorem d_St_seek_53 : decode prog_1_method_11_code 53 = .ok (.isub, 1) := by decide +kernel
theorem d_St_seek_54 : decode prog_1_method_11_code 54 = .ok (.invokevirtual 135, 3) := by decide +kernel
theorem d_St_seek_57 : decode prog_1_method_11_code 57 = .ok (.ireturn, 1) := by decide +kernel
theorem d_St_seek_58 : decode prog_1_method_11_code 58 = .ok (.aload_n 0, 1) := by decide +kernel
theorem d_St_seek_59 : decode prog_1_method_11_code 59 = .ok (.aload_n 0, 1) := by decide +kernel
theorem d_St_seek_60 : decode prog_1_method_11_code 60 = .ok (.getfield 44, 3) := by decide +kernel
theorem d_St_seek_63 : decode prog_1_method_11_code 63 = .ok (.aload_n 0, 1) := by decide +kernel
theorem d_St_seek_64 : decode prog_1_method_11_code 64 = .ok (.getfield 24, 3) := by decide +kernel
theorem d_St_seek_67 : decode prog_1_method_11_code 67 = .ok (.invokevirtual 106, 3) := by decide +kernel
theorem d_St_seek_70 : decode prog_1_method_11_code 70 = .ok (.invokevirtual 135, 3) := by decide +kernel
theorem d_St_seek_73 : decode prog_1_method_11_code 73 = .ok (.ireturn, 1) := by decide +kernel
theorem d_St_seek_74 : decode prog_1_method_11_code 74 = .ok (.aload_n 0, 1) := by decide +kernel
theorem d_St_seek_75 : decode prog_1_method_11_code 75 = .ok (.aload_n 0, 1) := by decide +kernel
theorem d_St_seek_76 : decode prog_1_method_11_code 76 = .ok (.getfield 44, 3) := by decide +kernel
theorem d_St_seek_79 : decode prog_1_method_11_code 79 = .ok (.aload_n 0, 1) := by decide +kernel
theorem d_St_seek_80 : decode prog_1_method_11_code 80 = .ok (.getfield 24, 3) := by decide +kernel
theorem d_St_seek_83 : decode prog_1_method_11_code 83 = .ok (.invokevirtual 106, 3) := by decide +kernel
theorem d_St_seek_86 : decode prog_1_method_11_code 86 = .ok (.iconst 1, 1) := by decide +kernel
theorem d_St_seek_87 : decode prog_1_method_11_code 87 = .ok (.isub, 1) := by decide +kernel
theorem d_St_seek_88 : decode prog_1_method_11_code 88 = .ok (.invokevirtual 135, 3) := by decide +kernel
theorem d_St_seek_91 : decode prog_1_method_11_code 91 = .ok (.ireturn, 1) := by decide +kernel
theorem d_St_seek_92 : decode prog_1_method_11_code 92 = .ok (.aload_n 0, 1) := by decide +kernel
theorem d_St_seek_93 : decode prog_1_method_11_code 93 = .ok (.aload_n 0, 1) := by decide +kernel
theorem d_St_seek_94 : decode prog_1_method_11_code 94 = .ok (.getfield 44, 3) := by decide +kernel
theorem d_St_seek_97 : decode prog_1_method_11_code 97 = .ok (.aload_n 0, 1) := by decide +kernel
theorem d_St_seek_98 : decode prog_1_method_11_code 98 = .ok (.getfield 24, 3) := by decide +kernel
theorem d_St_seek_101 : decode prog_1_method_11_code 101 = .ok (.invokevirtual 132, 3) := by decide +kernel
theorem d_St_seek_104 : decode prog_1_method_11_code 104 = .ok (.invokevirtual 135, 3) := by decide +kernel
theorem d_St_seek_107 : decode prog_1_method_11_code 107 = .ok (.ireturn, 1) := by decide +kernel
theorem d_St_seek_108 : decode prog_1_method_11_code 108 = .ok (.aload_n 0, 1) := by decide +kernel
theorem d_St_seek_109 : decode prog_1_method_11_code 109 = .ok (.iconst 0, 1) := by decide +kernel
theorem d_St_seek_110 : decode prog_1_method_11_code 110 = .ok (.invokevirtual 135, 3) := by decide +kernel
theorem d_St_seek_113 : decode prog_1_method_11_code 113 = .ok (.ireturn, 1) := by decide +kernel
theorem d_St_seek_114 : decode prog_1_method_11_code 114 = .ok (.aload_n 0, 1) := by decide +kernel
theorem d_St_seek_115 : decode prog_1_method_11_code 115 = .ok (.aload_n 0, 1) := by decide +kernel
theorem d_St_seek_116 : decode prog_1_method_11_code 116 = .ok (.getfield 44, 3) := by decide +kernel
theorem d_St_seek_119 : decode prog_1_method_11_code 119 = .ok (.getfield 117, 3) := by decide +kernel
theorem d_St_seek_122 : decode prog_1_method_11_code 122 = .ok (.iconst 1, 1) := by decide +kernel
theorem d_St_seek_123 : decode prog_1_method_11_code 123 = .ok (.isub, 1) := by decide +kernel
theorem d_St_seek_124 : decode prog_1_method_11_code 124 = .ok (.invokevirtual 135, 3) := by decide +kernel
theorem d_St_seek_127 : decode prog_1_method_11_code 127 = .ok (.ireturn, 1) := by decide +kernel
theorem d_St_seek_128 : decode prog_1_method_11_code 128 = .ok (.new 78, 3) := by decide +kernel
theorem d_St_seek_131 : decode prog_1_method_11_code 131 = .ok (.dup, 1) := by decide +kernel
theorem d_St_seek_132 : decode prog_1_method_11_code 132 = .ok (.ldc 139, 2) := by decide +kernel
theorem d_St_seek_134 : decode prog_1_method_11_code 134 = .ok (.invokespecial 82, 3) := by decide +kernel
theorem d_St_seek_137 : decode prog_1_method_11_code 137 = .ok (.athrow, 1) := by decide +kernel
theorem d_St_bringCursorTo_0 : decode prog_1_method_26_code 0 = .ok (.iload_n 1, 1) := by decide +kernel
theorem d_St_bringCursorTo_1 : decode prog_1_method_26_code 1 = .ok (.ifCond .lt 14, 3) := by decide +kernel
theorem d_St_bringCursorTo_4 : decode prog_1_method_26_code 4 = .ok (.iload_n 1, 1) := by decide +kernel
theorem d_St_bringCursorTo_5 : decode prog_1_method_26_code 5 = .ok (.aload_n 0, 1) := by decide +kernel
theorem d_St_bringCursorTo_6 : decode prog_1_method_26_code 6 = .ok (.getfield 44, 3) := by decide +kernel
theorem d_St_bringCursorTo_9 : decode prog_1_method_26_code 9 = .ok (.getfield 117, 3) := by decide +kernel
theorem d_St_bringCursorTo_12 : decode prog_1_method_26_code 12 = .ok (.if_icmp .lt 5, 3) := by decide +kernel
theorem d_St_bringCursorTo_15 : decode prog_1_method_26_code 15 = .ok (.iconst 0, 1) := by decide +kernel
theorem d_St_bringCursorTo_16 : decode prog_1_method_26_code 16 = .ok (.ireturn, 1) := by decide +kernel
theorem d_St_bringCursorTo_17 : decode prog_1_method_26_code 17 = .ok (.aload_n 0, 1) := by decide +kernel
theorem d_St_bringCursorTo_18 : decode prog_1_method_26_code 18 = .ok (.getfield 44, 3) := by decide +kernel
theorem d_St_bringCursorTo_21 : decode prog_1_method_26_code 21 = .ok (.iload_n 1, 1) := by decide +kernel
theorem d_St_bringCursorTo_22 : decode prog_1_method_26_code 22 = .ok (.aload_n 0, 1) := by decide +kernel
theorem d_St_bringCursorTo_23 : decode prog_1_method_26_code 23 = .ok (.getfield 31, 3) := by decide +kernel
theorem d_St_bringCursorTo_26 : decode prog_1_method_26_code 26 = .ok (.invokevirtual 185, 3) := by decide +kernel
theorem d_St_bringCursorTo_29 : decode prog_1_method_26_code 29 = .ok (.aload_n 0, 1) := by decide +kernel
theorem d_St_bringCursorTo_30 : decode prog_1_method_26_code 30 = .ok (.iconst 1, 1) := by decide +kernel
theorem d_St_bringCursorTo_31 : decode prog_1_method_26_code 31 = .ok (.putfield 59, 3) := by decide +kernel
theorem d_St_bringCursorTo_34 : decode prog_1_method_26_code 34 = .ok (.iconst 1, 1) := by decide +kernel
theorem d_St_bringCursorTo_35 : decode prog_1_method_26_code 35 = .ok (.ireturn, 1) := by decide +kernel
theorem d_St_move_0 : decode prog_1_method_12_code 0 = .ok (.aload_n 0, 1) := by decide +kernel
theorem d_St_move_1 : decode prog_1_method_12_code 1 = .ok (.getfield 59, 3) := by decide +kernel
theorem d_St_move_4 : decode prog_1_method_12_code 4 = .ok (.ifCond .ne 13, 3) := by decide +kernel
theorem d_St_move_7 : decode prog_1_method_12_code 7 = .ok (.new 101, 3) := by decide +kernel
theorem d_St_move_10 : decode prog_1_method_12_code 10 = .ok (.dup, 1) := by decide +kernel
theorem d_St_move_11 : decode prog_1_method_12_code 11 = .ok (.ldc 103, 2) := by decide +kernel
theorem d_St_move_13 : decode prog_1_method_12_code 13 = .ok (.invokespecial 105, 3) := by decide +kernel
theorem d_St_move_16 : decode prog_1_method_12_code 16 = .ok (.athrow, 1) := by decide +kernel
theorem d_St_move_17 : decode prog_1_method_12_code 17 = .ok (.aload_n 0, 1) := by decide +kernel
theorem d_St_move_18 : decode prog_1_method_12_code 18 = .ok (.iload_n 1, 1) := by decide +kernel
theorem d_St_move_19 : decode prog_1_method_12_code 19 = .ok (.ifCond .eq 17, 3) := by decide +kernel
theorem d_St_move_22 : decode prog_1_method_12_code 22 = .ok (.aload_n 0, 1) := by decide +kernel
theorem d_St_move_23 : decode prog_1_method_12_code 23 = .ok (.getfield 44, 3) := by decide +kernel
theorem d_St_move_26 : decode prog_1_method_12_code 26 = .ok (.aload_n 0, 1) := by decide +kernel
theorem d_St_move_27 : decode prog_1_method_12_code 27 = .ok (.getfield 31, 3) := by decide +kernel
theorem d_St_move_30 : decode prog_1_method_12_code 30 = .ok (.invokevirtual 132, 3) := by decide +kernel
theorem d_St_move_33 : decode prog_1_method_12_code 33 = .ok (.goto 16, 3) := by decide +kernel
theorem d_St_move_36 : decode prog_1_method_12_code 36 = .ok (.aload_n 0, 1) := by decide +kernel
theorem d_St_move_37 : decode prog_1_method_12_code 37 = .ok (.getfield 44, 3) := by decide +kernel
theorem d_St_move_40 : decode prog_1_method_12_code 40 = .ok (.aload_n 0, 1) := by decide +kernel
theorem d_St_move_41 : decode prog_1_method_12_code 41 = .ok (.getfield 31, 3) := by decide +kernel
theorem d_St_move_44 : decode prog_1_method_12_code 44 = .ok (.invokevirtual 106, 3) := by decide +kernel
theorem d_St_move_47 : decode prog_1_method_12_code 47 = .ok (.iconst 1, 1) := by decide +kernel
theorem d_St_move_48 : decode prog_1_method_12_code 48 = .ok (.isub, 1) := by decide +kernel
theorem d_St_move_49 : decode prog_1_method_12_code 49 = .ok (.invokevirtual 135, 3) := by decide +kernel
theorem d_St_move_52 : decode prog_1_method_12_code 52 = .ok (.ireturn, 1) := by decide +kernel
theorem d_St_length_0 : decode prog_1_method_14_code 0 = .ok (.aload_n 0, 1) := by decide +kernel
theorem d_St_length_1 : decode prog_1_method_14_code 1 = .ok (.getfield 59, 3) := by decide +kernel
theorem d_St_length_4 : decode prog_1_method_14_code 4 = .ok (.ifCond .ne 13, 3) := by decide +kernel
theorem d_St_length_7 : decode prog_1_method_14_code 7 = .ok (.new 101, 3) := by decide +kernel
theorem d_St_length_10 : decode prog_1_method_14_code 10 = .ok (.dup, 1) := by decide +kernel
theorem d_St_length_11 : decode prog_1_method_14_code 11 = .ok (.ldc 103, 2) := by decide +kernel
theorem d_St_length_13 : decode prog_1_method_14_code 13 = .ok (.invokespecial 105, 3) := by decide +kernel
theorem d_St_length_16 : decode prog_1_method_14_code 16 = .ok (.athrow, 1) := by decide +kernel
theorem d_St_length_17 : decode prog_1_method_14_code 17 = .ok (.aload_n 0, 1) := by decide +kernel
theorem d_St_length_18 : decode prog_1_method_14_code 18 = .ok (.getfield 31, 3) := by decide +kernel
theorem d_St_length_21 : decode prog_1_method_14_code 21 = .ok (.invokevirtual 83, 3) := by decide +kernel
theorem d_St_length_24 : decode prog_1_method_14_code 24 = .ok (.ireturn, 1) := by decide +kernel
theorem d_St_part_0 : decode prog_1_method_15_code 0 = .ok (.aload_n 0, 1) := by decide +kernel
theorem d_St_part_1 : decode prog_1_method_15_code 1 = .ok (.getfield 59, 3) := by decide +kernel
theorem d_St_part_4 : decode prog_1_method_15_code 4 = .ok (.ifCond .ne 13, 3) := by decide +kernel
theorem d_St_part_7 : decode prog_1_method_15_code 7 = .ok (.new 101, 3) := by decide +kernel
theorem d_St_part_10 : decode prog_1_method_15_code 10 = .ok (.dup, 1) := by decide +kernel
theorem d_St_part_11 : decode prog_1_method_15_code 11 = .ok (.ldc 103, 2) := by decide +kernel
theorem d_St_part_13 : decode prog_1_method_15_code 13 = .ok (.invokespecial 105, 3) := by decide +kernel
theorem d_St_part_16 : decode prog_1_method_15_code 16 = .ok (.athrow, 1) := by decide +kernel
theorem d_St_part_17 : decode prog_1_method_15_code 17 = .ok (.iload_n 1, 1) := by decide +kernel
theorem d_St_part_18 : decode prog_1_method_15_code 18 = .ok (.ifCond .lt 14, 3) := by decide +kernel
theorem d_St_part_21 : decode prog_1_method_15_code 21 = .ok (.iload_n 1, 1) := by decide +kernel
theorem d_St_part_22 : decode prog_1_method_15_code 22 = .ok (.aload_n 0, 1) := by decide +kernel
theorem d_St_part_23 : decode prog_1_method_15_code 23 = .ok (.getfield 31, 3) := by decide +kernel
theorem d_St_part_26 : decode prog_1_method_15_code 26 = .ok (.invokevirtual 83, 3) := by decide +kernel
theorem d_St_part_29 : decode prog_1_method_15_code 29 = .ok (.if_icmp .lt 13, 3) := by decide +kernel
theorem d_St_part_32 : decode prog_1_method_15_code 32 = .ok (.new 141, 3) := by decide +kernel
theorem d_St_part_35 : decode prog_1_method_15_code 35 = .ok (.dup, 1) := by decide +kernel
theorem d_St_part_36 : decode prog_1_method_15_code 36 = .ok (.ldc 143, 2) := by decide +kernel
theorem d_St_part_38 : decode prog_1_method_15_code 38 = .ok (.invokespecial 145, 3) := by decide +kernel
theorem d_St_part_41 : decode prog_1_method_15_code 41 = .ok (.athrow, 1) := by decide +kernel
theorem d_St_part_42 : decode prog_1_method_15_code 42 = .ok (.aload_n 0, 1) := by decide +kernel
theorem d_St_part_43 : decode prog_1_method_15_code 43 = .ok (.getfield 31, 3) := by decide +kernel
theorem d_St_part_46 : decode prog_1_method_15_code 46 = .ok (.iload_n 1, 1) := by decide +kernel
theorem d_St_part_47 : decode prog_1_method_15_code 47 = .ok (.invokevirtual 146, 3) := by decide +kernel
theorem d_St_part_50 : decode prog_1_method_15_code 50 = .ok (.lreturn, 1) := by decide +kernel
theorem d_Ke_partAt_0 : decode prog_2_method_7_code 0 = .ok (.aload_n 0, 1) := by decide +kernel
theorem d_Ke_partAt_1 : decode prog_2_method_7_code 1 = .ok (.getfield 9, 3) := by decide +kernel
theorem d_Ke_partAt_4 : decode prog_2_method_7_code 4 = .ok (.ifCond .ne 14, 3) := by decide +kernel
theorem d_Ke_partAt_7 : decode prog_2_method_7_code 7 = .ok (.aload_n 0, 1) := by decide +kernel
theorem d_Ke_partAt_8 : decode prog_2_method_7_code 8 = .ok (.getfield 15, 3) := by decide +kernel
theorem d_Ke_partAt_11 : decode prog_2_method_7_code 11 = .ok (.iload_n 1, 1) := by decide +kernel
theorem d_Ke_partAt_12 : decode prog_2_method_7_code 12 = .ok (.laload, 1) := by decide +kernel
theorem d_Ke_partAt_13 : decode prog_2_method_7_code 13 = .ok (.ldc2_w 22, 3) := by decide +kernel
theorem d_Ke_partAt_16 : decode prog_2_method_7_code 16 = .ok (.lxor, 1) := by decide +kernel
theorem d_Ke_partAt_17 : decode prog_2_method_7_code 17 = .ok (.lreturn, 1) := by decide +kernel
theorem d_Ke_partAt_18 : decode prog_2_method_7_code 18 = .ok (.iconst 0, 1) := by decide +kernel
theorem d_Ke_partAt_19 : decode prog_2_method_7_code 19 = .ok (.istore_n 2, 1) := by decide +kernel
theorem d_Ke_partAt_20 : decode prog_2_method_7_code 20 = .ok (.iconst 0, 1) := by decide +kernel
theorem d_Ke_partAt_21 : decode prog_2_method_7_code 21 = .ok (.istore_n 3, 1) := by decide +kernel
theorem d_Ke_partAt_22 : decode prog_2_method_7_code 22 = .ok (.iload_n 3, 1) := by decide +kernel
theorem d_Ke_partAt_23 : decode prog_2_method_7_code 23 = .ok (.iload_n 1, 1) := by decide +kernel
theorem d_Ke_partAt_24 : decode prog_2_method_7_code 24 = .ok (.if_icmp .ge 25, 3) := by decide +kernel
theorem d_Ke_partAt_27 : decode prog_2_method_7_code 27 = .ok (.iload_n 2, 1) := by decide +kernel
theorem d_Ke_partAt_28 : decode prog_2_method_7_code 28 = .ok (.aload_n 0, 1) := by decide +kernel
theorem d_Ke_partAt_29 : decode prog_2_method_7_code 29 = .ok (.iload_n 2, 1) := by decide +kernel
theorem d_Ke_partAt_30 : decode prog_2_method_7_code 30 = .ok (.invokevirtual 44, 3) := by decide +kernel
theorem d_Ke_partAt_33 : decode prog_2_method_7_code 33 = .ok (.ifCond .ne 7, 3) := by decide +kernel
theorem d_Ke_partAt_36 : decode prog_2_method_7_code 36 = .ok (.iconst 2, 1) := by decide +kernel
theorem d_Ke_partAt_37 : decode prog_2_method_7_code 37 = .ok (.goto 4, 3) := by decide +kernel
theorem d_Ke_partAt_40 : decode prog_2_method_7_code 40 = .ok (.iconst 1, 1) := by decide +kernel
theorem d_Ke_partAt_41 : decode prog_2_method_7_code 41 = .ok (.iadd, 1) := by decide +kernel
theorem d_Ke_partAt_42 : decode prog_2_method_7_code 42 = .ok (.istore_n 2, 1) := by decide +kernel
theorem d_Ke_partAt_43 : decode prog_2_method_7_code 43 = .ok (.iinc 3 1, 3) := by decide +kernel
theorem d_Ke_partAt_46 : decode prog_2_method_7_code 46 = .ok (.goto (-24), 3) := by decide +kernel
theorem d_Ke_partAt_49 : decode prog_2_method_7_code 49 = .ok (.aload_n 0, 1) := by decide +kernel
theorem d_Ke_partAt_50 : decode prog_2_method_7_code 50 = .ok (.iload_n 2, 1) := by decide +kernel
theorem d_Ke_partAt_51 : decode prog_2_method_7_code 51 = .ok (.invokevirtual 44, 3) := by decide +kernel
theorem d_Ke_partAt_54 : decode prog_2_method_7_code 54 = .ok (.i2l, 1) := by decide +kernel
theorem d_Ke_partAt_55 : decode prog_2_method_7_code 55 = .ok (.lreturn, 1) := by decide +kernel
theorem d_St_value_0 : decode prog_1_method_16_code 0 = .ok (.aload_n 0, 1) := by decide +kernel
theorem d_St_value_1 : decode prog_1_method_16_code 1 = .ok (.getfield 44, 3) := by decide +kernel
theorem d_St_value_4 : decode prog_1_method_16_code 4 = .ok (.aload_n 0, 1) := by decide +kernel
theorem d_St_value_5 : decode prog_1_method_16_code 5 = .ok (.getfield 31, 3) := by decide +kernel
theorem d_St_value_8 : decode prog_1_method_16_code 8 = .ok (.invokevirtual 106, 3) := by decide +kernel
theorem d_St_value_11 : decode prog_1_method_16_code 11 = .ok (.istore_n 1, 1) := by decide +kernel
theorem d_St_value_12 : decode prog_1_method_16_code 12 = .ok (.aload_n 0, 1) := by decide +kernel
theorem d_St_value_13 : decode prog_1_method_16_code 13 = .ok (.getfield 59, 3) := by decide +kernel
theorem d_St_value_16 : decode prog_1_method_16_code 16 = .ok (.ifCond .eq 18, 3) := by decide +kernel
theorem d_St_value_19 : decode prog_1_method_16_code 19 = .ok (.aload_n 0, 1) := by decide +kernel
theorem d_St_value_20 : decode prog_1_method_16_code 20 = .ok (.getfield 44, 3) := by decide +kernel
theorem d_St_value_23 : decode prog_1_method_16_code 23 = .ok (.iload_n 1, 1) := by decide +kernel
theorem d_St_value_24 : decode prog_1_method_16_code 24 = .ok (.aload_n 0, 1) := by decide +kernel
theorem d_St_value_25 : decode prog_1_method_16_code 25 = .ok (.getfield 31, 3) := by decide +kernel
theorem d_St_value_28 : decode prog_1_method_16_code 28 = .ok (.invokevirtual 110, 3) := by decide +kernel
theorem d_St_value_31 : decode prog_1_method_16_code 31 = .ok (.ifCond .ne 13, 3) := by decide +kernel
theorem d_St_value_34 : decode prog_1_method_16_code 34 = .ok (.new 101, 3) := by decide +kernel
theorem d_St_value_37 : decode prog_1_method_16_code 37 = .ok (.dup, 1) := by decide +kernel
theorem d_St_value_38 : decode prog_1_method_16_code 38 = .ok (.ldc 150, 2) := by decide +kernel
theorem d_St_value_40 : decode prog_1_method_16_code 40 = .ok (.invokespecial 105, 3) := by decide +kernel
theorem d_St_value_43 : decode prog_1_method_16_code 43 = .ok (.athrow, 1) := by decide +kernel
theorem d_St_value_44 : decode prog_1_method_16_code 44 = .ok (.aload_n 0, 1) := by decide +kernel
theorem d_St_value_45 : decode prog_1_method_16_code 45 = .ok (.getfield 44, 3) := by decide +kernel
theorem d_St_value_48 : decode prog_1_method_16_code 48 = .ok (.getfield 114, 3) := by decide +kernel
theorem d_St_value_51 : decode prog_1_method_16_code 51 = .ok (.iload_n 1, 1) := by decide +kernel
theorem d_St_value_52 : decode prog_1_method_16_code 52 = .ok (.laload, 1) := by decide +kernel
theorem d_St_value_53 : decode prog_1_method_16_code 53 = .ok (.lreturn, 1) := by decide +kernel
theorem d_St_select_0 : decode prog_1_method_18_code 0 = .ok (.aload_n 0, 1) := by decide +kernel
theorem d_St_select_1 : decode prog_1_method_18_code 1 = .ok (.iload_n 1, 1) := by decide +kernel
theorem d_St_select_2 : decode prog_1_method_18_code 2 = .ok (.invokevirtual 135, 3) := by decide +kernel
theorem d_St_select_5 : decode prog_1_method_18_code 5 = .ok (.ifCond .ne 13, 3) := by decide +kernel
theorem d_St_select_8 : decode prog_1_method_18_code 8 = .ok (.new 141, 3) := by decide +kernel
theorem d_St_select_11 : decode prog_1_method_18_code 11 = .ok (.dup, 1) := by decide +kernel
theorem d_St_select_12 : decode prog_1_method_18_code 12 = .ok (.ldc 152, 2) := by decide +kernel
theorem d_St_select_14 : decode prog_1_method_18_code 14 = .ok (.invokespecial 145, 3) := by decide +kernel
theorem d_St_select_17 : decode prog_1_method_18_code 17 = .ok (.athrow, 1) := by decide +kernel
theorem d_St_select_18 : decode prog_1_method_18_code 18 = .ok (.return_, 1) := by decide +kernel
theorem d_St_begins_0 : decode prog_1_method_21_code 0 = .ok (.aload_n 0, 1) := by decide +kernel
theorem d_St_begins_1 : decode prog_1_method_21_code 1 = .ok (.getfield 15, 3) := by decide +kernel
theorem d_St_begins_4 : decode prog_1_method_21_code 4 = .ok (.iconst 2, 1) := by decide +kernel
theorem d_St_begins_5 : decode prog_1_method_21_code 5 = .ok (.if_icmp .eq 13, 3) := by decide +kernel
theorem d_St_begins_8 : decode prog_1_method_21_code 8 = .ok (.new 63, 3) := by decide +kernel
theorem d_St_begins_11 : decode prog_1_method_21_code 11 = .ok (.dup, 1) := by decide +kernel
theorem d_St_begins_12 : decode prog_1_method_21_code 12 = .ok (.ldc 76, 2) := by decide +kernel
theorem d_St_begins_14 : decode prog_1_method_21_code 14 = .ok (.invokespecial 67, 3) := by decide +kernel
theorem d_St_begins_17 : decode prog_1_method_21_code 17 = .ok (.athrow, 1) := by decide +kernel
theorem d_St_begins_18 : decode prog_1_method_21_code 18 = .ok (.aload_n 0, 1) := by decide +kernel
theorem d_St_begins_19 : decode prog_1_method_21_code 19 = .ok (.getfield 44, 3) := by decide +kernel
theorem d_St_begins_22 : decode prog_1_method_21_code 22 = .ok (.aload_n 0, 1) := by decide +kernel
theorem d_St_begins_23 : decode prog_1_method_21_code 23 = .ok (.getfield 24, 3) := by decide +kernel
theorem d_St_begins_26 : decode prog_1_method_21_code 26 = .ok (.invokevirtual 106, 3) := by decide +kernel
theorem d_St_begins_29 : decode prog_1_method_21_code 29 = .ok (.istore_n 1, 1) := by decide +kernel
theorem d_St_begins_30 : decode prog_1_method_21_code 30 = .ok (.iload_n 1, 1) := by decide +kernel
theorem d_St_begins_31 : decode prog_1_method_21_code 31 = .ok (.istore_n 2, 1) := by decide +kernel
theorem d_St_begins_32 : decode prog_1_method_21_code 32 = .ok (.aload_n 0, 1) := by decide +kernel
theorem d_St_begins_33 : decode prog_1_method_21_code 33 = .ok (.getfield 24, 3) := by decide +kernel
theorem d_St_begins_36 : decode prog_1_method_21_code 36 = .ok (.invokevirtual 157, 3) := by decide +kernel
theorem d_St_begins_39 : decode prog_1_method_21_code 39 = .ok (.istore_n 3, 1) := by decide +kernel
theorem d_St_begins_40 : decode prog_1_method_21_code 40 = .ok (.iload_n 2, 1) := by decide +kernel
theorem d_St_begins_41 : decode prog_1_method_21_code 41 = .ok (.aload_n 0, 1) := by decide +kernel
theorem d_St_begins_42 : decode prog_1_method_21_code 42 = .ok (.getfield 44, 3) := by decide +kernel
theorem d_St_begins_45 : decode prog_1_method_21_code 45 = .ok (.getfield 117, 3) := by decide +kernel
theorem d_St_begins_48 : decode prog_1_method_21_code 48 = .ok (.if_icmp .ge 25, 3) := by decide +kernel
theorem d_St_begins_51 : decode prog_1_method_21_code 51 = .ok (.aload_n 0, 1) := by decide +kernel
theorem d_St_begins_52 : decode prog_1_method_21_code 52 = .ok (.getfield 44, 3) := by decide +kernel
theorem d_St_begins_55 : decode prog_1_method_21_code 55 = .ok (.iload_n 2, 1) := by decide +kernel
theorem d_St_begins_56 : decode prog_1_method_21_code 56 = .ok (.aload_n 0, 1) := by decide +kernel
theorem d_St_begins_57 : decode prog_1_method_21_code 57 = .ok (.getfield 24, 3) := by decide +kernel
theorem d_St_begins_60 : decode prog_1_method_21_code 60 = .ok (.invokevirtual 160, 3) := by decide +kernel
theorem d_St_begins_63 : decode prog_1_method_21_code 63 = .ok (.iload_n 3, 1) := by decide +kernel
theorem d_St_begins_64 : decode prog_1_method_21_code 64 = .ok (.if_icmp .lt 9, 3) := by decide +kernel
theorem d_St_begins_67 : decode prog_1_method_21_code 67 = .ok (.iinc 2 1, 3) := by decide +kernel
theorem d_St_begins_70 : decode prog_1_method_21_code 70 = .ok (.goto (-30), 3) := by decide +kernel
theorem d_St_begins_73 : decode prog_1_method_21_code 73 = .ok (.iload_n 2, 1) := by decide +kernel
theorem d_St_begins_74 : decode prog_1_method_21_code 74 = .ok (.iload_n 1, 1) := by decide +kernel
theorem d_St_begins_75 : decode prog_1_method_21_code 75 = .ok (.isub, 1) := by decide +kernel
theorem d_St_begins_76 : decode prog_1_method_21_code 76 = .ok (.ireturn, 1) := by decide +kernel
theorem d_St_load_0 : decode prog_1_method_22_code 0 = .ok (.aload_n 0, 1) := by decide +kernel
theorem d_St_load_1 : decode prog_1_method_22_code 1 = .ok (.getfield 15, 3) := by decide +kernel
theorem d_St_load_4 : decode prog_1_method_22_code 4 = .ok (.ifCond .ne 13, 3) := by decide +kernel
theorem d_St_load_7 : decode prog_1_method_22_code 7 = .ok (.aload_n 0, 1) := by decide +kernel
theorem d_St_load_8 : decode prog_1_method_22_code 8 = .ok (.getfield 44, 3) := by decide +kernel
theorem d_St_load_11 : decode prog_1_method_22_code 11 = .ok (.getfield 117, 3) := by decide +kernel
theorem d_St_load_14 : decode prog_1_method_22_code 14 = .ok (.ifCond .le 13, 3) := by decide +kernel
theorem d_St_load_17 : decode prog_1_method_22_code 17 = .ok (.new 63, 3) := by decide +kernel
theorem d_St_load_20 : decode prog_1_method_22_code 20 = .ok (.dup, 1) := by decide +kernel
theorem d_St_load_21 : decode prog_1_method_22_code 21 = .ok (.ldc 164, 2) := by decide +kernel
theorem d_St_load_23 : decode prog_1_method_22_code 23 = .ok (.invokespecial 67, 3) := by decide +kernel
theorem d_St_load_26 : decode prog_1_method_22_code 26 = .ok (.athrow, 1) := by decide +kernel
theorem d_St_load_27 : decode prog_1_method_22_code 27 = .ok (.aload_n 0, 1) := by decide +kernel
theorem d_St_load_28 : decode prog_1_method_22_code 28 = .ok (.getfield 24, 3) := by decide +kernel
theorem d_St_load_31 : decode prog_1_method_22_code 31 = .ok (.iconst 0, 1) := by decide +kernel
theorem d_St_load_32 : decode prog_1_method_22_code 32 = .ok (.invokevirtual 146, 3) := by decide +kernel
theorem d_St_load_35 : decode prog_1_method_22_code 35 = .ok (.lstore 6, 2) := by decide +kernel
theorem d_St_load_37 : decode prog_1_method_22_code 37 = .ok (.lload_n 1, 1) := by decide +kernel
theorem d_St_load_38 : decode prog_1_method_22_code 38 = .ok (.lconst 1, 1) := by decide +kernel
theorem d_St_load_39 : decode prog_1_method_22_code 39 = .ok (.lcmp, 1) := by decide +kernel
theorem d_St_load_40 : decode prog_1_method_22_code 40 = .ok (.ifCond .lt 17, 3) := by decide +kernel
theorem d_St_load_43 : decode prog_1_method_22_code 43 = .ok (.iload_n 3, 1) := by decide +kernel
theorem d_St_load_44 : decode prog_1_method_22_code 44 = .ok (.ifCond .lt 13, 3) := by decide +kernel
theorem d_St_load_47 : decode prog_1_method_22_code 47 = .ok (.lload 6, 2) := by decide +kernel
theorem d_St_load_49 : decode prog_1_method_22_code 49 = .ok (.lload_n 1, 1) := by decide +kernel
theorem d_St_load_50 : decode prog_1_method_22_code 50 = .ok (.iload_n 3, 1) := by decide +kernel
theorem d_St_load_51 : decode prog_1_method_22_code 51 = .ok (.invokestatic 166, 3) := by decide +kernel
theorem d_St_load_54 : decode prog_1_method_22_code 54 = .ok (.ifCond .ne 13, 3) := by decide +kernel
theorem d_St_load_57 : decode prog_1_method_22_code 57 = .ok (.new 78, 3) := by decide +kernel
theorem d_St_load_60 : decode prog_1_method_22_code 60 = .ok (.dup, 1) := by decide +kernel
theorem d_St_load_61 : decode prog_1_method_22_code 61 = .ok (.ldc 170, 2) := by decide +kernel
theorem d_St_load_63 : decode prog_1_method_22_code 63 = .ok (.invokespecial 82, 3) := by decide +kernel
theorem d_St_load_66 : decode prog_1_method_22_code 66 = .ok (.athrow, 1) := by decide +kernel
theorem d_St_load_67 : decode prog_1_method_22_code 67 = .ok (.iload_n 3, 1) := by decide +kernel
theorem d_St_load_68 : decode prog_1_method_22_code 68 = .ok (.sipush 1500, 3) := by decide +kernel
theorem d_St_load_71 : decode prog_1_method_22_code 71 = .ok (.if_icmp .le 13, 3) := by decide +kernel
theorem d_St_load_74 : decode prog_1_method_22_code 74 = .ok (.new 86, 3) := by decide +kernel
theorem d_St_load_77 : decode prog_1_method_22_code 77 = .ok (.dup, 1) := by decide +kernel
theorem d_St_load_78 : decode prog_1_method_22_code 78 = .ok (.ldc 172, 2) := by decide +kernel
theorem d_St_load_80 : decode prog_1_method_22_code 80 = .ok (.invokespecial 90, 3) := by decide +kernel
theorem d_St_load_83 : decode prog_1_method_22_code 83 = .ok (.athrow, 1) := by decide +kernel
theorem d_St_load_84 : decode prog_1_method_22_code 84 = .ok (.iconst 0, 1) := by decide +kernel
theorem d_St_load_85 : decode prog_1_method_22_code 85 = .ok (.istore 8, 2) := by decide +kernel
theorem d_St_load_87 : decode prog_1_method_22_code 87 = .ok (.iload 8, 2) := by decide +kernel
theorem d_St_load_89 : decode prog_1_method_22_code 89 = .ok (.iload_n 3, 1) := by decide +kernel
theorem d_St_load_90 : decode prog_1_method_22_code 90 = .ok (.if_icmp .ge 44, 3) := by decide +kernel
theorem d_St_load_93 : decode prog_1_method_22_code 93 = .ok (.aload_n 0, 1) := by decide +kernel
theorem d_St_load_94 : decode prog_1_method_22_code 94 = .ok (.getfield 34, 3) := by decide +kernel
theorem d_St_load_97 : decode prog_1_method_22_code 97 = .ok (.iconst 0, 1) := by decide +kernel
theorem d_St_load_98 : decode prog_1_method_22_code 98 = .ok (.lload 6, 2) := by decide +kernel
theorem d_St_load_100 : decode prog_1_method_22_code 100 = .ok (.iload 8, 2) := by decide +kernel
theorem d_St_load_102 : decode prog_1_method_22_code 102 = .ok (.i2l, 1) := by decide +kernel
theorem d_St_load_103 : decode prog_1_method_22_code 103 = .ok (.lload_n 1, 1) := by decide +kernel
theorem d_St_load_104 : decode prog_1_method_22_code 104 = .ok (.lmul, 1) := by decide +kernel
theorem d_St_load_105 : decode prog_1_method_22_code 105 = .ok (.ladd, 1) := by decide +kernel
theorem d_St_load_106 : decode prog_1_method_22_code 106 = .ok (.invokevirtual 70, 3) := by decide +kernel
theorem d_St_load_109 : decode prog_1_method_22_code 109 = .ok (.aload_n 0, 1) := by decide +kernel
theorem d_St_load_110 : decode prog_1_method_22_code 110 = .ok (.getfield 44, 3) := by decide +kernel
theorem d_St_load_113 : decode prog_1_method_22_code 113 = .ok (.iload 8, 2) := by decide +kernel
theorem d_St_load_115 : decode prog_1_method_22_code 115 = .ok (.aload_n 0, 1) := by decide +kernel
theorem d_St_load_116 : decode prog_1_method_22_code 116 = .ok (.getfield 34, 3) := by decide +kernel
theorem d_St_load_119 : decode prog_1_method_22_code 119 = .ok (.lload 4, 2) := by decide +kernel
theorem d_St_load_121 : decode prog_1_method_22_code 121 = .ok (.iload 8, 2) := by decide +kernel
theorem d_St_load_123 : decode prog_1_method_22_code 123 = .ok (.i2l, 1) := by decide +kernel
theorem d_St_load_124 : decode prog_1_method_22_code 124 = .ok (.ladd, 1) := by decide +kernel
theorem d_St_load_125 : decode prog_1_method_22_code 125 = .ok (.invokevirtual 122, 3) := by decide +kernel
theorem d_St_load_128 : decode prog_1_method_22_code 128 = .ok (.iinc 8 1, 3) := by decide +kernel
theorem d_St_load_131 : decode prog_1_method_22_code 131 = .ok (.goto (-44), 3) := by decide +kernel
theorem d_St_load_134 : decode prog_1_method_22_code 134 = .ok (.return_, 1) := by decide +kernel
theorem d_St_lastNumberFits_0 : decode prog_1_method_28_code 0 = .ok (.ldc2_w 207, 3) := by decide +kernel
theorem d_St_lastNumberFits_3 : decode prog_1_method_28_code 3 = .ok (.lload_n 0, 1) := by decide +kernel
theorem d_St_lastNumberFits_4 : decode prog_1_method_28_code 4 = .ok (.lsub, 1) := by decide +kernel
theorem d_St_lastNumberFits_5 : decode prog_1_method_28_code 5 = .ok (.lstore 5, 2) := by decide +kernel
theorem d_St_lastNumberFits_7 : decode prog_1_method_28_code 7 = .ok (.lload 5, 2) := by decide +kernel
theorem d_St_lastNumberFits_9 : decode prog_1_method_28_code 9 = .ok (.iconst 1, 1) := by decide +kernel
theorem d_St_lastNumberFits_10 : decode prog_1_method_28_code 10 = .ok (.lushr, 1) := by decide +kernel
theorem d_St_lastNumberFits_11 : decode prog_1_method_28_code 11 = .ok (.lload_n 2, 1) := by decide +kernel
theorem d_St_lastNumberFits_12 : decode prog_1_method_28_code 12 = .ok (.ldiv, 1) := by decide +kernel
theorem d_St_lastNumberFits_13 : decode prog_1_method_28_code 13 = .ok (.iconst 1, 1) := by decide +kernel
theorem d_St_lastNumberFits_14 : decode prog_1_method_28_code 14 = .ok (.lshl, 1) := by decide +kernel
theorem d_St_lastNumberFits_15 : decode prog_1_method_28_code 15 = .ok (.lstore 7, 2) := by decide +kernel
theorem d_St_lastNumberFits_17 : decode prog_1_method_28_code 17 = .ok (.lload 5, 2) := by decide +kernel
theorem d_St_lastNumberFits_19 : decode prog_1_method_28_code 19 = .ok (.lload 7, 2) := by decide +kernel
theorem d_St_lastNumberFits_21 : decode prog_1_method_28_code 21 = .ok (.lload_n 2, 1) := by decide +kernel
theorem d_St_lastNumberFits_22 : decode prog_1_method_28_code 22 = .ok (.lmul, 1) := by decide +kernel
theorem d_St_lastNumberFits_23 : decode prog_1_method_28_code 23 = .ok (.lsub, 1) := by decide +kernel
theorem d_St_lastNumberFits_24 : decode prog_1_method_28_code 24 = .ok (.lstore 9, 2) := by decide +kernel
theorem d_St_lastNumberFits_26 : decode prog_1_method_28_code 26 = .ok (.lload 9, 2) := by decide +kernel
theorem d_St_lastNumberFits_28 : decode prog_1_method_28_code 28 = .ok (.lconst 0, 1) := by decide +kernel
theorem d_St_lastNumberFits_29 : decode prog_1_method_28_code 29 = .ok (.lcmp, 1) := by decide +kernel
theorem d_St_lastNumberFits_30 : decode prog_1_method_28_code 30 = .ok (.ifCond .lt 10, 3) := by decide +kernel
theorem d_St_lastNumberFits_33 : decode prog_1_method_28_code 33 = .ok (.lload 9, 2) := by decide +kernel
theorem d_St_lastNumberFits_35 : decode prog_1_method_28_code 35 = .ok (.lload_n 2, 1) := by decide +kernel
theorem d_St_lastNumberFits_36 : decode prog_1_method_28_code 36 = .ok (.lcmp, 1) := by decide +kernel
theorem d_St_lastNumberFits_37 : decode prog_1_method_28_code 37 = .ok (.ifCond .lt 9, 3) := by decide +kernel
theorem d_St_lastNumberFits_40 : decode prog_1_method_28_code 40 = .ok (.lload 7, 2) := by decide +kernel
theorem d_St_lastNumberFits_42 : decode prog_1_method_28_code 42 = .ok (.lconst 1, 1) := by decide +kernel
theorem d_St_lastNumberFits_43 : decode prog_1_method_28_code 43 = .ok (.ladd, 1) := by decide +kernel
theorem d_St_lastNumberFits_44 : decode prog_1_method_28_code 44 = .ok (.lstore 7, 2) := by decide +kernel
theorem d_St_lastNumberFits_46 : decode prog_1_method_28_code 46 = .ok (.lload 7, 2) := by decide +kernel
theorem d_St_lastNumberFits_48 : decode prog_1_method_28_code 48 = .ok (.lconst 0, 1) := by decide +kernel
theorem d_St_lastNumberFits_49 : decode prog_1_method_28_code 49 = .ok (.lcmp, 1) := by decide +kernel
theorem d_St_lastNumberFits_50 : decode prog_1_method_28_code 50 = .ok (.ifCond .lt 14, 3) := by decide +kernel
theorem d_St_lastNumberFits_53 : decode prog_1_method_28_code 53 = .ok (.iload 4, 2) := by decide +kernel
theorem d_St_lastNumberFits_55 : decode prog_1_method_28_code 55 = .ok (.iconst 1, 1) := by decide +kernel
theorem d_St_lastNumberFits_56 : decode prog_1_method_28_code 56 = .ok (.isub, 1) := by decide +kernel
theorem d_St_lastNumberFits_57 : decode prog_1_method_28_code 57 = .ok (.i2l, 1) := by decide +kernel
theorem d_St_lastNumberFits_58 : decode prog_1_method_28_code 58 = .ok (.lload 7, 2) := by decide +kernel
theorem d_St_lastNumberFits_60 : decode prog_1_method_28_code 60 = .ok (.lcmp, 1) := by decide +kernel
theorem d_St_lastNumberFits_61 : decode prog_1_method_28_code 61 = .ok (.ifCond .gt 7, 3) := by decide +kernel
theorem d_St_lastNumberFits_64 : decode prog_1_method_28_code 64 = .ok (.iconst 1, 1) := by decide +kernel
theorem d_St_lastNumberFits_65 : decode prog_1_method_28_code 65 = .ok (.goto 4, 3) := by decide +kernel
theorem d_St_lastNumberFits_68 : decode prog_1_method_28_code 68 = .ok (.iconst 0, 1) := by decide +kernel
theorem d_St_lastNumberFits_69 : decode prog_1_method_28_code 69 = .ok (.ireturn, 1) := by decide +kernel
theorem d_St_about_0 : decode prog_1_method_24_code 0 = .ok (.iload_n 1, 1) := by decide +kernel
theorem d_St_about_1 : decode prog_1_method_24_code 1 = .ok (.tableswitch 121 0 7 #[47, 55, 55, 55, 55, 78, 97, 102], 47) := by decide +kernel
theorem d_St_about_48 : decode prog_1_method_24_code 48 = .ok (.aload_n 0, 1) := by decide +kernel
theorem d_St_about_49 : decode prog_1_method_24_code 49 = .ok (.getfield 44, 3) := by decide +kernel
theorem d_St_about_52 : decode prog_1_method_24_code 52 = .ok (.getfield 117, 3) := by decide +kernel
theorem d_St_about_55 : decode prog_1_method_24_code 55 = .ok (.ireturn, 1) := by decide +kernel
theorem d_St_about_56 : decode prog_1_method_24_code 56 = .ok (.aload_n 0, 1) := by decide +kernel
theorem d_St_about_57 : decode prog_1_method_24_code 57 = .ok (.getfield 55, 3) := by decide +kernel
theorem d_St_about_60 : decode prog_1_method_24_code 60 = .ok (.aload_n 0, 1) := by decide +kernel
theorem d_St_about_61 : decode prog_1_method_24_code 61 = .ok (.getfield 44, 3) := by decide +kernel
theorem d_St_about_64 : decode prog_1_method_24_code 64 = .ok (.invokevirtual 174, 3) := by decide +kernel
theorem d_St_about_67 : decode prog_1_method_24_code 67 = .ok (.aload_n 0, 1) := by decide +kernel
theorem d_St_about_68 : decode prog_1_method_24_code 68 = .ok (.getfield 55, 3) := by decide +kernel
theorem d_St_about_71 : decode prog_1_method_24_code 71 = .ok (.getfield 182, 3) := by decide +kernel
theorem d_St_about_74 : decode prog_1_method_24_code 74 = .ok (.iload_n 1, 1) := by decide +kernel
theorem d_St_about_75 : decode prog_1_method_24_code 75 = .ok (.iconst 1, 1) := by decide +kernel
theorem d_St_about_76 : decode prog_1_method_24_code 76 = .ok (.isub, 1) := by decide +kernel
theorem d_St_about_77 : decode prog_1_method_24_code 77 = .ok (.iaload, 1) := by decide +kernel
theorem d_St_about_78 : decode prog_1_method_24_code 78 = .ok (.ireturn, 1) := by decide +kernel
theorem d_St_about_79 : decode prog_1_method_24_code 79 = .ok (.aload_n 0, 1) := by decide +kernel
theorem d_St_about_80 : decode prog_1_method_24_code 80 = .ok (.getfield 55, 3) := by decide +kernel
theorem d_St_about_83 : decode prog_1_method_24_code 83 = .ok (.aload_n 0, 1) := by decide +kernel
theorem d_St_about_84 : decode prog_1_method_24_code 84 = .ok (.getfield 44, 3) := by decide +kernel
theorem d_St_about_87 : decode prog_1_method_24_code 87 = .ok (.invokevirtual 174, 3) := by decide +kernel
theorem d_St_about_90 : decode prog_1_method_24_code 90 = .ok (.aload_n 0, 1) := by decide +kernel
theorem d_St_about_91 : decode prog_1_method_24_code 91 = .ok (.getfield 55, 3) := by decide +kernel
theorem d_St_about_94 : decode prog_1_method_24_code 94 = .ok (.getfield 192, 3) := by decide +kernel
theorem d_St_about_97 : decode prog_1_method_24_code 97 = .ok (.ireturn, 1) := by decide +kernel
theorem d_St_about_98 : decode prog_1_method_24_code 98 = .ok (.aload_n 0, 1) := by decide +kernel
theorem d_St_about_99 : decode prog_1_method_24_code 99 = .ok (.invokevirtual 195, 3) := by decide +kernel
theorem d_St_about_102 : decode prog_1_method_24_code 102 = .ok (.ireturn, 1) := by decide +kernel
theorem d_St_about_103 : decode prog_1_method_24_code 103 = .ok (.aload_n 0, 1) := by decide +kernel
theorem d_St_about_104 : decode prog_1_method_24_code 104 = .ok (.getfield 55, 3) := by decide +kernel
theorem d_St_about_107 : decode prog_1_method_24_code 107 = .ok (.aload_n 0, 1) := by decide +kernel
theorem d_St_about_108 : decode prog_1_method_24_code 108 = .ok (.getfield 44, 3) := by decide +kernel
theorem d_St_about_111 : decode prog_1_method_24_code 111 = .ok (.invokevirtual 174, 3) := by decide +kernel
theorem d_St_about_114 : decode prog_1_method_24_code 114 = .ok (.aload_n 0, 1) := by decide +kernel
theorem d_St_about_115 : decode prog_1_method_24_code 115 = .ok (.getfield 55, 3) := by decide +kernel
theorem d_St_about_118 : decode prog_1_method_24_code 118 = .ok (.getfield 198, 3) := by decide +kernel
theorem d_St_about_121 : decode prog_1_method_24_code 121 = .ok (.ireturn, 1) := by decide +kernel
theorem d_St_about_122 : decode prog_1_method_24_code 122 = .ok (.new 78, 3) := by decide +kernel
theorem d_St_about_125 : decode prog_1_method_24_code 125 = .ok (.dup, 1) := by decide +kernel
theorem d_St_about_126 : decode prog_1_method_24_code 126 = .ok (.ldc 201, 2) := by decide +kernel
theorem d_St_about_128 : decode prog_1_method_24_code 128 = .ok (.invokespecial 82, 3) := by decide +kernel
theorem d_St_about_131 : decode prog_1_method_24_code 131 = .ok (.athrow, 1) := by decide +kernel
theorem d_St_depthOfHand_0 : decode prog_1_method_27_code 0 = .ok (.aload_n 0, 1) := by decide +kernel
theorem d_St_depthOfHand_1 : decode prog_1_method_27_code 1 = .ok (.getfield 44, 3) := by decide +kernel
theorem d_St_depthOfHand_4 : decode prog_1_method_27_code 4 = .ok (.aload_n 0, 1) := by decide +kernel
theorem d_St_depthOfHand_5 : decode prog_1_method_27_code 5 = .ok (.getfield 24, 3) := by decide +kernel
theorem d_St_depthOfHand_8 : decode prog_1_method_27_code 8 = .ok (.invokevirtual 106, 3) := by decide +kernel
theorem d_St_depthOfHand_11 : decode prog_1_method_27_code 11 = .ok (.istore_n 1, 1) := by decide +kernel
theorem d_St_depthOfHand_12 : decode prog_1_method_27_code 12 = .ok (.aload_n 0, 1) := by decide +kernel
theorem d_St_depthOfHand_13 : decode prog_1_method_27_code 13 = .ok (.getfield 44, 3) := by decide +kernel
theorem d_St_depthOfHand_16 : decode prog_1_method_27_code 16 = .ok (.iload_n 1, 1) := by decide +kernel
theorem d_St_depthOfHand_17 : decode prog_1_method_27_code 17 = .ok (.aload_n 0, 1) := by decide +kernel
theorem d_St_depthOfHand_18 : decode prog_1_method_27_code 18 = .ok (.getfield 24, 3) := by decide +kernel
theorem d_St_depthOfHand_21 : decode prog_1_method_27_code 21 = .ok (.invokevirtual 110, 3) := by decide +kernel
theorem d_St_depthOfHand_24 : decode prog_1_method_27_code 24 = .ok (.ifCond .eq 14, 3) := by decide +kernel
theorem d_St_depthOfHand_27 : decode prog_1_method_27_code 27 = .ok (.aload_n 0, 1) := by decide +kernel
theorem d_St_depthOfHand_28 : decode prog_1_method_27_code 28 = .ok (.getfield 44, 3) := by decide +kernel
theorem d_St_depthOfHand_31 : decode prog_1_method_27_code 31 = .ok (.iload_n 1, 1) := by decide +kernel
theorem d_St_depthOfHand_32 : decode prog_1_method_27_code 32 = .ok (.invokestatic 203, 3) := by decide +kernel
theorem d_St_depthOfHand_35 : decode prog_1_method_27_code 35 = .ok (.goto 4, 3) := by decide +kernel
theorem d_St_depthOfHand_38 : decode prog_1_method_27_code 38 = .ok (.iconst (-1), 1) := by decide +kernel
theorem d_St_depthOfHand_39 : decode prog_1_method_27_code 39 = .ok (.ireturn, 1) := by decide +kernel
theorem d_Sh_depthOf_0 : decode prog_3_method_6_code 0 = .ok (.lconst 0, 1) := by decide +kernel
theorem d_Sh_depthOf_1 : decode prog_3_method_6_code 1 = .ok (.lstore_n 2, 1) := by decide +kernel
theorem d_Sh_depthOf_2 : decode prog_3_method_6_code 2 = .ok (.aload_n 0, 1) := by decide +kernel
theorem d_Sh_depthOf_3 : decode prog_3_method_6_code 3 = .ok (.invokevirtual 72, 3) := by decide +kernel
theorem d_Sh_depthOf_6 : decode prog_3_method_6_code 6 = .ok (.istore 4, 2) := by decide +kernel
theorem d_Sh_depthOf_8 : decode prog_3_method_6_code 8 = .ok (.iload_n 1, 1) := by decide +kernel
theorem d_Sh_depthOf_9 : decode prog_3_method_6_code 9 = .ok (.istore 5, 2) := by decide +kernel
theorem d_Sh_depthOf_11 : decode prog_3_method_6_code 11 = .ok (.iload 5, 2) := by decide +kernel
theorem d_Sh_depthOf_13 : decode prog_3_method_6_code 13 = .ok (.ifCond .le 29, 3) := by decide +kernel
theorem d_Sh_depthOf_16 : decode prog_3_method_6_code 16 = .ok (.iload 4, 2) := by decide +kernel
theorem d_Sh_depthOf_18 : decode prog_3_method_6_code 18 = .ok (.aload_n 0, 1) := by decide +kernel
theorem d_Sh_depthOf_19 : decode prog_3_method_6_code 19 = .ok (.iload 5, 2) := by decide +kernel
theorem d_Sh_depthOf_21 : decode prog_3_method_6_code 21 = .ok (.invokevirtual 52, 3) := by decide +kernel
theorem d_Sh_depthOf_24 : decode prog_3_method_6_code 24 = .ok (.invokestatic 76, 3) := by decide +kernel
theorem d_Sh_depthOf_27 : decode prog_3_method_6_code 27 = .ok (.istore 4, 2) := by decide +kernel
theorem d_Sh_depthOf_29 : decode prog_3_method_6_code 29 = .ok (.lload_n 2, 1) := by decide +kernel
theorem d_Sh_depthOf_30 : decode prog_3_method_6_code 30 = .ok (.lconst 1, 1) := by decide +kernel
theorem d_Sh_depthOf_31 : decode prog_3_method_6_code 31 = .ok (.iload 4, 2) := by decide +kernel
theorem d_Sh_depthOf_33 : decode prog_3_method_6_code 33 = .ok (.lshl, 1) := by decide +kernel
theorem d_Sh_depthOf_34 : decode prog_3_method_6_code 34 = .ok (.lor, 1) := by decide +kernel
theorem d_Sh_depthOf_35 : decode prog_3_method_6_code 35 = .ok (.lstore_n 2, 1) := by decide +kernel
theorem d_Sh_depthOf_36 : decode prog_3_method_6_code 36 = .ok (.iinc 5 (-1), 3) := by decide +kernel
theorem d_Sh_depthOf_39 : decode prog_3_method_6_code 39 = .ok (.goto (-28), 3) := by decide +kernel
theorem d_Sh_depthOf_42 : decode prog_3_method_6_code 42 = .ok (.aload_n 0, 1) := by decide +kernel
theorem d_Sh_depthOf_43 : decode prog_3_method_6_code 43 = .ok (.invokevirtual 72, 3) := by decide +kernel
theorem d_Sh_depthOf_46 : decode prog_3_method_6_code 46 = .ok (.istore 4, 2) := by decide +kernel
theorem d_Sh_depthOf_48 : decode prog_3_method_6_code 48 = .ok (.iload_n 1, 1) := by decide +kernel
theorem d_Sh_depthOf_49 : decode prog_3_method_6_code 49 = .ok (.iconst 1, 1) := by decide +kernel
theorem d_Sh_depthOf_50 : decode prog_3_method_6_code 50 = .ok (.iadd, 1) := by decide +kernel
theorem d_Sh_depthOf_51 : decode prog_3_method_6_code 51 = .ok (.istore 5, 2) := by decide +kernel
theorem d_Sh_depthOf_53 : decode prog_3_method_6_code 53 = .ok (.iload 5, 2) := by decide +kernel
theorem d_Sh_depthOf_55 : decode prog_3_method_6_code 55 = .ok (.aload_n 0, 1) := by decide +kernel
theorem d_Sh_depthOf_56 : decode prog_3_method_6_code 56 = .ok (.getfield 49, 3) := by decide +kernel
theorem d_Sh_depthOf_59 : decode prog_3_method_6_code 59 = .ok (.if_icmp .ge 29, 3) := by decide +kernel
theorem d_Sh_depthOf_62 : decode prog_3_method_6_code 62 = .ok (.iload 4, 2) := by decide +kernel
theorem d_Sh_depthOf_64 : decode prog_3_method_6_code 64 = .ok (.aload_n 0, 1) := by decide +kernel
theorem d_Sh_depthOf_65 : decode prog_3_method_6_code 65 = .ok (.iload 5, 2) := by decide +kernel
theorem d_Sh_depthOf_67 : decode prog_3_method_6_code 67 = .ok (.invokevirtual 52, 3) := by decide +kernel
theorem d_Sh_depthOf_70 : decode prog_3_method_6_code 70 = .ok (.invokestatic 76, 3) := by decide +kernel
theorem d_Sh_depthOf_73 : decode prog_3_method_6_code 73 = .ok (.istore 4, 2) := by decide +kernel
theorem d_Sh_depthOf_75 : decode prog_3_method_6_code 75 = .ok (.lload_n 2, 1) := by decide +kernel
theorem d_Sh_depthOf_76 : decode prog_3_method_6_code 76 = .ok (.lconst 1, 1) := by decide +kernel
theorem d_Sh_depthOf_77 : decode prog_3_method_6_code 77 = .ok (.iload 4, 2) := by decide +kernel
theorem d_Sh_depthOf_79 : decode prog_3_method_6_code 79 = .ok (.lshl, 1) := by decide +kernel
theorem d_Sh_depthOf_80 : decode prog_3_method_6_code 80 = .ok (.lor, 1) := by decide +kernel
theorem d_Sh_depthOf_81 : decode prog_3_method_6_code 81 = .ok (.lstore_n 2, 1) := by decide +kernel
theorem d_Sh_depthOf_82 : decode prog_3_method_6_code 82 = .ok (.iinc 5 1, 3) := by decide +kernel
theorem d_Sh_depthOf_85 : decode prog_3_method_6_code 85 = .ok (.goto (-32), 3) := by decide +kernel
theorem d_Sh_depthOf_88 : decode prog_3_method_6_code 88 = .ok (.lload_n 2, 1) := by decide +kernel
theorem d_Sh_depthOf_89 : decode prog_3_method_6_code 89 = .ok (.invokestatic 79, 3) := by decide +kernel
theorem d_Sh_depthOf_92 : decode prog_3_method_6_code 92 = .ok (.ireturn, 1) := by decide +kernel
theorem d_Lo_bitCount_0 : decode prog_12_method_50_code 0 = .ok (.lload_n 0, 1) := by decide +kernel
theorem d_Lo_bitCount_1 : decode prog_12_method_50_code 1 = .ok (.lload_n 0, 1) := by decide +kernel
theorem d_Lo_bitCount_2 : decode prog_12_method_50_code 2 = .ok (.iconst 1, 1) := by decide +kernel
theorem d_Lo_bitCount_3 : decode prog_12_method_50_code 3 = .ok (.lushr, 1) := by decide +kernel
theorem d_Lo_bitCount_4 : decode prog_12_method_50_code 4 = .ok (.ldc2_w 314, 3) := by decide +kernel
theorem d_Lo_bitCount_7 : decode prog_12_method_50_code 7 = .ok (.land, 1) := by decide +kernel
theorem d_Lo_bitCount_8 : decode prog_12_method_50_code 8 = .ok (.lsub, 1) := by decide +kernel
theorem d_Lo_bitCount_9 : decode prog_12_method_50_code 9 = .ok (.lstore_n 0, 1) := by decide +kernel
theorem d_Lo_bitCount_10 : decode prog_12_method_50_code 10 = .ok (.lload_n 0, 1) := by decide +kernel
theorem d_Lo_bitCount_11 : decode prog_12_method_50_code 11 = .ok (.ldc2_w 316, 3) := by decide +kernel
theorem d_Lo_bitCount_14 : decode prog_12_method_50_code 14 = .ok (.land, 1) := by decide +kernel
theorem d_Lo_bitCount_15 : decode prog_12_method_50_code 15 = .ok (.lload_n 0, 1) := by decide +kernel
theorem d_Lo_bitCount_16 : decode prog_12_method_50_code 16 = .ok (.iconst 2, 1) := by decide +kernel
theorem d_Lo_bitCount_17 : decode prog_12_method_50_code 17 = .ok (.lushr, 1) := by decide +kernel
theorem d_Lo_bitCount_18 : decode prog_12_method_50_code 18 = .ok (.ldc2_w 316, 3) := by decide +kernel
theorem d_Lo_bitCount_21 : decode prog_12_method_50_code 21 = .ok (.land, 1) := by decide +kernel
theorem d_Lo_bitCount_22 : decode prog_12_method_50_code 22 = .ok (.ladd, 1) := by decide +kernel
theorem d_Lo_bitCount_23 : decode prog_12_method_50_code 23 = .ok (.lstore_n 0, 1) := by decide +kernel
theorem d_Lo_bitCount_24 : decode prog_12_method_50_code 24 = .ok (.lload_n 0, 1) := by decide +kernel
theorem d_Lo_bitCount_25 : decode prog_12_method_50_code 25 = .ok (.lload_n 0, 1) := by decide +kernel
theorem d_Lo_bitCount_26 : decode prog_12_method_50_code 26 = .ok (.iconst 4, 1) := by decide +kernel
theorem d_Lo_bitCount_27 : decode prog_12_method_50_code 27 = .ok (.lushr, 1) := by decide +kernel
theorem d_Lo_bitCount_28 : decode prog_12_method_50_code 28 = .ok (.ladd, 1) := by decide +kernel
theorem d_Lo_bitCount_29 : decode prog_12_method_50_code 29 = .ok (.ldc2_w 318, 3) := by decide +kernel
theorem d_Lo_bitCount_32 : decode prog_12_method_50_code 32 = .ok (.land, 1) := by decide +kernel
theorem d_Lo_bitCount_33 : decode prog_12_method_50_code 33 = .ok (.lstore_n 0, 1) := by decide +kernel
theorem d_Lo_bitCount_34 : decode prog_12_method_50_code 34 = .ok (.lload_n 0, 1) := by decide +kernel
theorem d_Lo_bitCount_35 : decode prog_12_method_50_code 35 = .ok (.lload_n 0, 1) := by decide +kernel
theorem d_Lo_bitCount_36 : decode prog_12_method_50_code 36 = .ok (.bipush 8, 2) := by decide +kernel
theorem d_Lo_bitCount_38 : decode prog_12_method_50_code 38 = .ok (.lushr, 1) := by decide +kernel
theorem d_Lo_bitCount_39 : decode prog_12_method_50_code 39 = .ok (.ladd, 1) := by decide +kernel
theorem d_Lo_bitCount_40 : decode prog_12_method_50_code 40 = .ok (.lstore_n 0, 1) := by decide +kernel
theorem d_Lo_bitCount_41 : decode prog_12_method_50_code 41 = .ok (.lload_n 0, 1) := by decide +kernel
theorem d_Lo_bitCount_42 : decode prog_12_method_50_code 42 = .ok (.lload_n 0, 1) := by decide +kernel
theorem d_Lo_bitCount_43 : decode prog_12_method_50_code 43 = .ok (.bipush 16, 2) := by decide +kernel
theorem d_Lo_bitCount_45 : decode prog_12_method_50_code 45 = .ok (.lushr, 1) := by decide +kernel
theorem d_Lo_bitCount_46 : decode prog_12_method_50_code 46 = .ok (.ladd, 1) := by decide +kernel
theorem d_Lo_bitCount_47 : decode prog_12_method_50_code 47 = .ok (.lstore_n 0, 1) := by decide +kernel
theorem d_Lo_bitCount_48 : decode prog_12_method_50_code 48 = .ok (.lload_n 0, 1) := by decide +kernel
theorem d_Lo_bitCount_49 : decode prog_12_method_50_code 49 = .ok (.lload_n 0, 1) := by decide +kernel
theorem d_Lo_bitCount_50 : decode prog_12_method_50_code 50 = .ok (.bipush 32, 2) := by decide +kernel
theorem d_Lo_bitCount_52 : decode prog_12_method_50_code 52 = .ok (.lushr, 1) := by decide +kernel
theorem d_Lo_bitCount_53 : decode prog_12_method_50_code 53 = .ok (.ladd, 1) := by decide +kernel
theorem d_Lo_bitCount_54 : decode prog_12_method_50_code 54 = .ok (.lstore_n 0, 1) := by decide +kernel
theorem d_Lo_bitCount_55 : decode prog_12_method_50_code 55 = .ok (.lload_n 0, 1) := by decide +kernel
theorem d_Lo_bitCount_56 : decode prog_12_method_50_code 56 = .ok (.l2i, 1) := by decide +kernel
theorem d_Lo_bitCount_57 : decode prog_12_method_50_code 57 = .ok (.bipush 127, 2) := by decide +kernel
theorem d_Lo_bitCount_59 : decode prog_12_method_50_code 59 = .ok (.iand, 1) := by decide +kernel
theorem d_Lo_bitCount_60 : decode prog_12_method_50_code 60 = .ok (.ireturn, 1) := by decide +kernel
