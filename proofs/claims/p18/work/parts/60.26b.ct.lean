/-! ===== LOOKED UP, by program (wip/gen/emit4.py) ===== -/
theorem sl_0_0 : pm_0.2.2.2.2.2 0 = some (.new 8, 3, 0, 0, 0) := rfl
theorem sl_0_3 : pm_0.2.2.2.2.2 3 = some (.dup, 1, 0, 0, 0) := rfl
theorem sl_0_4 : pm_0.2.2.2.2.2 4 = some (.invokespecial 50, 3, 1, 0, 4) := rfl
theorem sl_0_7 : pm_0.2.2.2.2.2 7 = some (.astore_n 1, 1, 0, 0, 0) := rfl
theorem sl_0_8 : pm_0.2.2.2.2.2 8 = some (.new 51, 3, 12, 0, 0) := rfl
theorem sl_0_11 : pm_0.2.2.2.2.2 11 = some (.dup, 1, 0, 0, 0) := rfl
theorem sl_0_12 : pm_0.2.2.2.2.2 12 = some (.invokespecial 53, 3, 206, 0, 4) := rfl
theorem sl_0_15 : pm_0.2.2.2.2.2 15 = some (.astore_n 2, 1, 0, 0, 0) := rfl
theorem sl_0_16 : pm_0.2.2.2.2.2 16 = some (.iconst 1, 1, 0, 0, 0) := rfl
theorem sl_0_17 : pm_0.2.2.2.2.2 17 = some (.newarray .long, 2, 1, 0, 0) := rfl
theorem sl_0_19 : pm_0.2.2.2.2.2 19 = some (.astore_n 3, 1, 0, 0, 0) := rfl
theorem sl_0_20 : pm_0.2.2.2.2.2 20 = some (.iconst 0, 1, 0, 0, 0) := rfl
theorem sl_0_21 : pm_0.2.2.2.2.2 21 = some (.istore 4, 2, 0, 0, 0) := rfl
theorem sl_0_23 : pm_0.2.2.2.2.2 23 = some (.iload 4, 2, 0, 0, 0) := rfl
theorem sl_0_25 : pm_0.2.2.2.2.2 25 = some (.aload_n 0, 1, 0, 0, 0) := rfl
theorem sl_0_26 : pm_0.2.2.2.2.2 26 = some (.arraylength, 1, 0, 0, 0) := rfl
theorem sl_0_27 : pm_0.2.2.2.2.2 27 = some (.bipush 6, 2, 0, 0, 0) := rfl
theorem sl_0_29 : pm_0.2.2.2.2.2 29 = some (.isub, 1, 0, 0, 0) := rfl
theorem sl_0_30 : pm_0.2.2.2.2.2 30 = some (.if_icmp .gt 931, 3, 0, 0, 0) := rfl
theorem sl_0_961 : pm_0.2.2.2.2.2 961 = some (.iconst 1, 1, 0, 0, 0) := rfl
theorem sl_0_962 : pm_0.2.2.2.2.2 962 = some (.ireturn, 1, 0, 0, 0) := rfl
theorem sl_1_0 : pm_1.2.2.2.2.2 0 = some (.aload_n 0, 1, 0, 0, 0) := rfl
theorem sl_1_1 : pm_1.2.2.2.2.2 1 = some (.invokespecial 3, 3, 0, 0, 6) := rfl
theorem sl_1_4 : pm_1.2.2.2.2.2 4 = some (.aload_n 0, 1, 0, 0, 0) := rfl
theorem sl_1_5 : pm_1.2.2.2.2.2 5 = some (.iconst 5, 1, 0, 0, 0) := rfl
theorem sl_1_6 : pm_1.2.2.2.2.2 6 = some (.newarray .int, 2, 0, 0, 0) := rfl
theorem sl_1_8 : pm_1.2.2.2.2.2 8 = some (.putfield 9, 3, 0, 0, 0) := rfl
theorem sl_1_11 : pm_1.2.2.2.2.2 11 = some (.aload_n 0, 1, 0, 0, 0) := rfl
theorem sl_1_12 : pm_1.2.2.2.2.2 12 = some (.sipush 4000, 3, 0, 0, 0) := rfl
theorem sl_1_15 : pm_1.2.2.2.2.2 15 = some (.newarray .byte, 2, 2, 0, 0) := rfl
theorem sl_1_17 : pm_1.2.2.2.2.2 17 = some (.putfield 13, 3, 0, 1, 0) := rfl
theorem sl_1_20 : pm_1.2.2.2.2.2 20 = some (.aload_n 0, 1, 0, 0, 0) := rfl
theorem sl_1_21 : pm_1.2.2.2.2.2 21 = some (.iconst 4, 1, 0, 0, 0) := rfl
theorem sl_1_22 : pm_1.2.2.2.2.2 22 = some (.newarray .long, 2, 1, 0, 0) := rfl
theorem sl_1_24 : pm_1.2.2.2.2.2 24 = some (.putfield 17, 3, 0, 3, 0) := rfl
theorem sl_1_27 : pm_1.2.2.2.2.2 27 = some (.aload_n 0, 1, 0, 0, 0) := rfl
theorem sl_1_28 : pm_1.2.2.2.2.2 28 = some (.iconst 4, 1, 0, 0, 0) := rfl
theorem sl_1_29 : pm_1.2.2.2.2.2 29 = some (.newarray .long, 2, 1, 0, 0) := rfl
theorem sl_1_31 : pm_1.2.2.2.2.2 31 = some (.putfield 21, 3, 0, 4, 0) := rfl
theorem sl_1_34 : pm_1.2.2.2.2.2 34 = some (.aload_n 0, 1, 0, 0, 0) := rfl
theorem sl_1_35 : pm_1.2.2.2.2.2 35 = some (.iconst 4, 1, 0, 0, 0) := rfl
theorem sl_1_36 : pm_1.2.2.2.2.2 36 = some (.newarray .long, 2, 1, 0, 0) := rfl
theorem sl_1_38 : pm_1.2.2.2.2.2 38 = some (.putfield 24, 3, 0, 5, 0) := rfl
theorem sl_1_41 : pm_1.2.2.2.2.2 41 = some (.aload_n 0, 1, 0, 0, 0) := rfl
theorem sl_1_42 : pm_1.2.2.2.2.2 42 = some (.new 27, 3, 11, 0, 0) := rfl
theorem sl_1_45 : pm_1.2.2.2.2.2 45 = some (.dup, 1, 0, 0, 0) := rfl
theorem sl_1_46 : pm_1.2.2.2.2.2 46 = some (.aload_n 0, 1, 0, 0, 0) := rfl
theorem sl_1_47 : pm_1.2.2.2.2.2 47 = some (.getfield 13, 3, 0, 1, 0) := rfl
theorem sl_1_50 : pm_1.2.2.2.2.2 50 = some (.invokespecial 29, 3, 2, 1, 4) := rfl
theorem sl_1_53 : pm_1.2.2.2.2.2 53 = some (.putfield 32, 3, 0, 6, 0) := rfl
theorem sl_1_56 : pm_1.2.2.2.2.2 56 = some (.aload_n 0, 1, 0, 0, 0) := rfl
theorem sl_1_57 : pm_1.2.2.2.2.2 57 = some (.new 36, 3, 6, 0, 0) := rfl
theorem sl_1_60 : pm_1.2.2.2.2.2 60 = some (.dup, 1, 0, 0, 0) := rfl
theorem sl_1_61 : pm_1.2.2.2.2.2 61 = some (.invokespecial 38, 3, 14, 0, 4) := rfl
theorem sl_1_64 : pm_1.2.2.2.2.2 64 = some (.putfield 39, 3, 0, 7, 0) := rfl
theorem sl_1_67 : pm_1.2.2.2.2.2 67 = some (.aload_n 0, 1, 0, 0, 0) := rfl
theorem sl_1_68 : pm_1.2.2.2.2.2 68 = some (.new 43, 3, 7, 0, 0) := rfl
theorem sl_1_71 : pm_1.2.2.2.2.2 71 = some (.dup, 1, 0, 0, 0) := rfl
theorem sl_1_72 : pm_1.2.2.2.2.2 72 = some (.aload_n 0, 1, 0, 0, 0) := rfl
theorem sl_1_73 : pm_1.2.2.2.2.2 73 = some (.getfield 32, 3, 0, 6, 0) := rfl
theorem sl_1_76 : pm_1.2.2.2.2.2 76 = some (.aload_n 0, 1, 0, 0, 0) := rfl
theorem sl_1_77 : pm_1.2.2.2.2.2 77 = some (.getfield 39, 3, 0, 7, 0) := rfl
theorem sl_1_80 : pm_1.2.2.2.2.2 80 = some (.invokespecial 45, 3, 20, 2, 4) := rfl
theorem sl_1_83 : pm_1.2.2.2.2.2 83 = some (.putfield 48, 3, 0, 8, 0) := rfl
theorem sl_1_86 : pm_1.2.2.2.2.2 86 = some (.aload_n 0, 1, 0, 0, 0) := rfl
theorem sl_1_87 : pm_1.2.2.2.2.2 87 = some (.new 52, 3, 5, 0, 0) := rfl
theorem sl_1_90 : pm_1.2.2.2.2.2 90 = some (.dup, 1, 0, 0, 0) := rfl
theorem sl_1_91 : pm_1.2.2.2.2.2 91 = some (.aload_n 0, 1, 0, 0, 0) := rfl
theorem sl_1_92 : pm_1.2.2.2.2.2 92 = some (.getfield 39, 3, 0, 7, 0) := rfl
theorem sl_1_95 : pm_1.2.2.2.2.2 95 = some (.invokespecial 54, 3, 22, 1, 4) := rfl
theorem sl_1_98 : pm_1.2.2.2.2.2 98 = some (.putfield 57, 3, 0, 9, 0) := rfl
theorem sl_1_101 : pm_1.2.2.2.2.2 101 = some (.aload_n 0, 1, 0, 0, 0) := rfl
theorem sl_1_102 : pm_1.2.2.2.2.2 102 = some (.iconst (-1), 1, 0, 0, 0) := rfl
theorem sl_1_103 : pm_1.2.2.2.2.2 103 = some (.putfield 61, 3, 0, 11, 0) := rfl
theorem sl_1_106 : pm_1.2.2.2.2.2 106 = some (.return_, 1, 0, 0, 0) := rfl
theorem sl_2_0 : pm_2.2.2.2.2.2 0 = some (.aload_n 0, 1, 0, 0, 0) := rfl
theorem sl_2_1 : pm_2.2.2.2.2.2 1 = some (.invokespecial 3, 3, 0, 0, 6) := rfl
theorem sl_2_4 : pm_2.2.2.2.2.2 4 = some (.aload_n 0, 1, 0, 0, 0) := rfl
theorem sl_2_5 : pm_2.2.2.2.2.2 5 = some (.bipush 31, 2, 0, 0, 0) := rfl
theorem sl_2_7 : pm_2.2.2.2.2.2 7 = some (.newarray .long, 2, 1, 0, 0) := rfl
theorem sl_2_9 : pm_2.2.2.2.2.2 9 = some (.putfield 9, 3, 11, 1, 0) := rfl
theorem sl_2_12 : pm_2.2.2.2.2.2 12 = some (.aload_n 0, 1, 0, 0, 0) := rfl
theorem sl_2_13 : pm_2.2.2.2.2.2 13 = some (.bipush 90, 2, 0, 0, 0) := rfl
theorem sl_2_15 : pm_2.2.2.2.2.2 15 = some (.newarray .long, 2, 1, 0, 0) := rfl
theorem sl_2_17 : pm_2.2.2.2.2.2 17 = some (.putfield 15, 3, 11, 2, 0) := rfl
theorem sl_2_20 : pm_2.2.2.2.2.2 20 = some (.aload_n 0, 1, 0, 0, 0) := rfl
theorem sl_2_21 : pm_2.2.2.2.2.2 21 = some (.bipush 90, 2, 0, 0, 0) := rfl
theorem sl_2_23 : pm_2.2.2.2.2.2 23 = some (.newarray .long, 2, 1, 0, 0) := rfl
theorem sl_2_25 : pm_2.2.2.2.2.2 25 = some (.putfield 18, 3, 11, 3, 0) := rfl
theorem sl_2_28 : pm_2.2.2.2.2.2 28 = some (.aload_n 0, 1, 0, 0, 0) := rfl
theorem sl_2_29 : pm_2.2.2.2.2.2 29 = some (.bipush 90, 2, 0, 0, 0) := rfl
theorem sl_2_31 : pm_2.2.2.2.2.2 31 = some (.newarray .int, 2, 0, 0, 0) := rfl
theorem sl_2_33 : pm_2.2.2.2.2.2 33 = some (.putfield 21, 3, 11, 4, 0) := rfl
theorem sl_2_36 : pm_2.2.2.2.2.2 36 = some (.aload_n 0, 1, 0, 0, 0) := rfl
theorem sl_2_37 : pm_2.2.2.2.2.2 37 = some (.bipush 90, 2, 0, 0, 0) := rfl
theorem sl_2_39 : pm_2.2.2.2.2.2 39 = some (.newarray .int, 2, 0, 0, 0) := rfl
theorem sl_2_41 : pm_2.2.2.2.2.2 41 = some (.putfield 25, 3, 11, 5, 0) := rfl
theorem sl_2_44 : pm_2.2.2.2.2.2 44 = some (.aload_n 0, 1, 0, 0, 0) := rfl
theorem sl_2_45 : pm_2.2.2.2.2.2 45 = some (.iconst (-1), 1, 0, 0, 0) := rfl
theorem sl_2_46 : pm_2.2.2.2.2.2 46 = some (.putfield 28, 3, 11, 15, 0) := rfl
theorem sl_2_49 : pm_2.2.2.2.2.2 49 = some (.aload_n 0, 1, 0, 0, 0) := rfl
theorem sl_2_50 : pm_2.2.2.2.2.2 50 = some (.aload_n 1, 1, 0, 0, 0) := rfl
theorem sl_2_51 : pm_2.2.2.2.2.2 51 = some (.putfield 32, 3, 11, 0, 0) := rfl
theorem sl_2_54 : pm_2.2.2.2.2.2 54 = some (.iconst 0, 1, 0, 0, 0) := rfl
theorem sl_2_55 : pm_2.2.2.2.2.2 55 = some (.istore_n 2, 1, 0, 0, 0) := rfl
theorem sl_2_56 : pm_2.2.2.2.2.2 56 = some (.iconst 0, 1, 0, 0, 0) := rfl
theorem sl_2_57 : pm_2.2.2.2.2.2 57 = some (.istore_n 3, 1, 0, 0, 0) := rfl
theorem sl_2_58 : pm_2.2.2.2.2.2 58 = some (.iconst 0, 1, 0, 0, 0) := rfl
theorem sl_2_59 : pm_2.2.2.2.2.2 59 = some (.istore 4, 2, 0, 0, 0) := rfl
theorem sl_2_61 : pm_2.2.2.2.2.2 61 = some (.iload 4, 2, 0, 0, 0) := rfl
theorem sl_2_63 : pm_2.2.2.2.2.2 63 = some (.ldc 36, 2, 0, 0, 1) := rfl
theorem sl_2_65 : pm_2.2.2.2.2.2 65 = some (.invokevirtual 38, 3, 3, 0, 7) := rfl
theorem sl_2_68 : pm_2.2.2.2.2.2 68 = some (.if_icmp .ge 62, 3, 0, 0, 0) := rfl
theorem sl_2_71 : pm_2.2.2.2.2.2 71 = some (.iload_n 2, 1, 0, 0, 0) := rfl
theorem sl_2_72 : pm_2.2.2.2.2.2 72 = some (.bipush 31, 2, 0, 0, 0) := rfl
theorem sl_2_74 : pm_2.2.2.2.2.2 74 = some (.if_icmp .ge 56, 3, 0, 0, 0) := rfl
theorem sl_2_77 : pm_2.2.2.2.2.2 77 = some (.ldc 36, 2, 0, 0, 1) := rfl
theorem sl_2_79 : pm_2.2.2.2.2.2 79 = some (.iload 4, 2, 0, 0, 0) := rfl
theorem sl_2_81 : pm_2.2.2.2.2.2 81 = some (.invokevirtual 44, 3, 5, 1, 7) := rfl
theorem sl_2_84 : pm_2.2.2.2.2.2 84 = some (.istore 5, 2, 0, 0, 0) := rfl
theorem sl_2_86 : pm_2.2.2.2.2.2 86 = some (.iload 5, 2, 0, 0, 0) := rfl
theorem sl_2_88 : pm_2.2.2.2.2.2 88 = some (.bipush 32, 2, 0, 0, 0) := rfl
theorem sl_2_90 : pm_2.2.2.2.2.2 90 = some (.if_icmp .ne 11, 3, 0, 0, 0) := rfl
theorem sl_2_93 : pm_2.2.2.2.2.2 93 = some (.iinc 2 1, 3, 0, 0, 0) := rfl
theorem sl_2_96 : pm_2.2.2.2.2.2 96 = some (.iconst 0, 1, 0, 0, 0) := rfl
theorem sl_2_97 : pm_2.2.2.2.2.2 97 = some (.istore_n 3, 1, 0, 0, 0) := rfl
theorem sl_2_98 : pm_2.2.2.2.2.2 98 = some (.goto 26, 3, 0, 0, 0) := rfl
theorem sl_2_101 : pm_2.2.2.2.2.2 101 = some (.aload_n 0, 1, 0, 0, 0) := rfl
theorem sl_2_102 : pm_2.2.2.2.2.2 102 = some (.getfield 9, 3, 11, 1, 0) := rfl
theorem sl_2_105 : pm_2.2.2.2.2.2 105 = some (.iload_n 2, 1, 0, 0, 0) := rfl
theorem sl_2_106 : pm_2.2.2.2.2.2 106 = some (.dup2, 1, 0, 0, 0) := rfl
theorem sl_2_107 : pm_2.2.2.2.2.2 107 = some (.laload, 1, 0, 0, 0) := rfl
theorem sl_2_108 : pm_2.2.2.2.2.2 108 = some (.iload 5, 2, 0, 0, 0) := rfl
theorem sl_2_110 : pm_2.2.2.2.2.2 110 = some (.i2l, 1, 0, 0, 0) := rfl
theorem sl_2_111 : pm_2.2.2.2.2.2 111 = some (.bipush 56, 2, 0, 0, 0) := rfl
theorem sl_2_113 : pm_2.2.2.2.2.2 113 = some (.bipush 8, 2, 0, 0, 0) := rfl
theorem sl_2_115 : pm_2.2.2.2.2.2 115 = some (.iload_n 3, 1, 0, 0, 0) := rfl
theorem sl_2_116 : pm_2.2.2.2.2.2 116 = some (.imul, 1, 0, 0, 0) := rfl
theorem sl_2_117 : pm_2.2.2.2.2.2 117 = some (.isub, 1, 0, 0, 0) := rfl
theorem sl_2_118 : pm_2.2.2.2.2.2 118 = some (.lshl, 1, 0, 0, 0) := rfl
theorem sl_2_119 : pm_2.2.2.2.2.2 119 = some (.lor, 1, 0, 0, 0) := rfl
theorem sl_2_120 : pm_2.2.2.2.2.2 120 = some (.lastore, 1, 0, 0, 0) := rfl
theorem sl_2_121 : pm_2.2.2.2.2.2 121 = some (.iinc 3 1, 3, 0, 0, 0) := rfl
theorem sl_2_124 : pm_2.2.2.2.2.2 124 = some (.iinc 4 1, 3, 0, 0, 0) := rfl
theorem sl_2_127 : pm_2.2.2.2.2.2 127 = some (.goto (-66), 3, 0, 0, 0) := rfl
theorem sl_2_130 : pm_2.2.2.2.2.2 130 = some (.return_, 1, 0, 0, 0) := rfl
theorem sl_3_0 : pm_3.2.2.2.2.2 0 = some (.aload_n 0, 1, 0, 0, 0) := rfl
theorem sl_3_1 : pm_3.2.2.2.2.2 1 = some (.getfield 9, 3, 1, 0, 1) := rfl
theorem sl_3_4 : pm_3.2.2.2.2.2 4 = some (.arraylength, 1, 0, 0, 0) := rfl
theorem sl_3_5 : pm_3.2.2.2.2.2 5 = some (.aload_n 0, 1, 0, 0, 0) := rfl
theorem sl_3_6 : pm_3.2.2.2.2.2 6 = some (.invokevirtual 335, 3, 4, 0, 7) := rfl
theorem sl_3_9 : pm_3.2.2.2.2.2 9 = some (.ishr, 1, 0, 0, 0) := rfl
theorem sl_3_10 : pm_3.2.2.2.2.2 10 = some (.ireturn, 1, 0, 0, 0) := rfl
theorem sl_4_0 : pm_4.2.2.2.2.2 0 = some (.getstatic 38, 3, 0, 0, 0) := rfl
theorem sl_4_3 : pm_4.2.2.2.2.2 3 = some (.ifCond .eq 10, 3, 0, 0, 0) := rfl
theorem sl_4_6 : pm_4.2.2.2.2.2 6 = some (.aload_n 0, 1, 0, 0, 0) := rfl
theorem sl_4_7 : pm_4.2.2.2.2.2 7 = some (.getfield 15, 3, 2, 0, 1) := rfl
theorem sl_4_10 : pm_4.2.2.2.2.2 10 = some (.goto 4, 3, 0, 0, 0) := rfl
theorem sl_4_14 : pm_4.2.2.2.2.2 14 = some (.ireturn, 1, 0, 0, 0) := rfl
theorem sl_5_0 : pm_5.2.2.2.2.2 0 = some (.aload_n 0, 1, 0, 0, 0) := rfl
theorem sl_5_1 : pm_5.2.2.2.2.2 1 = some (.invokevirtual 492, 3, 6, 0, 7) := rfl
theorem sl_5_4 : pm_5.2.2.2.2.2 4 = some (.ifCond .eq 12, 3, 0, 0, 0) := rfl
theorem sl_5_7 : pm_5.2.2.2.2.2 7 = some (.aload_n 0, 1, 0, 0, 0) := rfl
theorem sl_5_8 : pm_5.2.2.2.2.2 8 = some (.getfield 9, 3, 1, 0, 1) := rfl
theorem sl_5_11 : pm_5.2.2.2.2.2 11 = some (.iload_n 1, 1, 0, 0, 0) := rfl
theorem sl_5_12 : pm_5.2.2.2.2.2 12 = some (.invokestatic 495, 3, 7, 2, 1) := rfl
theorem sl_5_15 : pm_5.2.2.2.2.2 15 = some (.ireturn, 1, 0, 0, 0) := rfl
theorem sl_6_0 : pm_6.2.2.2.2.2 0 = some (.getstatic 38, 3, 0, 0, 0) := rfl
theorem sl_6_3 : pm_6.2.2.2.2.2 3 = some (.ifCond .eq 14, 3, 0, 0, 0) := rfl
theorem sl_6_6 : pm_6.2.2.2.2.2 6 = some (.aload_n 0, 1, 0, 0, 0) := rfl
theorem sl_6_7 : pm_6.2.2.2.2.2 7 = some (.getfield 15, 3, 2, 0, 1) := rfl
theorem sl_6_10 : pm_6.2.2.2.2.2 10 = some (.ifCond .ne 7, 3, 0, 0, 0) := rfl
theorem sl_6_13 : pm_6.2.2.2.2.2 13 = some (.iconst 1, 1, 0, 0, 0) := rfl
theorem sl_6_14 : pm_6.2.2.2.2.2 14 = some (.goto 4, 3, 0, 0, 0) := rfl
theorem sl_6_18 : pm_6.2.2.2.2.2 18 = some (.ireturn, 1, 0, 0, 0) := rfl
theorem sl_7_0 : pm_7.2.2.2.2.2 0 = some (.iload_n 1, 1, 0, 0, 0) := rfl
theorem sl_7_1 : pm_7.2.2.2.2.2 1 = some (.aload_n 0, 1, 0, 0, 0) := rfl
theorem sl_7_2 : pm_7.2.2.2.2.2 2 = some (.arraylength, 1, 0, 0, 0) := rfl
theorem sl_7_3 : pm_7.2.2.2.2.2 3 = some (.invokestatic 9, 3, 8, 2, 1) := rfl
theorem sl_7_6 : pm_7.2.2.2.2.2 6 = some (.aload_n 0, 1, 0, 0, 0) := rfl
theorem sl_7_7 : pm_7.2.2.2.2.2 7 = some (.iload_n 1, 1, 0, 0, 0) := rfl
theorem sl_7_8 : pm_7.2.2.2.2.2 8 = some (.baload, 1, 0, 0, 0) := rfl
theorem sl_7_9 : pm_7.2.2.2.2.2 9 = some (.sipush 255, 3, 0, 0, 0) := rfl
theorem sl_7_12 : pm_7.2.2.2.2.2 12 = some (.iand, 1, 0, 0, 0) := rfl
theorem sl_7_13 : pm_7.2.2.2.2.2 13 = some (.i2c, 1, 0, 0, 0) := rfl
theorem sl_7_14 : pm_7.2.2.2.2.2 14 = some (.ireturn, 1, 0, 0, 0) := rfl
theorem sl_8_0 : pm_8.2.2.2.2.2 0 = some (.iload_n 0, 1, 0, 0, 0) := rfl
theorem sl_8_1 : pm_8.2.2.2.2.2 1 = some (.iload_n 1, 1, 0, 0, 0) := rfl
theorem sl_8_2 : pm_8.2.2.2.2.2 2 = some (.getstatic 1053, 3, 0, 0, 1) := rfl
theorem sl_8_5 : pm_8.2.2.2.2.2 5 = some (.invokestatic 1059, 3, 9, 3, 1) := rfl
theorem sl_8_8 : pm_8.2.2.2.2.2 8 = some (.pop, 1, 0, 0, 0) := rfl
theorem sl_8_9 : pm_8.2.2.2.2.2 9 = some (.return_, 1, 0, 0, 0) := rfl
theorem sl_9_0 : pm_9.2.2.2.2.2 0 = some (.iload_n 0, 1, 0, 0, 0) := rfl
theorem sl_9_1 : pm_9.2.2.2.2.2 1 = some (.ifCond .lt 8, 3, 0, 0, 0) := rfl
theorem sl_9_4 : pm_9.2.2.2.2.2 4 = some (.iload_n 0, 1, 0, 0, 0) := rfl
theorem sl_9_5 : pm_9.2.2.2.2.2 5 = some (.iload_n 1, 1, 0, 0, 0) := rfl
theorem sl_9_6 : pm_9.2.2.2.2.2 6 = some (.if_icmp .lt 10, 3, 0, 0, 0) := rfl
theorem sl_9_16 : pm_9.2.2.2.2.2 16 = some (.iload_n 0, 1, 0, 0, 0) := rfl
theorem sl_9_17 : pm_9.2.2.2.2.2 17 = some (.ireturn, 1, 0, 0, 0) := rfl
theorem sl_14_0 : pm_14.2.2.2.2.2 0 = some (.aload_n 0, 1, 0, 0, 0) := rfl
theorem sl_14_1 : pm_14.2.2.2.2.2 1 = some (.invokespecial 3, 3, 0, 0, 6) := rfl
theorem sl_14_4 : pm_14.2.2.2.2.2 4 = some (.aload_n 0, 1, 0, 0, 0) := rfl
theorem sl_14_5 : pm_14.2.2.2.2.2 5 = some (.sipush 192, 3, 0, 0, 0) := rfl
theorem sl_14_8 : pm_14.2.2.2.2.2 8 = some (.newarray .int, 2, 0, 0, 0) := rfl
theorem sl_14_10 : pm_14.2.2.2.2.2 10 = some (.putfield 9, 3, 6, 0, 0) := rfl
theorem sl_14_13 : pm_14.2.2.2.2.2 13 = some (.aload_n 0, 1, 0, 0, 0) := rfl
theorem sl_14_14 : pm_14.2.2.2.2.2 14 = some (.sipush 192, 3, 0, 0, 0) := rfl
theorem sl_14_17 : pm_14.2.2.2.2.2 17 = some (.newarray .long, 2, 1, 0, 0) := rfl
theorem sl_14_19 : pm_14.2.2.2.2.2 19 = some (.putfield 15, 3, 6, 1, 0) := rfl
theorem sl_14_22 : pm_14.2.2.2.2.2 22 = some (.aload_n 0, 1, 0, 0, 0) := rfl
theorem sl_14_23 : pm_14.2.2.2.2.2 23 = some (.sipush 192, 3, 0, 0, 0) := rfl
theorem sl_14_26 : pm_14.2.2.2.2.2 26 = some (.newarray .long, 2, 1, 0, 0) := rfl
theorem sl_14_28 : pm_14.2.2.2.2.2 28 = some (.putfield 19, 3, 6, 2, 0) := rfl
theorem sl_14_31 : pm_14.2.2.2.2.2 31 = some (.aload_n 0, 1, 0, 0, 0) := rfl
theorem sl_14_32 : pm_14.2.2.2.2.2 32 = some (.bipush 12, 2, 0, 0, 0) := rfl
theorem sl_14_34 : pm_14.2.2.2.2.2 34 = some (.newarray .int, 2, 0, 0, 0) := rfl
theorem sl_14_36 : pm_14.2.2.2.2.2 36 = some (.putfield 22, 3, 6, 3, 0) := rfl
theorem sl_14_39 : pm_14.2.2.2.2.2 39 = some (.aload_n 0, 1, 0, 0, 0) := rfl
theorem sl_14_40 : pm_14.2.2.2.2.2 40 = some (.bipush 16, 2, 0, 0, 0) := rfl
theorem sl_14_42 : pm_14.2.2.2.2.2 42 = some (.newarray .int, 2, 0, 0, 0) := rfl
theorem sl_14_44 : pm_14.2.2.2.2.2 44 = some (.putfield 25, 3, 6, 4, 0) := rfl
theorem sl_14_47 : pm_14.2.2.2.2.2 47 = some (.aload_n 0, 1, 0, 0, 0) := rfl
theorem sl_14_48 : pm_14.2.2.2.2.2 48 = some (.bipush 8, 2, 0, 0, 0) := rfl
theorem sl_14_50 : pm_14.2.2.2.2.2 50 = some (.newarray .int, 2, 0, 0, 0) := rfl
theorem sl_14_52 : pm_14.2.2.2.2.2 52 = some (.putfield 28, 3, 6, 5, 0) := rfl
theorem sl_14_55 : pm_14.2.2.2.2.2 55 = some (.aload_n 0, 1, 0, 0, 0) := rfl
theorem sl_14_56 : pm_14.2.2.2.2.2 56 = some (.bipush 8, 2, 0, 0, 0) := rfl
theorem sl_14_58 : pm_14.2.2.2.2.2 58 = some (.newarray .int, 2, 0, 0, 0) := rfl
theorem sl_14_60 : pm_14.2.2.2.2.2 60 = some (.putfield 31, 3, 6, 6, 0) := rfl
theorem sl_14_63 : pm_14.2.2.2.2.2 63 = some (.aload_n 0, 1, 0, 0, 0) := rfl
theorem sl_14_64 : pm_14.2.2.2.2.2 64 = some (.bipush 12, 2, 0, 0, 0) := rfl
theorem sl_14_66 : pm_14.2.2.2.2.2 66 = some (.newarray .int, 2, 0, 0, 0) := rfl
theorem sl_14_68 : pm_14.2.2.2.2.2 68 = some (.putfield 34, 3, 6, 7, 0) := rfl
theorem sl_14_71 : pm_14.2.2.2.2.2 71 = some (.aload_n 0, 1, 0, 0, 0) := rfl
theorem sl_14_72 : pm_14.2.2.2.2.2 72 = some (.bipush 8, 2, 0, 0, 0) := rfl
theorem sl_14_74 : pm_14.2.2.2.2.2 74 = some (.anewarray 37, 3, 4, 0, 0) := rfl
theorem sl_14_77 : pm_14.2.2.2.2.2 77 = some (.putfield 39, 3, 6, 8, 0) := rfl
theorem sl_14_80 : pm_14.2.2.2.2.2 80 = some (.aload_n 0, 1, 0, 0, 0) := rfl
theorem sl_14_81 : pm_14.2.2.2.2.2 81 = some (.new 43, 3, 3, 0, 0) := rfl
theorem sl_14_84 : pm_14.2.2.2.2.2 84 = some (.dup, 1, 0, 0, 0) := rfl
theorem sl_14_85 : pm_14.2.2.2.2.2 85 = some (.invokespecial 45, 3, 15, 0, 5) := rfl
theorem sl_14_88 : pm_14.2.2.2.2.2 88 = some (.putfield 46, 3, 6, 9, 0) := rfl
theorem sl_14_91 : pm_14.2.2.2.2.2 91 = some (.aload_n 0, 1, 0, 0, 0) := rfl
theorem sl_14_92 : pm_14.2.2.2.2.2 92 = some (.new 50, 3, 8, 0, 0) := rfl
theorem sl_14_95 : pm_14.2.2.2.2.2 95 = some (.dup, 1, 0, 0, 0) := rfl
theorem sl_14_96 : pm_14.2.2.2.2.2 96 = some (.invokespecial 52, 3, 16, 0, 5) := rfl
theorem sl_14_99 : pm_14.2.2.2.2.2 99 = some (.putfield 53, 3, 6, 10, 0) := rfl
theorem sl_14_102 : pm_14.2.2.2.2.2 102 = some (.aload_n 0, 1, 0, 0, 0) := rfl
theorem sl_14_103 : pm_14.2.2.2.2.2 103 = some (.new 57, 3, 1, 0, 0) := rfl
theorem sl_14_106 : pm_14.2.2.2.2.2 106 = some (.dup, 1, 0, 0, 0) := rfl
theorem sl_14_107 : pm_14.2.2.2.2.2 107 = some (.invokespecial 59, 3, 17, 0, 5) := rfl
theorem sl_14_110 : pm_14.2.2.2.2.2 110 = some (.putfield 60, 3, 6, 11, 0) := rfl
theorem sl_14_113 : pm_14.2.2.2.2.2 113 = some (.aload_n 0, 1, 0, 0, 0) := rfl
theorem sl_14_114 : pm_14.2.2.2.2.2 114 = some (.new 64, 3, 9, 0, 0) := rfl
theorem sl_14_117 : pm_14.2.2.2.2.2 117 = some (.dup, 1, 0, 0, 0) := rfl
theorem sl_14_118 : pm_14.2.2.2.2.2 118 = some (.invokespecial 66, 3, 18, 0, 5) := rfl
theorem sl_14_121 : pm_14.2.2.2.2.2 121 = some (.putfield 67, 3, 6, 12, 0) := rfl
theorem sl_14_124 : pm_14.2.2.2.2.2 124 = some (.iconst 0, 1, 0, 0, 0) := rfl
theorem sl_14_125 : pm_14.2.2.2.2.2 125 = some (.istore_n 1, 1, 0, 0, 0) := rfl
theorem sl_14_126 : pm_14.2.2.2.2.2 126 = some (.iload_n 1, 1, 0, 0, 0) := rfl
theorem sl_14_127 : pm_14.2.2.2.2.2 127 = some (.bipush 8, 2, 0, 0, 0) := rfl
theorem sl_14_129 : pm_14.2.2.2.2.2 129 = some (.if_icmp .ge 22, 3, 0, 0, 0) := rfl
theorem sl_14_132 : pm_14.2.2.2.2.2 132 = some (.aload_n 0, 1, 0, 0, 0) := rfl
theorem sl_14_133 : pm_14.2.2.2.2.2 133 = some (.getfield 39, 3, 6, 8, 0) := rfl
theorem sl_14_136 : pm_14.2.2.2.2.2 136 = some (.iload_n 1, 1, 0, 0, 0) := rfl
theorem sl_14_137 : pm_14.2.2.2.2.2 137 = some (.new 37, 3, 10, 0, 0) := rfl
theorem sl_14_140 : pm_14.2.2.2.2.2 140 = some (.dup, 1, 0, 0, 0) := rfl
theorem sl_14_141 : pm_14.2.2.2.2.2 141 = some (.invokespecial 71, 3, 19, 0, 5) := rfl
theorem sl_14_144 : pm_14.2.2.2.2.2 144 = some (.aastore, 1, 0, 0, 0) := rfl
theorem sl_14_145 : pm_14.2.2.2.2.2 145 = some (.iinc 1 1, 3, 0, 0, 0) := rfl
theorem sl_14_148 : pm_14.2.2.2.2.2 148 = some (.goto (-22), 3, 0, 0, 0) := rfl
theorem sl_14_151 : pm_14.2.2.2.2.2 151 = some (.return_, 1, 0, 0, 0) := rfl
theorem sl_15_0 : pm_15.2.2.2.2.2 0 = some (.aload_n 0, 1, 0, 0, 0) := rfl
theorem sl_15_1 : pm_15.2.2.2.2.2 1 = some (.invokespecial 3, 3, 0, 0, 6) := rfl
theorem sl_15_4 : pm_15.2.2.2.2.2 4 = some (.aload_n 0, 1, 0, 0, 0) := rfl
theorem sl_15_5 : pm_15.2.2.2.2.2 5 = some (.sipush 1090, 3, 0, 0, 0) := rfl
theorem sl_15_8 : pm_15.2.2.2.2.2 8 = some (.newarray .int, 2, 0, 0, 0) := rfl
theorem sl_15_10 : pm_15.2.2.2.2.2 10 = some (.putfield 9, 3, 3, 0, 0) := rfl
theorem sl_15_13 : pm_15.2.2.2.2.2 13 = some (.aload_n 0, 1, 0, 0, 0) := rfl
theorem sl_15_14 : pm_15.2.2.2.2.2 14 = some (.sipush 1090, 3, 0, 0, 0) := rfl
theorem sl_15_17 : pm_15.2.2.2.2.2 17 = some (.newarray .int, 2, 0, 0, 0) := rfl
theorem sl_15_19 : pm_15.2.2.2.2.2 19 = some (.putfield 15, 3, 3, 1, 0) := rfl
theorem sl_15_22 : pm_15.2.2.2.2.2 22 = some (.aload_n 0, 1, 0, 0, 0) := rfl
theorem sl_15_23 : pm_15.2.2.2.2.2 23 = some (.sipush 1090, 3, 0, 0, 0) := rfl
theorem sl_15_26 : pm_15.2.2.2.2.2 26 = some (.newarray .int, 2, 0, 0, 0) := rfl
theorem sl_15_28 : pm_15.2.2.2.2.2 28 = some (.putfield 18, 3, 3, 2, 0) := rfl
theorem sl_15_31 : pm_15.2.2.2.2.2 31 = some (.aload_n 0, 1, 0, 0, 0) := rfl
theorem sl_15_32 : pm_15.2.2.2.2.2 32 = some (.sipush 1090, 3, 0, 0, 0) := rfl
theorem sl_15_35 : pm_15.2.2.2.2.2 35 = some (.newarray .int, 2, 0, 0, 0) := rfl
theorem sl_15_37 : pm_15.2.2.2.2.2 37 = some (.putfield 21, 3, 3, 3, 0) := rfl
theorem sl_15_40 : pm_15.2.2.2.2.2 40 = some (.aload_n 0, 1, 0, 0, 0) := rfl
theorem sl_15_41 : pm_15.2.2.2.2.2 41 = some (.sipush 1090, 3, 0, 0, 0) := rfl
theorem sl_15_44 : pm_15.2.2.2.2.2 44 = some (.newarray .int, 2, 0, 0, 0) := rfl
theorem sl_15_46 : pm_15.2.2.2.2.2 46 = some (.putfield 24, 3, 3, 4, 0) := rfl
theorem sl_15_49 : pm_15.2.2.2.2.2 49 = some (.aload_n 0, 1, 0, 0, 0) := rfl
theorem sl_15_50 : pm_15.2.2.2.2.2 50 = some (.sipush 1090, 3, 0, 0, 0) := rfl
theorem sl_15_53 : pm_15.2.2.2.2.2 53 = some (.newarray .int, 2, 0, 0, 0) := rfl
theorem sl_15_55 : pm_15.2.2.2.2.2 55 = some (.putfield 27, 3, 3, 5, 0) := rfl
theorem sl_15_58 : pm_15.2.2.2.2.2 58 = some (.aload_n 0, 1, 0, 0, 0) := rfl
theorem sl_15_59 : pm_15.2.2.2.2.2 59 = some (.sipush 1090, 3, 0, 0, 0) := rfl
theorem sl_15_62 : pm_15.2.2.2.2.2 62 = some (.newarray .long, 2, 1, 0, 0) := rfl
theorem sl_15_64 : pm_15.2.2.2.2.2 64 = some (.putfield 30, 3, 3, 6, 0) := rfl
theorem sl_15_67 : pm_15.2.2.2.2.2 67 = some (.aload_n 0, 1, 0, 0, 0) := rfl
theorem sl_15_68 : pm_15.2.2.2.2.2 68 = some (.sipush 1090, 3, 0, 0, 0) := rfl
theorem sl_15_71 : pm_15.2.2.2.2.2 71 = some (.newarray .long, 2, 1, 0, 0) := rfl
theorem sl_15_73 : pm_15.2.2.2.2.2 73 = some (.putfield 34, 3, 3, 7, 0) := rfl
theorem sl_15_76 : pm_15.2.2.2.2.2 76 = some (.return_, 1, 0, 0, 0) := rfl
theorem sl_16_0 : pm_16.2.2.2.2.2 0 = some (.aload_n 0, 1, 0, 0, 0) := rfl
theorem sl_16_1 : pm_16.2.2.2.2.2 1 = some (.invokespecial 3, 3, 0, 0, 6) := rfl
theorem sl_16_4 : pm_16.2.2.2.2.2 4 = some (.aload_n 0, 1, 0, 0, 0) := rfl
theorem sl_16_5 : pm_16.2.2.2.2.2 5 = some (.bipush 16, 2, 0, 0, 0) := rfl
theorem sl_16_7 : pm_16.2.2.2.2.2 7 = some (.newarray .int, 2, 0, 0, 0) := rfl
theorem sl_16_9 : pm_16.2.2.2.2.2 9 = some (.putfield 9, 3, 8, 0, 0) := rfl
theorem sl_16_12 : pm_16.2.2.2.2.2 12 = some (.aload_n 0, 1, 0, 0, 0) := rfl
theorem sl_16_13 : pm_16.2.2.2.2.2 13 = some (.bipush 96, 2, 0, 0, 0) := rfl
theorem sl_16_15 : pm_16.2.2.2.2.2 15 = some (.newarray .int, 2, 0, 0, 0) := rfl
theorem sl_16_17 : pm_16.2.2.2.2.2 17 = some (.putfield 15, 3, 8, 1, 0) := rfl
theorem sl_16_20 : pm_16.2.2.2.2.2 20 = some (.aload_n 0, 1, 0, 0, 0) := rfl
theorem sl_16_21 : pm_16.2.2.2.2.2 21 = some (.bipush 16, 2, 0, 0, 0) := rfl
theorem sl_16_23 : pm_16.2.2.2.2.2 23 = some (.newarray .int, 2, 0, 0, 0) := rfl
theorem sl_16_25 : pm_16.2.2.2.2.2 25 = some (.putfield 18, 3, 8, 2, 0) := rfl
theorem sl_16_28 : pm_16.2.2.2.2.2 28 = some (.aload_n 0, 1, 0, 0, 0) := rfl
theorem sl_16_29 : pm_16.2.2.2.2.2 29 = some (.bipush 16, 2, 0, 0, 0) := rfl
theorem sl_16_31 : pm_16.2.2.2.2.2 31 = some (.newarray .int, 2, 0, 0, 0) := rfl
theorem sl_16_33 : pm_16.2.2.2.2.2 33 = some (.putfield 21, 3, 8, 3, 0) := rfl
theorem sl_16_36 : pm_16.2.2.2.2.2 36 = some (.aload_n 0, 1, 0, 0, 0) := rfl
theorem sl_16_37 : pm_16.2.2.2.2.2 37 = some (.bipush 16, 2, 0, 0, 0) := rfl
theorem sl_16_39 : pm_16.2.2.2.2.2 39 = some (.newarray .int, 2, 0, 0, 0) := rfl
theorem sl_16_41 : pm_16.2.2.2.2.2 41 = some (.putfield 24, 3, 8, 4, 0) := rfl
theorem sl_16_44 : pm_16.2.2.2.2.2 44 = some (.aload_n 0, 1, 0, 0, 0) := rfl
theorem sl_16_45 : pm_16.2.2.2.2.2 45 = some (.sipush 128, 3, 0, 0, 0) := rfl
theorem sl_16_48 : pm_16.2.2.2.2.2 48 = some (.newarray .long, 2, 1, 0, 0) := rfl
theorem sl_16_50 : pm_16.2.2.2.2.2 50 = some (.putfield 27, 3, 8, 5, 0) := rfl
theorem sl_16_53 : pm_16.2.2.2.2.2 53 = some (.aload_n 0, 1, 0, 0, 0) := rfl
theorem sl_16_54 : pm_16.2.2.2.2.2 54 = some (.sipush 128, 3, 0, 0, 0) := rfl
theorem sl_16_57 : pm_16.2.2.2.2.2 57 = some (.newarray .long, 2, 1, 0, 0) := rfl
theorem sl_16_59 : pm_16.2.2.2.2.2 59 = some (.putfield 31, 3, 8, 6, 0) := rfl
theorem sl_16_62 : pm_16.2.2.2.2.2 62 = some (.aload_n 0, 1, 0, 0, 0) := rfl
theorem sl_16_63 : pm_16.2.2.2.2.2 63 = some (.sipush 128, 3, 0, 0, 0) := rfl
theorem sl_16_66 : pm_16.2.2.2.2.2 66 = some (.newarray .int, 2, 0, 0, 0) := rfl
theorem sl_16_68 : pm_16.2.2.2.2.2 68 = some (.putfield 34, 3, 8, 7, 0) := rfl
theorem sl_16_71 : pm_16.2.2.2.2.2 71 = some (.aload_n 0, 1, 0, 0, 0) := rfl
theorem sl_16_72 : pm_16.2.2.2.2.2 72 = some (.bipush 16, 2, 0, 0, 0) := rfl
theorem sl_16_74 : pm_16.2.2.2.2.2 74 = some (.newarray .int, 2, 0, 0, 0) := rfl
theorem sl_16_76 : pm_16.2.2.2.2.2 76 = some (.putfield 37, 3, 8, 8, 0) := rfl
theorem sl_16_79 : pm_16.2.2.2.2.2 79 = some (.aload_n 0, 1, 0, 0, 0) := rfl
theorem sl_16_80 : pm_16.2.2.2.2.2 80 = some (.bipush 16, 2, 0, 0, 0) := rfl
theorem sl_16_82 : pm_16.2.2.2.2.2 82 = some (.newarray .int, 2, 0, 0, 0) := rfl
theorem sl_16_84 : pm_16.2.2.2.2.2 84 = some (.putfield 40, 3, 8, 9, 0) := rfl
theorem sl_16_87 : pm_16.2.2.2.2.2 87 = some (.aload_n 0, 1, 0, 0, 0) := rfl
theorem sl_16_88 : pm_16.2.2.2.2.2 88 = some (.bipush 16, 2, 0, 0, 0) := rfl
theorem sl_16_90 : pm_16.2.2.2.2.2 90 = some (.newarray .int, 2, 0, 0, 0) := rfl
theorem sl_16_92 : pm_16.2.2.2.2.2 92 = some (.putfield 43, 3, 8, 10, 0) := rfl
theorem sl_16_95 : pm_16.2.2.2.2.2 95 = some (.aload_n 0, 1, 0, 0, 0) := rfl
theorem sl_16_96 : pm_16.2.2.2.2.2 96 = some (.bipush 16, 2, 0, 0, 0) := rfl
theorem sl_16_98 : pm_16.2.2.2.2.2 98 = some (.newarray .int, 2, 0, 0, 0) := rfl
theorem sl_16_100 : pm_16.2.2.2.2.2 100 = some (.putfield 46, 3, 8, 11, 0) := rfl
theorem sl_16_103 : pm_16.2.2.2.2.2 103 = some (.aload_n 0, 1, 0, 0, 0) := rfl
theorem sl_16_104 : pm_16.2.2.2.2.2 104 = some (.bipush 16, 2, 0, 0, 0) := rfl
theorem sl_16_106 : pm_16.2.2.2.2.2 106 = some (.newarray .int, 2, 0, 0, 0) := rfl
theorem sl_16_108 : pm_16.2.2.2.2.2 108 = some (.putfield 49, 3, 8, 12, 0) := rfl
theorem sl_16_111 : pm_16.2.2.2.2.2 111 = some (.return_, 1, 0, 0, 0) := rfl
theorem sl_17_0 : pm_17.2.2.2.2.2 0 = some (.aload_n 0, 1, 0, 0, 0) := rfl
theorem sl_17_1 : pm_17.2.2.2.2.2 1 = some (.invokespecial 3, 3, 0, 0, 6) := rfl
theorem sl_17_4 : pm_17.2.2.2.2.2 4 = some (.aload_n 0, 1, 0, 0, 0) := rfl
theorem sl_17_5 : pm_17.2.2.2.2.2 5 = some (.bipush 16, 2, 0, 0, 0) := rfl
theorem sl_17_7 : pm_17.2.2.2.2.2 7 = some (.newarray .int, 2, 0, 0, 0) := rfl
theorem sl_17_9 : pm_17.2.2.2.2.2 9 = some (.putfield 9, 3, 1, 0, 0) := rfl
theorem sl_17_12 : pm_17.2.2.2.2.2 12 = some (.aload_n 0, 1, 0, 0, 0) := rfl
theorem sl_17_13 : pm_17.2.2.2.2.2 13 = some (.bipush 64, 2, 0, 0, 0) := rfl
theorem sl_17_15 : pm_17.2.2.2.2.2 15 = some (.newarray .int, 2, 0, 0, 0) := rfl
theorem sl_17_17 : pm_17.2.2.2.2.2 17 = some (.putfield 15, 3, 1, 1, 0) := rfl
theorem sl_17_20 : pm_17.2.2.2.2.2 20 = some (.aload_n 0, 1, 0, 0, 0) := rfl
theorem sl_17_21 : pm_17.2.2.2.2.2 21 = some (.bipush 64, 2, 0, 0, 0) := rfl
theorem sl_17_23 : pm_17.2.2.2.2.2 23 = some (.newarray .long, 2, 1, 0, 0) := rfl
theorem sl_17_25 : pm_17.2.2.2.2.2 25 = some (.putfield 18, 3, 1, 2, 0) := rfl
theorem sl_17_28 : pm_17.2.2.2.2.2 28 = some (.aload_n 0, 1, 0, 0, 0) := rfl
theorem sl_17_29 : pm_17.2.2.2.2.2 29 = some (.bipush 64, 2, 0, 0, 0) := rfl
theorem sl_17_31 : pm_17.2.2.2.2.2 31 = some (.newarray .long, 2, 1, 0, 0) := rfl
theorem sl_17_33 : pm_17.2.2.2.2.2 33 = some (.putfield 22, 3, 1, 3, 0) := rfl
theorem sl_17_36 : pm_17.2.2.2.2.2 36 = some (.aload_n 0, 1, 0, 0, 0) := rfl
theorem sl_17_37 : pm_17.2.2.2.2.2 37 = some (.bipush 16, 2, 0, 0, 0) := rfl
theorem sl_17_39 : pm_17.2.2.2.2.2 39 = some (.newarray .int, 2, 0, 0, 0) := rfl
theorem sl_17_41 : pm_17.2.2.2.2.2 41 = some (.putfield 25, 3, 1, 4, 0) := rfl
theorem sl_17_44 : pm_17.2.2.2.2.2 44 = some (.aload_n 0, 1, 0, 0, 0) := rfl
theorem sl_17_45 : pm_17.2.2.2.2.2 45 = some (.bipush 16, 2, 0, 0, 0) := rfl
theorem sl_17_47 : pm_17.2.2.2.2.2 47 = some (.newarray .int, 2, 0, 0, 0) := rfl
theorem sl_17_49 : pm_17.2.2.2.2.2 49 = some (.putfield 28, 3, 1, 5, 0) := rfl
theorem sl_17_52 : pm_17.2.2.2.2.2 52 = some (.aload_n 0, 1, 0, 0, 0) := rfl
theorem sl_17_53 : pm_17.2.2.2.2.2 53 = some (.sipush 240, 3, 0, 0, 0) := rfl
theorem sl_17_56 : pm_17.2.2.2.2.2 56 = some (.newarray .int, 2, 0, 0, 0) := rfl
theorem sl_17_58 : pm_17.2.2.2.2.2 58 = some (.putfield 31, 3, 1, 6, 0) := rfl
theorem sl_17_61 : pm_17.2.2.2.2.2 61 = some (.aload_n 0, 1, 0, 0, 0) := rfl
theorem sl_17_62 : pm_17.2.2.2.2.2 62 = some (.sipush 240, 3, 0, 0, 0) := rfl
theorem sl_17_65 : pm_17.2.2.2.2.2 65 = some (.newarray .int, 2, 0, 0, 0) := rfl
theorem sl_17_67 : pm_17.2.2.2.2.2 67 = some (.putfield 34, 3, 1, 7, 0) := rfl
theorem sl_17_70 : pm_17.2.2.2.2.2 70 = some (.aload_n 0, 1, 0, 0, 0) := rfl
theorem sl_17_71 : pm_17.2.2.2.2.2 71 = some (.sipush 240, 3, 0, 0, 0) := rfl
theorem sl_17_74 : pm_17.2.2.2.2.2 74 = some (.newarray .int, 2, 0, 0, 0) := rfl
theorem sl_17_76 : pm_17.2.2.2.2.2 76 = some (.putfield 37, 3, 1, 8, 0) := rfl
theorem sl_17_79 : pm_17.2.2.2.2.2 79 = some (.aload_n 0, 1, 0, 0, 0) := rfl
theorem sl_17_80 : pm_17.2.2.2.2.2 80 = some (.sipush 240, 3, 0, 0, 0) := rfl
theorem sl_17_83 : pm_17.2.2.2.2.2 83 = some (.newarray .int, 2, 0, 0, 0) := rfl
theorem sl_17_85 : pm_17.2.2.2.2.2 85 = some (.putfield 40, 3, 1, 9, 0) := rfl
theorem sl_17_88 : pm_17.2.2.2.2.2 88 = some (.aload_n 0, 1, 0, 0, 0) := rfl
theorem sl_17_89 : pm_17.2.2.2.2.2 89 = some (.sipush 240, 3, 0, 0, 0) := rfl
theorem sl_17_92 : pm_17.2.2.2.2.2 92 = some (.newarray .int, 2, 0, 0, 0) := rfl
theorem sl_17_94 : pm_17.2.2.2.2.2 94 = some (.putfield 43, 3, 1, 10, 0) := rfl
theorem sl_17_97 : pm_17.2.2.2.2.2 97 = some (.aload_n 0, 1, 0, 0, 0) := rfl
theorem sl_17_98 : pm_17.2.2.2.2.2 98 = some (.sipush 240, 3, 0, 0, 0) := rfl
theorem sl_17_101 : pm_17.2.2.2.2.2 101 = some (.newarray .int, 2, 0, 0, 0) := rfl
theorem sl_17_103 : pm_17.2.2.2.2.2 103 = some (.putfield 46, 3, 1, 11, 0) := rfl
theorem sl_17_106 : pm_17.2.2.2.2.2 106 = some (.aload_n 0, 1, 0, 0, 0) := rfl
theorem sl_17_107 : pm_17.2.2.2.2.2 107 = some (.sipush 240, 3, 0, 0, 0) := rfl
theorem sl_17_110 : pm_17.2.2.2.2.2 110 = some (.newarray .int, 2, 0, 0, 0) := rfl
theorem sl_17_112 : pm_17.2.2.2.2.2 112 = some (.putfield 49, 3, 1, 12, 0) := rfl
theorem sl_17_115 : pm_17.2.2.2.2.2 115 = some (.return_, 1, 0, 0, 0) := rfl
theorem sl_18_0 : pm_18.2.2.2.2.2 0 = some (.aload_n 0, 1, 0, 0, 0) := rfl
theorem sl_18_1 : pm_18.2.2.2.2.2 1 = some (.invokespecial 3, 3, 0, 0, 6) := rfl
theorem sl_18_4 : pm_18.2.2.2.2.2 4 = some (.aload_n 0, 1, 0, 0, 0) := rfl
theorem sl_18_5 : pm_18.2.2.2.2.2 5 = some (.bipush 48, 2, 0, 0, 0) := rfl
theorem sl_18_7 : pm_18.2.2.2.2.2 7 = some (.newarray .int, 2, 0, 0, 0) := rfl
theorem sl_18_9 : pm_18.2.2.2.2.2 9 = some (.putfield 9, 3, 9, 0, 0) := rfl
theorem sl_18_12 : pm_18.2.2.2.2.2 12 = some (.aload_n 0, 1, 0, 0, 0) := rfl
theorem sl_18_13 : pm_18.2.2.2.2.2 13 = some (.bipush 48, 2, 0, 0, 0) := rfl
theorem sl_18_15 : pm_18.2.2.2.2.2 15 = some (.newarray .int, 2, 0, 0, 0) := rfl
theorem sl_18_17 : pm_18.2.2.2.2.2 17 = some (.putfield 15, 3, 9, 1, 0) := rfl
theorem sl_18_20 : pm_18.2.2.2.2.2 20 = some (.aload_n 0, 1, 0, 0, 0) := rfl
theorem sl_18_21 : pm_18.2.2.2.2.2 21 = some (.bipush 48, 2, 0, 0, 0) := rfl
theorem sl_18_23 : pm_18.2.2.2.2.2 23 = some (.newarray .int, 2, 0, 0, 0) := rfl
theorem sl_18_25 : pm_18.2.2.2.2.2 25 = some (.putfield 18, 3, 9, 2, 0) := rfl
theorem sl_18_28 : pm_18.2.2.2.2.2 28 = some (.aload_n 0, 1, 0, 0, 0) := rfl
theorem sl_18_29 : pm_18.2.2.2.2.2 29 = some (.bipush 48, 2, 0, 0, 0) := rfl
theorem sl_18_31 : pm_18.2.2.2.2.2 31 = some (.newarray .int, 2, 0, 0, 0) := rfl
theorem sl_18_33 : pm_18.2.2.2.2.2 33 = some (.putfield 21, 3, 9, 3, 0) := rfl
theorem sl_18_36 : pm_18.2.2.2.2.2 36 = some (.aload_n 0, 1, 0, 0, 0) := rfl
theorem sl_18_37 : pm_18.2.2.2.2.2 37 = some (.bipush 48, 2, 0, 0, 0) := rfl
theorem sl_18_39 : pm_18.2.2.2.2.2 39 = some (.newarray .int, 2, 0, 0, 0) := rfl
theorem sl_18_41 : pm_18.2.2.2.2.2 41 = some (.putfield 24, 3, 9, 4, 0) := rfl
theorem sl_18_44 : pm_18.2.2.2.2.2 44 = some (.aload_n 0, 1, 0, 0, 0) := rfl
theorem sl_18_45 : pm_18.2.2.2.2.2 45 = some (.bipush 48, 2, 0, 0, 0) := rfl
theorem sl_18_47 : pm_18.2.2.2.2.2 47 = some (.newarray .int, 2, 0, 0, 0) := rfl
theorem sl_18_49 : pm_18.2.2.2.2.2 49 = some (.putfield 27, 3, 9, 5, 0) := rfl
theorem sl_18_52 : pm_18.2.2.2.2.2 52 = some (.aload_n 0, 1, 0, 0, 0) := rfl
theorem sl_18_53 : pm_18.2.2.2.2.2 53 = some (.bipush 48, 2, 0, 0, 0) := rfl
theorem sl_18_55 : pm_18.2.2.2.2.2 55 = some (.newarray .int, 2, 0, 0, 0) := rfl
theorem sl_18_57 : pm_18.2.2.2.2.2 57 = some (.putfield 30, 3, 9, 6, 0) := rfl
theorem sl_18_60 : pm_18.2.2.2.2.2 60 = some (.aload_n 0, 1, 0, 0, 0) := rfl
theorem sl_18_61 : pm_18.2.2.2.2.2 61 = some (.bipush 48, 2, 0, 0, 0) := rfl
theorem sl_18_63 : pm_18.2.2.2.2.2 63 = some (.newarray .int, 2, 0, 0, 0) := rfl
theorem sl_18_65 : pm_18.2.2.2.2.2 65 = some (.putfield 33, 3, 9, 7, 0) := rfl
theorem sl_18_68 : pm_18.2.2.2.2.2 68 = some (.aload_n 0, 1, 0, 0, 0) := rfl
theorem sl_18_69 : pm_18.2.2.2.2.2 69 = some (.sipush 192, 3, 0, 0, 0) := rfl
theorem sl_18_72 : pm_18.2.2.2.2.2 72 = some (.newarray .long, 2, 1, 0, 0) := rfl
theorem sl_18_74 : pm_18.2.2.2.2.2 74 = some (.putfield 36, 3, 9, 8, 0) := rfl
theorem sl_18_77 : pm_18.2.2.2.2.2 77 = some (.aload_n 0, 1, 0, 0, 0) := rfl
theorem sl_18_78 : pm_18.2.2.2.2.2 78 = some (.sipush 192, 3, 0, 0, 0) := rfl
theorem sl_18_81 : pm_18.2.2.2.2.2 81 = some (.newarray .long, 2, 1, 0, 0) := rfl
theorem sl_18_83 : pm_18.2.2.2.2.2 83 = some (.putfield 40, 3, 9, 9, 0) := rfl
theorem sl_18_86 : pm_18.2.2.2.2.2 86 = some (.aload_n 0, 1, 0, 0, 0) := rfl
theorem sl_18_87 : pm_18.2.2.2.2.2 87 = some (.bipush 48, 2, 0, 0, 0) := rfl
theorem sl_18_89 : pm_18.2.2.2.2.2 89 = some (.newarray .int, 2, 0, 0, 0) := rfl
theorem sl_18_91 : pm_18.2.2.2.2.2 91 = some (.putfield 43, 3, 9, 10, 0) := rfl
theorem sl_18_94 : pm_18.2.2.2.2.2 94 = some (.aload_n 0, 1, 0, 0, 0) := rfl
theorem sl_18_95 : pm_18.2.2.2.2.2 95 = some (.bipush 12, 2, 0, 0, 0) := rfl
theorem sl_18_97 : pm_18.2.2.2.2.2 97 = some (.newarray .int, 2, 0, 0, 0) := rfl
theorem sl_18_99 : pm_18.2.2.2.2.2 99 = some (.putfield 46, 3, 9, 11, 0) := rfl
theorem sl_18_102 : pm_18.2.2.2.2.2 102 = some (.aload_n 0, 1, 0, 0, 0) := rfl
theorem sl_18_103 : pm_18.2.2.2.2.2 103 = some (.bipush 12, 2, 0, 0, 0) := rfl
theorem sl_18_105 : pm_18.2.2.2.2.2 105 = some (.newarray .int, 2, 0, 0, 0) := rfl
theorem sl_18_107 : pm_18.2.2.2.2.2 107 = some (.putfield 49, 3, 9, 12, 0) := rfl
theorem sl_18_110 : pm_18.2.2.2.2.2 110 = some (.aload_n 0, 1, 0, 0, 0) := rfl
theorem sl_18_111 : pm_18.2.2.2.2.2 111 = some (.bipush 12, 2, 0, 0, 0) := rfl
theorem sl_18_113 : pm_18.2.2.2.2.2 113 = some (.newarray .int, 2, 0, 0, 0) := rfl
theorem sl_18_115 : pm_18.2.2.2.2.2 115 = some (.putfield 52, 3, 9, 13, 0) := rfl
theorem sl_18_118 : pm_18.2.2.2.2.2 118 = some (.return_, 1, 0, 0, 0) := rfl
theorem sl_19_0 : pm_19.2.2.2.2.2 0 = some (.aload_n 0, 1, 0, 0, 0) := rfl
theorem sl_19_1 : pm_19.2.2.2.2.2 1 = some (.invokespecial 3, 3, 0, 0, 6) := rfl
theorem sl_19_4 : pm_19.2.2.2.2.2 4 = some (.aload_n 0, 1, 0, 0, 0) := rfl
theorem sl_19_5 : pm_19.2.2.2.2.2 5 = some (.iconst 4, 1, 0, 0, 0) := rfl
theorem sl_19_6 : pm_19.2.2.2.2.2 6 = some (.newarray .int, 2, 0, 0, 0) := rfl
theorem sl_19_8 : pm_19.2.2.2.2.2 8 = some (.putfield 9, 3, 10, 0, 0) := rfl
theorem sl_19_11 : pm_19.2.2.2.2.2 11 = some (.aload_n 0, 1, 0, 0, 0) := rfl
theorem sl_19_12 : pm_19.2.2.2.2.2 12 = some (.iconst 4, 1, 0, 0, 0) := rfl
theorem sl_19_13 : pm_19.2.2.2.2.2 13 = some (.newarray .int, 2, 0, 0, 0) := rfl
theorem sl_19_15 : pm_19.2.2.2.2.2 15 = some (.putfield 15, 3, 10, 1, 0) := rfl
theorem sl_19_18 : pm_19.2.2.2.2.2 18 = some (.aload_n 0, 1, 0, 0, 0) := rfl
theorem sl_19_19 : pm_19.2.2.2.2.2 19 = some (.iconst 4, 1, 0, 0, 0) := rfl
theorem sl_19_20 : pm_19.2.2.2.2.2 20 = some (.newarray .int, 2, 0, 0, 0) := rfl
theorem sl_19_22 : pm_19.2.2.2.2.2 22 = some (.putfield 18, 3, 10, 2, 0) := rfl
theorem sl_19_25 : pm_19.2.2.2.2.2 25 = some (.aload_n 0, 1, 0, 0, 0) := rfl
theorem sl_19_26 : pm_19.2.2.2.2.2 26 = some (.iconst 4, 1, 0, 0, 0) := rfl
theorem sl_19_27 : pm_19.2.2.2.2.2 27 = some (.newarray .int, 2, 0, 0, 0) := rfl
theorem sl_19_29 : pm_19.2.2.2.2.2 29 = some (.putfield 21, 3, 10, 3, 0) := rfl
theorem sl_19_32 : pm_19.2.2.2.2.2 32 = some (.aload_n 0, 1, 0, 0, 0) := rfl
theorem sl_19_33 : pm_19.2.2.2.2.2 33 = some (.bipush 8, 2, 0, 0, 0) := rfl
theorem sl_19_35 : pm_19.2.2.2.2.2 35 = some (.newarray .int, 2, 0, 0, 0) := rfl
theorem sl_19_37 : pm_19.2.2.2.2.2 37 = some (.putfield 24, 3, 10, 4, 0) := rfl
theorem sl_19_40 : pm_19.2.2.2.2.2 40 = some (.aload_n 0, 1, 0, 0, 0) := rfl
theorem sl_19_41 : pm_19.2.2.2.2.2 41 = some (.iconst 4, 1, 0, 0, 0) := rfl
theorem sl_19_42 : pm_19.2.2.2.2.2 42 = some (.newarray .long, 2, 1, 0, 0) := rfl
theorem sl_19_44 : pm_19.2.2.2.2.2 44 = some (.putfield 27, 3, 10, 5, 0) := rfl
theorem sl_19_47 : pm_19.2.2.2.2.2 47 = some (.aload_n 0, 1, 0, 0, 0) := rfl
theorem sl_19_48 : pm_19.2.2.2.2.2 48 = some (.sipush 288, 3, 0, 0, 0) := rfl
theorem sl_19_51 : pm_19.2.2.2.2.2 51 = some (.newarray .long, 2, 1, 0, 0) := rfl
theorem sl_19_53 : pm_19.2.2.2.2.2 53 = some (.putfield 31, 3, 10, 6, 0) := rfl
theorem sl_19_56 : pm_19.2.2.2.2.2 56 = some (.aload_n 0, 1, 0, 0, 0) := rfl
theorem sl_19_57 : pm_19.2.2.2.2.2 57 = some (.sipush 288, 3, 0, 0, 0) := rfl
theorem sl_19_60 : pm_19.2.2.2.2.2 60 = some (.newarray .long, 2, 1, 0, 0) := rfl
theorem sl_19_62 : pm_19.2.2.2.2.2 62 = some (.putfield 34, 3, 10, 7, 0) := rfl
theorem sl_19_65 : pm_19.2.2.2.2.2 65 = some (.aload_n 0, 1, 0, 0, 0) := rfl
theorem sl_19_66 : pm_19.2.2.2.2.2 66 = some (.sipush 288, 3, 0, 0, 0) := rfl
theorem sl_19_69 : pm_19.2.2.2.2.2 69 = some (.newarray .long, 2, 1, 0, 0) := rfl
theorem sl_19_71 : pm_19.2.2.2.2.2 71 = some (.putfield 37, 3, 10, 8, 0) := rfl
theorem sl_19_74 : pm_19.2.2.2.2.2 74 = some (.aload_n 0, 1, 0, 0, 0) := rfl
theorem sl_19_75 : pm_19.2.2.2.2.2 75 = some (.bipush 72, 2, 0, 0, 0) := rfl
theorem sl_19_77 : pm_19.2.2.2.2.2 77 = some (.newarray .int, 2, 0, 0, 0) := rfl
theorem sl_19_79 : pm_19.2.2.2.2.2 79 = some (.putfield 40, 3, 10, 9, 0) := rfl
theorem sl_19_82 : pm_19.2.2.2.2.2 82 = some (.aload_n 0, 1, 0, 0, 0) := rfl
theorem sl_19_83 : pm_19.2.2.2.2.2 83 = some (.bipush 72, 2, 0, 0, 0) := rfl
theorem sl_19_85 : pm_19.2.2.2.2.2 85 = some (.newarray .int, 2, 0, 0, 0) := rfl
theorem sl_19_87 : pm_19.2.2.2.2.2 87 = some (.putfield 43, 3, 10, 10, 0) := rfl
theorem sl_19_90 : pm_19.2.2.2.2.2 90 = some (.aload_n 0, 1, 0, 0, 0) := rfl
theorem sl_19_91 : pm_19.2.2.2.2.2 91 = some (.bipush 16, 2, 0, 0, 0) := rfl
theorem sl_19_93 : pm_19.2.2.2.2.2 93 = some (.newarray .int, 2, 0, 0, 0) := rfl
theorem sl_19_95 : pm_19.2.2.2.2.2 95 = some (.putfield 46, 3, 10, 11, 0) := rfl
theorem sl_19_98 : pm_19.2.2.2.2.2 98 = some (.return_, 1, 0, 0, 0) := rfl
theorem sl_20_0 : pm_20.2.2.2.2.2 0 = some (.aload_n 0, 1, 0, 0, 0) := rfl
theorem sl_20_1 : pm_20.2.2.2.2.2 1 = some (.invokespecial 3, 3, 0, 0, 6) := rfl
theorem sl_20_4 : pm_20.2.2.2.2.2 4 = some (.aload_n 0, 1, 0, 0, 0) := rfl
theorem sl_20_5 : pm_20.2.2.2.2.2 5 = some (.bipush 9, 2, 0, 0, 0) := rfl
theorem sl_20_7 : pm_20.2.2.2.2.2 7 = some (.newarray .int, 2, 0, 0, 0) := rfl
theorem sl_20_9 : pm_20.2.2.2.2.2 9 = some (.putfield 9, 3, 7, 6, 0) := rfl
theorem sl_20_12 : pm_20.2.2.2.2.2 12 = some (.aload_n 0, 1, 0, 0, 0) := rfl
theorem sl_20_13 : pm_20.2.2.2.2.2 13 = some (.bipush 9, 2, 0, 0, 0) := rfl
theorem sl_20_15 : pm_20.2.2.2.2.2 15 = some (.newarray .int, 2, 0, 0, 0) := rfl
theorem sl_20_17 : pm_20.2.2.2.2.2 17 = some (.putfield 15, 3, 7, 7, 0) := rfl
theorem sl_20_20 : pm_20.2.2.2.2.2 20 = some (.aload_n 0, 1, 0, 0, 0) := rfl
theorem sl_20_21 : pm_20.2.2.2.2.2 21 = some (.aload_n 1, 1, 0, 0, 0) := rfl
theorem sl_20_22 : pm_20.2.2.2.2.2 22 = some (.putfield 18, 3, 7, 0, 0) := rfl
theorem sl_20_25 : pm_20.2.2.2.2.2 25 = some (.aload_n 0, 1, 0, 0, 0) := rfl
theorem sl_20_26 : pm_20.2.2.2.2.2 26 = some (.aload_n 2, 1, 0, 0, 0) := rfl
theorem sl_20_27 : pm_20.2.2.2.2.2 27 = some (.putfield 22, 3, 7, 1, 0) := rfl
theorem sl_20_30 : pm_20.2.2.2.2.2 30 = some (.aload_n 0, 1, 0, 0, 0) := rfl
theorem sl_20_31 : pm_20.2.2.2.2.2 31 = some (.new 26, 3, 2, 0, 0) := rfl
theorem sl_20_34 : pm_20.2.2.2.2.2 34 = some (.dup, 1, 0, 0, 0) := rfl
theorem sl_20_35 : pm_20.2.2.2.2.2 35 = some (.aload_n 1, 1, 0, 0, 0) := rfl
theorem sl_20_36 : pm_20.2.2.2.2.2 36 = some (.aload_n 2, 1, 0, 0, 0) := rfl
theorem sl_20_37 : pm_20.2.2.2.2.2 37 = some (.invokespecial 28, 3, 21, 2, 4) := rfl
theorem sl_20_40 : pm_20.2.2.2.2.2 40 = some (.putfield 31, 3, 7, 2, 0) := rfl
theorem sl_20_43 : pm_20.2.2.2.2.2 43 = some (.aload_n 0, 1, 0, 0, 0) := rfl
theorem sl_20_44 : pm_20.2.2.2.2.2 44 = some (.aload_n 2, 1, 0, 0, 0) := rfl
theorem sl_20_45 : pm_20.2.2.2.2.2 45 = some (.getfield 35, 3, 6, 10, 0) := rfl
theorem sl_20_48 : pm_20.2.2.2.2.2 48 = some (.putfield 41, 3, 7, 3, 0) := rfl
theorem sl_20_51 : pm_20.2.2.2.2.2 51 = some (.aload_n 0, 1, 0, 0, 0) := rfl
theorem sl_20_52 : pm_20.2.2.2.2.2 52 = some (.aload_n 2, 1, 0, 0, 0) := rfl
theorem sl_20_53 : pm_20.2.2.2.2.2 53 = some (.getfield 42, 3, 6, 11, 0) := rfl
theorem sl_20_56 : pm_20.2.2.2.2.2 56 = some (.putfield 46, 3, 7, 4, 0) := rfl
theorem sl_20_59 : pm_20.2.2.2.2.2 59 = some (.aload_n 0, 1, 0, 0, 0) := rfl
theorem sl_20_60 : pm_20.2.2.2.2.2 60 = some (.aload_n 2, 1, 0, 0, 0) := rfl
theorem sl_20_61 : pm_20.2.2.2.2.2 61 = some (.getfield 47, 3, 6, 12, 0) := rfl
theorem sl_20_64 : pm_20.2.2.2.2.2 64 = some (.putfield 51, 3, 7, 5, 0) := rfl
theorem sl_20_67 : pm_20.2.2.2.2.2 67 = some (.return_, 1, 0, 0, 0) := rfl
theorem sl_21_0 : pm_21.2.2.2.2.2 0 = some (.aload_n 0, 1, 0, 0, 0) := rfl
theorem sl_21_1 : pm_21.2.2.2.2.2 1 = some (.invokespecial 3, 3, 0, 0, 6) := rfl
theorem sl_21_4 : pm_21.2.2.2.2.2 4 = some (.aload_n 0, 1, 0, 0, 0) := rfl
theorem sl_21_5 : pm_21.2.2.2.2.2 5 = some (.sipush 288, 3, 0, 0, 0) := rfl
theorem sl_21_8 : pm_21.2.2.2.2.2 8 = some (.newarray .int, 2, 0, 0, 0) := rfl
theorem sl_21_10 : pm_21.2.2.2.2.2 10 = some (.putfield 9, 3, 2, 3, 0) := rfl
theorem sl_21_13 : pm_21.2.2.2.2.2 13 = some (.aload_n 0, 1, 0, 0, 0) := rfl
theorem sl_21_14 : pm_21.2.2.2.2.2 14 = some (.sipush 288, 3, 0, 0, 0) := rfl
theorem sl_21_17 : pm_21.2.2.2.2.2 17 = some (.newarray .int, 2, 0, 0, 0) := rfl
theorem sl_21_19 : pm_21.2.2.2.2.2 19 = some (.putfield 15, 3, 2, 4, 0) := rfl
theorem sl_21_22 : pm_21.2.2.2.2.2 22 = some (.aload_n 0, 1, 0, 0, 0) := rfl
theorem sl_21_23 : pm_21.2.2.2.2.2 23 = some (.sipush 576, 3, 0, 0, 0) := rfl
theorem sl_21_26 : pm_21.2.2.2.2.2 26 = some (.newarray .int, 2, 0, 0, 0) := rfl
theorem sl_21_28 : pm_21.2.2.2.2.2 28 = some (.putfield 18, 3, 2, 5, 0) := rfl
theorem sl_21_31 : pm_21.2.2.2.2.2 31 = some (.aload_n 0, 1, 0, 0, 0) := rfl
theorem sl_21_32 : pm_21.2.2.2.2.2 32 = some (.aload_n 1, 1, 0, 0, 0) := rfl
theorem sl_21_33 : pm_21.2.2.2.2.2 33 = some (.putfield 21, 3, 2, 0, 0) := rfl
theorem sl_21_36 : pm_21.2.2.2.2.2 36 = some (.aload_n 0, 1, 0, 0, 0) := rfl
theorem sl_21_37 : pm_21.2.2.2.2.2 37 = some (.aload_n 2, 1, 0, 0, 0) := rfl
theorem sl_21_38 : pm_21.2.2.2.2.2 38 = some (.putfield 25, 3, 2, 1, 0) := rfl
theorem sl_21_41 : pm_21.2.2.2.2.2 41 = some (.aload_n 0, 1, 0, 0, 0) := rfl
theorem sl_21_42 : pm_21.2.2.2.2.2 42 = some (.aload_n 2, 1, 0, 0, 0) := rfl
theorem sl_21_43 : pm_21.2.2.2.2.2 43 = some (.getfield 29, 3, 6, 9, 0) := rfl
theorem sl_21_46 : pm_21.2.2.2.2.2 46 = some (.putfield 35, 3, 2, 2, 0) := rfl
theorem sl_21_49 : pm_21.2.2.2.2.2 49 = some (.return_, 1, 0, 0, 0) := rfl
theorem sl_22_0 : pm_22.2.2.2.2.2 0 = some (.aload_n 0, 1, 0, 0, 0) := rfl
theorem sl_22_1 : pm_22.2.2.2.2.2 1 = some (.invokespecial 3, 3, 0, 0, 6) := rfl
theorem sl_22_4 : pm_22.2.2.2.2.2 4 = some (.aload_n 0, 1, 0, 0, 0) := rfl
theorem sl_22_5 : pm_22.2.2.2.2.2 5 = some (.sipush 128, 3, 0, 0, 0) := rfl
theorem sl_22_8 : pm_22.2.2.2.2.2 8 = some (.anewarray 9, 3, 5, 0, 0) := rfl
theorem sl_22_11 : pm_22.2.2.2.2.2 11 = some (.putfield 11, 3, 5, 1, 0) := rfl
theorem sl_22_14 : pm_22.2.2.2.2.2 14 = some (.aload_n 0, 1, 0, 0, 0) := rfl
theorem sl_22_15 : pm_22.2.2.2.2.2 15 = some (.bipush 12, 2, 0, 0, 0) := rfl
theorem sl_22_17 : pm_22.2.2.2.2.2 17 = some (.anewarray 9, 3, 5, 0, 0) := rfl
theorem sl_22_20 : pm_22.2.2.2.2.2 20 = some (.putfield 17, 3, 5, 2, 0) := rfl
theorem sl_22_23 : pm_22.2.2.2.2.2 23 = some (.aload_n 0, 1, 0, 0, 0) := rfl
theorem sl_22_24 : pm_22.2.2.2.2.2 24 = some (.sipush 512, 3, 0, 0, 0) := rfl
theorem sl_22_27 : pm_22.2.2.2.2.2 27 = some (.newarray .long, 2, 1, 0, 0) := rfl
theorem sl_22_29 : pm_22.2.2.2.2.2 29 = some (.putfield 20, 3, 5, 3, 0) := rfl
theorem sl_22_32 : pm_22.2.2.2.2.2 32 = some (.aload_n 0, 1, 0, 0, 0) := rfl
theorem sl_22_33 : pm_22.2.2.2.2.2 33 = some (.aload_n 1, 1, 0, 0, 0) := rfl
theorem sl_22_34 : pm_22.2.2.2.2.2 34 = some (.putfield 24, 3, 5, 0, 0) := rfl
theorem sl_22_37 : pm_22.2.2.2.2.2 37 = some (.return_, 1, 0, 0, 0) := rfl
theorem sl_206_0 : pm_206.2.2.2.2.2 0 = some (.aload_n 0, 1, 0, 0, 0) := rfl
theorem sl_206_1 : pm_206.2.2.2.2.2 1 = some (.invokespecial 1, 3, 0, 0, 6) := rfl
theorem sl_206_4 : pm_206.2.2.2.2.2 4 = some (.aload_n 0, 1, 0, 0, 0) := rfl
theorem sl_206_5 : pm_206.2.2.2.2.2 5 = some (.sipush 178, 3, 0, 0, 0) := rfl
theorem sl_206_8 : pm_206.2.2.2.2.2 8 = some (.newarray .int, 2, 0, 0, 0) := rfl
theorem sl_206_10 : pm_206.2.2.2.2.2 10 = some (.dup, 1, 0, 0, 0) := rfl
theorem sl_206_11 : pm_206.2.2.2.2.2 11 = some (.iconst 0, 1, 0, 0, 0) := rfl
theorem sl_206_12 : pm_206.2.2.2.2.2 12 = some (.bipush 104, 2, 0, 0, 0) := rfl
theorem sl_206_14 : pm_206.2.2.2.2.2 14 = some (.iastore, 1, 0, 0, 0) := rfl
theorem sl_206_15 : pm_206.2.2.2.2.2 15 = some (.dup, 1, 0, 0, 0) := rfl
theorem sl_206_16 : pm_206.2.2.2.2.2 16 = some (.iconst 1, 1, 0, 0, 0) := rfl
theorem sl_206_17 : pm_206.2.2.2.2.2 17 = some (.bipush 101, 2, 0, 0, 0) := rfl
theorem sl_206_19 : pm_206.2.2.2.2.2 19 = some (.iastore, 1, 0, 0, 0) := rfl
theorem sl_206_20 : pm_206.2.2.2.2.2 20 = some (.dup, 1, 0, 0, 0) := rfl
theorem sl_206_21 : pm_206.2.2.2.2.2 21 = some (.iconst 2, 1, 0, 0, 0) := rfl
theorem sl_206_22 : pm_206.2.2.2.2.2 22 = some (.bipush 97, 2, 0, 0, 0) := rfl
theorem sl_206_24 : pm_206.2.2.2.2.2 24 = some (.iastore, 1, 0, 0, 0) := rfl
theorem sl_206_25 : pm_206.2.2.2.2.2 25 = some (.dup, 1, 0, 0, 0) := rfl
theorem sl_206_26 : pm_206.2.2.2.2.2 26 = some (.iconst 3, 1, 0, 0, 0) := rfl
theorem sl_206_27 : pm_206.2.2.2.2.2 27 = some (.bipush 100, 2, 0, 0, 0) := rfl
theorem sl_206_29 : pm_206.2.2.2.2.2 29 = some (.iastore, 1, 0, 0, 0) := rfl
theorem sl_206_30 : pm_206.2.2.2.2.2 30 = some (.dup, 1, 0, 0, 0) := rfl
theorem sl_206_31 : pm_206.2.2.2.2.2 31 = some (.iconst 4, 1, 0, 0, 0) := rfl
theorem sl_206_32 : pm_206.2.2.2.2.2 32 = some (.bipush 101, 2, 0, 0, 0) := rfl
theorem sl_206_34 : pm_206.2.2.2.2.2 34 = some (.iastore, 1, 0, 0, 0) := rfl
theorem sl_206_35 : pm_206.2.2.2.2.2 35 = some (.dup, 1, 0, 0, 0) := rfl
theorem sl_206_36 : pm_206.2.2.2.2.2 36 = some (.iconst 5, 1, 0, 0, 0) := rfl
theorem sl_206_37 : pm_206.2.2.2.2.2 37 = some (.bipush 114, 2, 0, 0, 0) := rfl
theorem sl_206_39 : pm_206.2.2.2.2.2 39 = some (.iastore, 1, 0, 0, 0) := rfl
theorem sl_206_40 : pm_206.2.2.2.2.2 40 = some (.dup, 1, 0, 0, 0) := rfl
theorem sl_206_41 : pm_206.2.2.2.2.2 41 = some (.bipush 6, 2, 0, 0, 0) := rfl
theorem sl_206_43 : pm_206.2.2.2.2.2 43 = some (.iconst 0, 1, 0, 0, 0) := rfl
theorem sl_206_44 : pm_206.2.2.2.2.2 44 = some (.iastore, 1, 0, 0, 0) := rfl
theorem sl_206_45 : pm_206.2.2.2.2.2 45 = some (.dup, 1, 0, 0, 0) := rfl
theorem sl_206_46 : pm_206.2.2.2.2.2 46 = some (.bipush 7, 2, 0, 0, 0) := rfl
theorem sl_206_48 : pm_206.2.2.2.2.2 48 = some (.bipush 117, 2, 0, 0, 0) := rfl
theorem sl_206_50 : pm_206.2.2.2.2.2 50 = some (.iastore, 1, 0, 0, 0) := rfl
theorem sl_206_51 : pm_206.2.2.2.2.2 51 = some (.dup, 1, 0, 0, 0) := rfl
theorem sl_206_52 : pm_206.2.2.2.2.2 52 = some (.bipush 8, 2, 0, 0, 0) := rfl
theorem sl_206_54 : pm_206.2.2.2.2.2 54 = some (.bipush 115, 2, 0, 0, 0) := rfl
theorem sl_206_56 : pm_206.2.2.2.2.2 56 = some (.iastore, 1, 0, 0, 0) := rfl
theorem sl_206_57 : pm_206.2.2.2.2.2 57 = some (.dup, 1, 0, 0, 0) := rfl
theorem sl_206_58 : pm_206.2.2.2.2.2 58 = some (.bipush 9, 2, 0, 0, 0) := rfl
theorem sl_206_60 : pm_206.2.2.2.2.2 60 = some (.bipush 101, 2, 0, 0, 0) := rfl
theorem sl_206_62 : pm_206.2.2.2.2.2 62 = some (.iastore, 1, 0, 0, 0) := rfl
theorem sl_206_63 : pm_206.2.2.2.2.2 63 = some (.dup, 1, 0, 0, 0) := rfl
theorem sl_206_64 : pm_206.2.2.2.2.2 64 = some (.bipush 10, 2, 0, 0, 0) := rfl
theorem sl_206_66 : pm_206.2.2.2.2.2 66 = some (.iconst 0, 1, 0, 0, 0) := rfl
theorem sl_206_67 : pm_206.2.2.2.2.2 67 = some (.iastore, 1, 0, 0, 0) := rfl
theorem sl_206_68 : pm_206.2.2.2.2.2 68 = some (.dup, 1, 0, 0, 0) := rfl
theorem sl_206_69 : pm_206.2.2.2.2.2 69 = some (.bipush 11, 2, 0, 0, 0) := rfl
theorem sl_206_71 : pm_206.2.2.2.2.2 71 = some (.bipush 109, 2, 0, 0, 0) := rfl
theorem sl_206_73 : pm_206.2.2.2.2.2 73 = some (.iastore, 1, 0, 0, 0) := rfl
theorem sl_206_74 : pm_206.2.2.2.2.2 74 = some (.dup, 1, 0, 0, 0) := rfl
theorem sl_206_75 : pm_206.2.2.2.2.2 75 = some (.bipush 12, 2, 0, 0, 0) := rfl
theorem sl_206_77 : pm_206.2.2.2.2.2 77 = some (.bipush 101, 2, 0, 0, 0) := rfl
theorem sl_206_79 : pm_206.2.2.2.2.2 79 = some (.iastore, 1, 0, 0, 0) := rfl
theorem sl_206_80 : pm_206.2.2.2.2.2 80 = some (.dup, 1, 0, 0, 0) := rfl
theorem sl_206_81 : pm_206.2.2.2.2.2 81 = some (.bipush 13, 2, 0, 0, 0) := rfl
theorem sl_206_83 : pm_206.2.2.2.2.2 83 = some (.bipush 116, 2, 0, 0, 0) := rfl
theorem sl_206_85 : pm_206.2.2.2.2.2 85 = some (.iastore, 1, 0, 0, 0) := rfl
theorem sl_206_86 : pm_206.2.2.2.2.2 86 = some (.dup, 1, 0, 0, 0) := rfl
theorem sl_206_87 : pm_206.2.2.2.2.2 87 = some (.bipush 14, 2, 0, 0, 0) := rfl
theorem sl_206_89 : pm_206.2.2.2.2.2 89 = some (.bipush 97, 2, 0, 0, 0) := rfl
theorem sl_206_91 : pm_206.2.2.2.2.2 91 = some (.iastore, 1, 0, 0, 0) := rfl
theorem sl_206_92 : pm_206.2.2.2.2.2 92 = some (.dup, 1, 0, 0, 0) := rfl
theorem sl_206_93 : pm_206.2.2.2.2.2 93 = some (.bipush 15, 2, 0, 0, 0) := rfl
theorem sl_206_95 : pm_206.2.2.2.2.2 95 = some (.iconst 0, 1, 0, 0, 0) := rfl
theorem sl_206_96 : pm_206.2.2.2.2.2 96 = some (.iastore, 1, 0, 0, 0) := rfl
theorem sl_206_97 : pm_206.2.2.2.2.2 97 = some (.dup, 1, 0, 0, 0) := rfl
theorem sl_206_98 : pm_206.2.2.2.2.2 98 = some (.bipush 16, 2, 0, 0, 0) := rfl
theorem sl_206_100 : pm_206.2.2.2.2.2 100 = some (.bipush 97, 2, 0, 0, 0) := rfl
theorem sl_206_102 : pm_206.2.2.2.2.2 102 = some (.iastore, 1, 0, 0, 0) := rfl
theorem sl_206_103 : pm_206.2.2.2.2.2 103 = some (.dup, 1, 0, 0, 0) := rfl
theorem sl_206_104 : pm_206.2.2.2.2.2 104 = some (.bipush 17, 2, 0, 0, 0) := rfl
theorem sl_206_106 : pm_206.2.2.2.2.2 106 = some (.bipush 114, 2, 0, 0, 0) := rfl
theorem sl_206_108 : pm_206.2.2.2.2.2 108 = some (.iastore, 1, 0, 0, 0) := rfl
theorem sl_206_109 : pm_206.2.2.2.2.2 109 = some (.dup, 1, 0, 0, 0) := rfl
theorem sl_206_110 : pm_206.2.2.2.2.2 110 = some (.bipush 18, 2, 0, 0, 0) := rfl
theorem sl_206_112 : pm_206.2.2.2.2.2 112 = some (.bipush 114, 2, 0, 0, 0) := rfl
theorem sl_206_114 : pm_206.2.2.2.2.2 114 = some (.iastore, 1, 0, 0, 0) := rfl
theorem sl_206_115 : pm_206.2.2.2.2.2 115 = some (.dup, 1, 0, 0, 0) := rfl
theorem sl_206_116 : pm_206.2.2.2.2.2 116 = some (.bipush 19, 2, 0, 0, 0) := rfl
theorem sl_206_118 : pm_206.2.2.2.2.2 118 = some (.bipush 97, 2, 0, 0, 0) := rfl
theorem sl_206_120 : pm_206.2.2.2.2.2 120 = some (.iastore, 1, 0, 0, 0) := rfl
theorem sl_206_121 : pm_206.2.2.2.2.2 121 = some (.dup, 1, 0, 0, 0) := rfl
theorem sl_206_122 : pm_206.2.2.2.2.2 122 = some (.bipush 20, 2, 0, 0, 0) := rfl
theorem sl_206_124 : pm_206.2.2.2.2.2 124 = some (.bipush 121, 2, 0, 0, 0) := rfl
theorem sl_206_126 : pm_206.2.2.2.2.2 126 = some (.iastore, 1, 0, 0, 0) := rfl
theorem sl_206_127 : pm_206.2.2.2.2.2 127 = some (.dup, 1, 0, 0, 0) := rfl
theorem sl_206_128 : pm_206.2.2.2.2.2 128 = some (.bipush 21, 2, 0, 0, 0) := rfl
theorem sl_206_130 : pm_206.2.2.2.2.2 130 = some (.iconst 0, 1, 0, 0, 0) := rfl
theorem sl_206_131 : pm_206.2.2.2.2.2 131 = some (.iastore, 1, 0, 0, 0) := rfl
theorem sl_206_132 : pm_206.2.2.2.2.2 132 = some (.dup, 1, 0, 0, 0) := rfl
theorem sl_206_133 : pm_206.2.2.2.2.2 133 = some (.bipush 22, 2, 0, 0, 0) := rfl
theorem sl_206_135 : pm_206.2.2.2.2.2 135 = some (.bipush 115, 2, 0, 0, 0) := rfl
theorem sl_206_137 : pm_206.2.2.2.2.2 137 = some (.iastore, 1, 0, 0, 0) := rfl
theorem sl_206_138 : pm_206.2.2.2.2.2 138 = some (.dup, 1, 0, 0, 0) := rfl
theorem sl_206_139 : pm_206.2.2.2.2.2 139 = some (.bipush 23, 2, 0, 0, 0) := rfl
theorem sl_206_141 : pm_206.2.2.2.2.2 141 = some (.bipush 116, 2, 0, 0, 0) := rfl
theorem sl_206_143 : pm_206.2.2.2.2.2 143 = some (.iastore, 1, 0, 0, 0) := rfl
theorem sl_206_144 : pm_206.2.2.2.2.2 144 = some (.dup, 1, 0, 0, 0) := rfl
theorem sl_206_145 : pm_206.2.2.2.2.2 145 = some (.bipush 24, 2, 0, 0, 0) := rfl
theorem sl_206_147 : pm_206.2.2.2.2.2 147 = some (.bipush 97, 2, 0, 0, 0) := rfl
theorem sl_206_149 : pm_206.2.2.2.2.2 149 = some (.iastore, 1, 0, 0, 0) := rfl
theorem sl_206_150 : pm_206.2.2.2.2.2 150 = some (.dup, 1, 0, 0, 0) := rfl
theorem sl_206_151 : pm_206.2.2.2.2.2 151 = some (.bipush 25, 2, 0, 0, 0) := rfl
theorem sl_206_153 : pm_206.2.2.2.2.2 153 = some (.bipush 116, 2, 0, 0, 0) := rfl
theorem sl_206_155 : pm_206.2.2.2.2.2 155 = some (.iastore, 1, 0, 0, 0) := rfl
theorem sl_206_156 : pm_206.2.2.2.2.2 156 = some (.dup, 1, 0, 0, 0) := rfl
theorem sl_206_157 : pm_206.2.2.2.2.2 157 = some (.bipush 26, 2, 0, 0, 0) := rfl
theorem sl_206_159 : pm_206.2.2.2.2.2 159 = some (.bipush 101, 2, 0, 0, 0) := rfl
theorem sl_206_161 : pm_206.2.2.2.2.2 161 = some (.iastore, 1, 0, 0, 0) := rfl
theorem sl_206_162 : pm_206.2.2.2.2.2 162 = some (.dup, 1, 0, 0, 0) := rfl
theorem sl_206_163 : pm_206.2.2.2.2.2 163 = some (.bipush 27, 2, 0, 0, 0) := rfl
theorem sl_206_165 : pm_206.2.2.2.2.2 165 = some (.iconst 0, 1, 0, 0, 0) := rfl
theorem sl_206_166 : pm_206.2.2.2.2.2 166 = some (.iastore, 1, 0, 0, 0) := rfl
theorem sl_206_167 : pm_206.2.2.2.2.2 167 = some (.dup, 1, 0, 0, 0) := rfl
theorem sl_206_168 : pm_206.2.2.2.2.2 168 = some (.bipush 28, 2, 0, 0, 0) := rfl
theorem sl_206_170 : pm_206.2.2.2.2.2 170 = some (.bipush 101, 2, 0, 0, 0) := rfl
theorem sl_206_172 : pm_206.2.2.2.2.2 172 = some (.iastore, 1, 0, 0, 0) := rfl
theorem sl_206_173 : pm_206.2.2.2.2.2 173 = some (.dup, 1, 0, 0, 0) := rfl
theorem sl_206_174 : pm_206.2.2.2.2.2 174 = some (.bipush 29, 2, 0, 0, 0) := rfl
theorem sl_206_176 : pm_206.2.2.2.2.2 176 = some (.bipush 120, 2, 0, 0, 0) := rfl
theorem sl_206_178 : pm_206.2.2.2.2.2 178 = some (.iastore, 1, 0, 0, 0) := rfl
theorem sl_206_179 : pm_206.2.2.2.2.2 179 = some (.dup, 1, 0, 0, 0) := rfl
theorem sl_206_180 : pm_206.2.2.2.2.2 180 = some (.bipush 30, 2, 0, 0, 0) := rfl
theorem sl_206_182 : pm_206.2.2.2.2.2 182 = some (.bipush 116, 2, 0, 0, 0) := rfl
theorem sl_206_184 : pm_206.2.2.2.2.2 184 = some (.iastore, 1, 0, 0, 0) := rfl
theorem sl_206_185 : pm_206.2.2.2.2.2 185 = some (.dup, 1, 0, 0, 0) := rfl
theorem sl_206_186 : pm_206.2.2.2.2.2 186 = some (.bipush 31, 2, 0, 0, 0) := rfl
theorem sl_206_188 : pm_206.2.2.2.2.2 188 = some (.bipush 114, 2, 0, 0, 0) := rfl
theorem sl_206_190 : pm_206.2.2.2.2.2 190 = some (.iastore, 1, 0, 0, 0) := rfl
theorem sl_206_191 : pm_206.2.2.2.2.2 191 = some (.dup, 1, 0, 0, 0) := rfl
theorem sl_206_192 : pm_206.2.2.2.2.2 192 = some (.bipush 32, 2, 0, 0, 0) := rfl
theorem sl_206_194 : pm_206.2.2.2.2.2 194 = some (.bipush 97, 2, 0, 0, 0) := rfl
theorem sl_206_196 : pm_206.2.2.2.2.2 196 = some (.iastore, 1, 0, 0, 0) := rfl
theorem sl_206_197 : pm_206.2.2.2.2.2 197 = some (.dup, 1, 0, 0, 0) := rfl
theorem sl_206_198 : pm_206.2.2.2.2.2 198 = some (.bipush 33, 2, 0, 0, 0) := rfl
theorem sl_206_200 : pm_206.2.2.2.2.2 200 = some (.bipush 99, 2, 0, 0, 0) := rfl
theorem sl_206_202 : pm_206.2.2.2.2.2 202 = some (.iastore, 1, 0, 0, 0) := rfl
theorem sl_206_203 : pm_206.2.2.2.2.2 203 = some (.dup, 1, 0, 0, 0) := rfl
theorem sl_206_204 : pm_206.2.2.2.2.2 204 = some (.bipush 34, 2, 0, 0, 0) := rfl
theorem sl_206_206 : pm_206.2.2.2.2.2 206 = some (.bipush 116, 2, 0, 0, 0) := rfl
theorem sl_206_208 : pm_206.2.2.2.2.2 208 = some (.iastore, 1, 0, 0, 0) := rfl
theorem sl_206_209 : pm_206.2.2.2.2.2 209 = some (.dup, 1, 0, 0, 0) := rfl
theorem sl_206_210 : pm_206.2.2.2.2.2 210 = some (.bipush 35, 2, 0, 0, 0) := rfl
theorem sl_206_212 : pm_206.2.2.2.2.2 212 = some (.iconst 0, 1, 0, 0, 0) := rfl
theorem sl_206_213 : pm_206.2.2.2.2.2 213 = some (.iastore, 1, 0, 0, 0) := rfl
theorem sl_206_214 : pm_206.2.2.2.2.2 214 = some (.dup, 1, 0, 0, 0) := rfl
theorem sl_206_215 : pm_206.2.2.2.2.2 215 = some (.bipush 36, 2, 0, 0, 0) := rfl
theorem sl_206_217 : pm_206.2.2.2.2.2 217 = some (.bipush 103, 2, 0, 0, 0) := rfl
theorem sl_206_219 : pm_206.2.2.2.2.2 219 = some (.iastore, 1, 0, 0, 0) := rfl
theorem sl_206_220 : pm_206.2.2.2.2.2 220 = some (.dup, 1, 0, 0, 0) := rfl
theorem sl_206_221 : pm_206.2.2.2.2.2 221 = some (.bipush 37, 2, 0, 0, 0) := rfl
theorem sl_206_223 : pm_206.2.2.2.2.2 223 = some (.bipush 111, 2, 0, 0, 0) := rfl
theorem sl_206_225 : pm_206.2.2.2.2.2 225 = some (.iastore, 1, 0, 0, 0) := rfl
theorem sl_206_226 : pm_206.2.2.2.2.2 226 = some (.dup, 1, 0, 0, 0) := rfl
theorem sl_206_227 : pm_206.2.2.2.2.2 227 = some (.bipush 38, 2, 0, 0, 0) := rfl
theorem sl_206_229 : pm_206.2.2.2.2.2 229 = some (.bipush 116, 2, 0, 0, 0) := rfl
theorem sl_206_231 : pm_206.2.2.2.2.2 231 = some (.iastore, 1, 0, 0, 0) := rfl
theorem sl_206_232 : pm_206.2.2.2.2.2 232 = some (.dup, 1, 0, 0, 0) := rfl
theorem sl_206_233 : pm_206.2.2.2.2.2 233 = some (.bipush 39, 2, 0, 0, 0) := rfl
theorem sl_206_235 : pm_206.2.2.2.2.2 235 = some (.bipush 111, 2, 0, 0, 0) := rfl
theorem sl_206_237 : pm_206.2.2.2.2.2 237 = some (.iastore, 1, 0, 0, 0) := rfl
theorem sl_206_238 : pm_206.2.2.2.2.2 238 = some (.dup, 1, 0, 0, 0) := rfl
theorem sl_206_239 : pm_206.2.2.2.2.2 239 = some (.bipush 40, 2, 0, 0, 0) := rfl
theorem sl_206_241 : pm_206.2.2.2.2.2 241 = some (.iconst 0, 1, 0, 0, 0) := rfl
theorem sl_206_242 : pm_206.2.2.2.2.2 242 = some (.iastore, 1, 0, 0, 0) := rfl
theorem sl_206_243 : pm_206.2.2.2.2.2 243 = some (.dup, 1, 0, 0, 0) := rfl
theorem sl_206_244 : pm_206.2.2.2.2.2 244 = some (.bipush 41, 2, 0, 0, 0) := rfl
theorem sl_206_246 : pm_206.2.2.2.2.2 246 = some (.bipush 115, 2, 0, 0, 0) := rfl
theorem sl_206_248 : pm_206.2.2.2.2.2 248 = some (.iastore, 1, 0, 0, 0) := rfl
theorem sl_206_249 : pm_206.2.2.2.2.2 249 = some (.dup, 1, 0, 0, 0) := rfl
theorem sl_206_250 : pm_206.2.2.2.2.2 250 = some (.bipush 42, 2, 0, 0, 0) := rfl
theorem sl_206_252 : pm_206.2.2.2.2.2 252 = some (.bipush 101, 2, 0, 0, 0) := rfl
theorem sl_206_254 : pm_206.2.2.2.2.2 254 = some (.iastore, 1, 0, 0, 0) := rfl
theorem sl_206_255 : pm_206.2.2.2.2.2 255 = some (.dup, 1, 0, 0, 0) := rfl
theorem sl_206_256 : pm_206.2.2.2.2.2 256 = some (.bipush 43, 2, 0, 0, 0) := rfl
theorem sl_206_258 : pm_206.2.2.2.2.2 258 = some (.bipush 108, 2, 0, 0, 0) := rfl
theorem sl_206_260 : pm_206.2.2.2.2.2 260 = some (.iastore, 1, 0, 0, 0) := rfl
theorem sl_206_261 : pm_206.2.2.2.2.2 261 = some (.dup, 1, 0, 0, 0) := rfl
theorem sl_206_262 : pm_206.2.2.2.2.2 262 = some (.bipush 44, 2, 0, 0, 0) := rfl
theorem sl_206_264 : pm_206.2.2.2.2.2 264 = some (.bipush 101, 2, 0, 0, 0) := rfl
theorem sl_206_266 : pm_206.2.2.2.2.2 266 = some (.iastore, 1, 0, 0, 0) := rfl
theorem sl_206_267 : pm_206.2.2.2.2.2 267 = some (.dup, 1, 0, 0, 0) := rfl
theorem sl_206_268 : pm_206.2.2.2.2.2 268 = some (.bipush 45, 2, 0, 0, 0) := rfl
theorem sl_206_270 : pm_206.2.2.2.2.2 270 = some (.bipush 99, 2, 0, 0, 0) := rfl
theorem sl_206_272 : pm_206.2.2.2.2.2 272 = some (.iastore, 1, 0, 0, 0) := rfl
theorem sl_206_273 : pm_206.2.2.2.2.2 273 = some (.dup, 1, 0, 0, 0) := rfl
theorem sl_206_274 : pm_206.2.2.2.2.2 274 = some (.bipush 46, 2, 0, 0, 0) := rfl
theorem sl_206_276 : pm_206.2.2.2.2.2 276 = some (.bipush 116, 2, 0, 0, 0) := rfl
theorem sl_206_278 : pm_206.2.2.2.2.2 278 = some (.iastore, 1, 0, 0, 0) := rfl
theorem sl_206_279 : pm_206.2.2.2.2.2 279 = some (.dup, 1, 0, 0, 0) := rfl
theorem sl_206_280 : pm_206.2.2.2.2.2 280 = some (.bipush 47, 2, 0, 0, 0) := rfl
theorem sl_206_282 : pm_206.2.2.2.2.2 282 = some (.iconst 0, 1, 0, 0, 0) := rfl
theorem sl_206_283 : pm_206.2.2.2.2.2 283 = some (.iastore, 1, 0, 0, 0) := rfl
theorem sl_206_284 : pm_206.2.2.2.2.2 284 = some (.dup, 1, 0, 0, 0) := rfl
theorem sl_206_285 : pm_206.2.2.2.2.2 285 = some (.bipush 48, 2, 0, 0, 0) := rfl
theorem sl_206_287 : pm_206.2.2.2.2.2 287 = some (.bipush 100, 2, 0, 0, 0) := rfl
theorem sl_206_289 : pm_206.2.2.2.2.2 289 = some (.iastore, 1, 0, 0, 0) := rfl
theorem sl_206_290 : pm_206.2.2.2.2.2 290 = some (.dup, 1, 0, 0, 0) := rfl
theorem sl_206_291 : pm_206.2.2.2.2.2 291 = some (.bipush 49, 2, 0, 0, 0) := rfl
theorem sl_206_293 : pm_206.2.2.2.2.2 293 = some (.bipush 101, 2, 0, 0, 0) := rfl
theorem sl_206_295 : pm_206.2.2.2.2.2 295 = some (.iastore, 1, 0, 0, 0) := rfl
theorem sl_206_296 : pm_206.2.2.2.2.2 296 = some (.dup, 1, 0, 0, 0) := rfl
theorem sl_206_297 : pm_206.2.2.2.2.2 297 = some (.bipush 50, 2, 0, 0, 0) := rfl
theorem sl_206_299 : pm_206.2.2.2.2.2 299 = some (.bipush 102, 2, 0, 0, 0) := rfl
theorem sl_206_301 : pm_206.2.2.2.2.2 301 = some (.iastore, 1, 0, 0, 0) := rfl
theorem sl_206_302 : pm_206.2.2.2.2.2 302 = some (.dup, 1, 0, 0, 0) := rfl
theorem sl_206_303 : pm_206.2.2.2.2.2 303 = some (.bipush 51, 2, 0, 0, 0) := rfl
theorem sl_206_305 : pm_206.2.2.2.2.2 305 = some (.bipush 97, 2, 0, 0, 0) := rfl
theorem sl_206_307 : pm_206.2.2.2.2.2 307 = some (.iastore, 1, 0, 0, 0) := rfl
theorem sl_206_308 : pm_206.2.2.2.2.2 308 = some (.dup, 1, 0, 0, 0) := rfl
theorem sl_206_309 : pm_206.2.2.2.2.2 309 = some (.bipush 52, 2, 0, 0, 0) := rfl
theorem sl_206_311 : pm_206.2.2.2.2.2 311 = some (.bipush 117, 2, 0, 0, 0) := rfl
theorem sl_206_313 : pm_206.2.2.2.2.2 313 = some (.iastore, 1, 0, 0, 0) := rfl
theorem sl_206_314 : pm_206.2.2.2.2.2 314 = some (.dup, 1, 0, 0, 0) := rfl
theorem sl_206_315 : pm_206.2.2.2.2.2 315 = some (.bipush 53, 2, 0, 0, 0) := rfl
theorem sl_206_317 : pm_206.2.2.2.2.2 317 = some (.bipush 108, 2, 0, 0, 0) := rfl
theorem sl_206_319 : pm_206.2.2.2.2.2 319 = some (.iastore, 1, 0, 0, 0) := rfl
theorem sl_206_320 : pm_206.2.2.2.2.2 320 = some (.dup, 1, 0, 0, 0) := rfl
theorem sl_206_321 : pm_206.2.2.2.2.2 321 = some (.bipush 54, 2, 0, 0, 0) := rfl
theorem sl_206_323 : pm_206.2.2.2.2.2 323 = some (.bipush 116, 2, 0, 0, 0) := rfl
theorem sl_206_325 : pm_206.2.2.2.2.2 325 = some (.iastore, 1, 0, 0, 0) := rfl
theorem sl_206_326 : pm_206.2.2.2.2.2 326 = some (.dup, 1, 0, 0, 0) := rfl
theorem sl_206_327 : pm_206.2.2.2.2.2 327 = some (.bipush 55, 2, 0, 0, 0) := rfl
theorem sl_206_329 : pm_206.2.2.2.2.2 329 = some (.iconst 0, 1, 0, 0, 0) := rfl
theorem sl_206_330 : pm_206.2.2.2.2.2 330 = some (.iastore, 1, 0, 0, 0) := rfl
theorem sl_206_331 : pm_206.2.2.2.2.2 331 = some (.dup, 1, 0, 0, 0) := rfl
theorem sl_206_332 : pm_206.2.2.2.2.2 332 = some (.bipush 56, 2, 0, 0, 0) := rfl
theorem sl_206_334 : pm_206.2.2.2.2.2 334 = some (.bipush 97, 2, 0, 0, 0) := rfl
theorem sl_206_336 : pm_206.2.2.2.2.2 336 = some (.iastore, 1, 0, 0, 0) := rfl
theorem sl_206_337 : pm_206.2.2.2.2.2 337 = some (.dup, 1, 0, 0, 0) := rfl
theorem sl_206_338 : pm_206.2.2.2.2.2 338 = some (.bipush 57, 2, 0, 0, 0) := rfl
theorem sl_206_340 : pm_206.2.2.2.2.2 340 = some (.bipush 99, 2, 0, 0, 0) := rfl
theorem sl_206_342 : pm_206.2.2.2.2.2 342 = some (.iastore, 1, 0, 0, 0) := rfl
theorem sl_206_343 : pm_206.2.2.2.2.2 343 = some (.dup, 1, 0, 0, 0) := rfl
theorem sl_206_344 : pm_206.2.2.2.2.2 344 = some (.bipush 58, 2, 0, 0, 0) := rfl
theorem sl_206_346 : pm_206.2.2.2.2.2 346 = some (.bipush 116, 2, 0, 0, 0) := rfl
theorem sl_206_348 : pm_206.2.2.2.2.2 348 = some (.iastore, 1, 0, 0, 0) := rfl
theorem sl_206_349 : pm_206.2.2.2.2.2 349 = some (.dup, 1, 0, 0, 0) := rfl
theorem sl_206_350 : pm_206.2.2.2.2.2 350 = some (.bipush 59, 2, 0, 0, 0) := rfl
theorem sl_206_352 : pm_206.2.2.2.2.2 352 = some (.bipush 105, 2, 0, 0, 0) := rfl
theorem sl_206_354 : pm_206.2.2.2.2.2 354 = some (.iastore, 1, 0, 0, 0) := rfl
theorem sl_206_355 : pm_206.2.2.2.2.2 355 = some (.dup, 1, 0, 0, 0) := rfl
theorem sl_206_356 : pm_206.2.2.2.2.2 356 = some (.bipush 60, 2, 0, 0, 0) := rfl
theorem sl_206_358 : pm_206.2.2.2.2.2 358 = some (.bipush 111, 2, 0, 0, 0) := rfl
theorem sl_206_360 : pm_206.2.2.2.2.2 360 = some (.iastore, 1, 0, 0, 0) := rfl
theorem sl_206_361 : pm_206.2.2.2.2.2 361 = some (.dup, 1, 0, 0, 0) := rfl
theorem sl_206_362 : pm_206.2.2.2.2.2 362 = some (.bipush 61, 2, 0, 0, 0) := rfl
theorem sl_206_364 : pm_206.2.2.2.2.2 364 = some (.bipush 110, 2, 0, 0, 0) := rfl
theorem sl_206_366 : pm_206.2.2.2.2.2 366 = some (.iastore, 1, 0, 0, 0) := rfl
theorem sl_206_367 : pm_206.2.2.2.2.2 367 = some (.dup, 1, 0, 0, 0) := rfl
theorem sl_206_368 : pm_206.2.2.2.2.2 368 = some (.bipush 62, 2, 0, 0, 0) := rfl
theorem sl_206_370 : pm_206.2.2.2.2.2 370 = some (.iconst 0, 1, 0, 0, 0) := rfl
theorem sl_206_371 : pm_206.2.2.2.2.2 371 = some (.iastore, 1, 0, 0, 0) := rfl
theorem sl_206_372 : pm_206.2.2.2.2.2 372 = some (.dup, 1, 0, 0, 0) := rfl
theorem sl_206_373 : pm_206.2.2.2.2.2 373 = some (.bipush 63, 2, 0, 0, 0) := rfl
theorem sl_206_375 : pm_206.2.2.2.2.2 375 = some (.bipush 116, 2, 0, 0, 0) := rfl
theorem sl_206_377 : pm_206.2.2.2.2.2 377 = some (.iastore, 1, 0, 0, 0) := rfl
theorem sl_206_378 : pm_206.2.2.2.2.2 378 = some (.dup, 1, 0, 0, 0) := rfl
theorem sl_206_379 : pm_206.2.2.2.2.2 379 = some (.bipush 64, 2, 0, 0, 0) := rfl
theorem sl_206_381 : pm_206.2.2.2.2.2 381 = some (.bipush 97, 2, 0, 0, 0) := rfl
theorem sl_206_383 : pm_206.2.2.2.2.2 383 = some (.iastore, 1, 0, 0, 0) := rfl
theorem sl_206_384 : pm_206.2.2.2.2.2 384 = some (.dup, 1, 0, 0, 0) := rfl
theorem sl_206_385 : pm_206.2.2.2.2.2 385 = some (.bipush 65, 2, 0, 0, 0) := rfl
theorem sl_206_387 : pm_206.2.2.2.2.2 387 = some (.bipush 98, 2, 0, 0, 0) := rfl
theorem sl_206_389 : pm_206.2.2.2.2.2 389 = some (.iastore, 1, 0, 0, 0) := rfl
theorem sl_206_390 : pm_206.2.2.2.2.2 390 = some (.dup, 1, 0, 0, 0) := rfl
theorem sl_206_391 : pm_206.2.2.2.2.2 391 = some (.bipush 66, 2, 0, 0, 0) := rfl
theorem sl_206_393 : pm_206.2.2.2.2.2 393 = some (.bipush 108, 2, 0, 0, 0) := rfl
theorem sl_206_395 : pm_206.2.2.2.2.2 395 = some (.iastore, 1, 0, 0, 0) := rfl
theorem sl_206_396 : pm_206.2.2.2.2.2 396 = some (.dup, 1, 0, 0, 0) := rfl
theorem sl_206_397 : pm_206.2.2.2.2.2 397 = some (.bipush 67, 2, 0, 0, 0) := rfl
theorem sl_206_399 : pm_206.2.2.2.2.2 399 = some (.bipush 101, 2, 0, 0, 0) := rfl
theorem sl_206_401 : pm_206.2.2.2.2.2 401 = some (.iastore, 1, 0, 0, 0) := rfl
theorem sl_206_402 : pm_206.2.2.2.2.2 402 = some (.dup, 1, 0, 0, 0) := rfl
theorem sl_206_403 : pm_206.2.2.2.2.2 403 = some (.bipush 68, 2, 0, 0, 0) := rfl
theorem sl_206_405 : pm_206.2.2.2.2.2 405 = some (.iconst 0, 1, 0, 0, 0) := rfl
theorem sl_206_406 : pm_206.2.2.2.2.2 406 = some (.iastore, 1, 0, 0, 0) := rfl
theorem sl_206_407 : pm_206.2.2.2.2.2 407 = some (.dup, 1, 0, 0, 0) := rfl
theorem sl_206_408 : pm_206.2.2.2.2.2 408 = some (.bipush 69, 2, 0, 0, 0) := rfl
theorem sl_206_410 : pm_206.2.2.2.2.2 410 = some (.bipush 107, 2, 0, 0, 0) := rfl
theorem sl_206_412 : pm_206.2.2.2.2.2 412 = some (.iastore, 1, 0, 0, 0) := rfl
theorem sl_206_413 : pm_206.2.2.2.2.2 413 = some (.dup, 1, 0, 0, 0) := rfl
theorem sl_206_414 : pm_206.2.2.2.2.2 414 = some (.bipush 70, 2, 0, 0, 0) := rfl
theorem sl_206_416 : pm_206.2.2.2.2.2 416 = some (.bipush 101, 2, 0, 0, 0) := rfl
theorem sl_206_418 : pm_206.2.2.2.2.2 418 = some (.iastore, 1, 0, 0, 0) := rfl
theorem sl_206_419 : pm_206.2.2.2.2.2 419 = some (.dup, 1, 0, 0, 0) := rfl
theorem sl_206_420 : pm_206.2.2.2.2.2 420 = some (.bipush 71, 2, 0, 0, 0) := rfl
theorem sl_206_422 : pm_206.2.2.2.2.2 422 = some (.bipush 121, 2, 0, 0, 0) := rfl
theorem sl_206_424 : pm_206.2.2.2.2.2 424 = some (.iastore, 1, 0, 0, 0) := rfl
theorem sl_206_425 : pm_206.2.2.2.2.2 425 = some (.dup, 1, 0, 0, 0) := rfl
theorem sl_206_426 : pm_206.2.2.2.2.2 426 = some (.bipush 72, 2, 0, 0, 0) := rfl
theorem sl_206_428 : pm_206.2.2.2.2.2 428 = some (.iconst 0, 1, 0, 0, 0) := rfl
theorem sl_206_429 : pm_206.2.2.2.2.2 429 = some (.iastore, 1, 0, 0, 0) := rfl
theorem sl_206_430 : pm_206.2.2.2.2.2 430 = some (.dup, 1, 0, 0, 0) := rfl
theorem sl_206_431 : pm_206.2.2.2.2.2 431 = some (.bipush 73, 2, 0, 0, 0) := rfl
theorem sl_206_433 : pm_206.2.2.2.2.2 433 = some (.bipush 101, 2, 0, 0, 0) := rfl
theorem sl_206_435 : pm_206.2.2.2.2.2 435 = some (.iastore, 1, 0, 0, 0) := rfl
theorem sl_206_436 : pm_206.2.2.2.2.2 436 = some (.dup, 1, 0, 0, 0) := rfl
theorem sl_206_437 : pm_206.2.2.2.2.2 437 = some (.bipush 74, 2, 0, 0, 0) := rfl
theorem sl_206_439 : pm_206.2.2.2.2.2 439 = some (.bipush 120, 2, 0, 0, 0) := rfl
theorem sl_206_441 : pm_206.2.2.2.2.2 441 = some (.iastore, 1, 0, 0, 0) := rfl
theorem sl_206_442 : pm_206.2.2.2.2.2 442 = some (.dup, 1, 0, 0, 0) := rfl
theorem sl_206_443 : pm_206.2.2.2.2.2 443 = some (.bipush 75, 2, 0, 0, 0) := rfl
theorem sl_206_445 : pm_206.2.2.2.2.2 445 = some (.bipush 97, 2, 0, 0, 0) := rfl
theorem sl_206_447 : pm_206.2.2.2.2.2 447 = some (.iastore, 1, 0, 0, 0) := rfl
theorem sl_206_448 : pm_206.2.2.2.2.2 448 = some (.dup, 1, 0, 0, 0) := rfl
theorem sl_206_449 : pm_206.2.2.2.2.2 449 = some (.bipush 76, 2, 0, 0, 0) := rfl
theorem sl_206_451 : pm_206.2.2.2.2.2 451 = some (.bipush 99, 2, 0, 0, 0) := rfl
theorem sl_206_453 : pm_206.2.2.2.2.2 453 = some (.iastore, 1, 0, 0, 0) := rfl
theorem sl_206_454 : pm_206.2.2.2.2.2 454 = some (.dup, 1, 0, 0, 0) := rfl
theorem sl_206_455 : pm_206.2.2.2.2.2 455 = some (.bipush 77, 2, 0, 0, 0) := rfl
theorem sl_206_457 : pm_206.2.2.2.2.2 457 = some (.bipush 116, 2, 0, 0, 0) := rfl
theorem sl_206_459 : pm_206.2.2.2.2.2 459 = some (.iastore, 1, 0, 0, 0) := rfl
theorem sl_206_460 : pm_206.2.2.2.2.2 460 = some (.dup, 1, 0, 0, 0) := rfl
theorem sl_206_461 : pm_206.2.2.2.2.2 461 = some (.bipush 78, 2, 0, 0, 0) := rfl
theorem sl_206_463 : pm_206.2.2.2.2.2 463 = some (.iconst 0, 1, 0, 0, 0) := rfl
theorem sl_206_464 : pm_206.2.2.2.2.2 464 = some (.iastore, 1, 0, 0, 0) := rfl
theorem sl_206_465 : pm_206.2.2.2.2.2 465 = some (.dup, 1, 0, 0, 0) := rfl
theorem sl_206_466 : pm_206.2.2.2.2.2 466 = some (.bipush 79, 2, 0, 0, 0) := rfl
theorem sl_206_468 : pm_206.2.2.2.2.2 468 = some (.bipush 112, 2, 0, 0, 0) := rfl
theorem sl_206_470 : pm_206.2.2.2.2.2 470 = some (.iastore, 1, 0, 0, 0) := rfl
theorem sl_206_471 : pm_206.2.2.2.2.2 471 = some (.dup, 1, 0, 0, 0) := rfl
theorem sl_206_472 : pm_206.2.2.2.2.2 472 = some (.bipush 80, 2, 0, 0, 0) := rfl
theorem sl_206_474 : pm_206.2.2.2.2.2 474 = some (.bipush 114, 2, 0, 0, 0) := rfl
theorem sl_206_476 : pm_206.2.2.2.2.2 476 = some (.iastore, 1, 0, 0, 0) := rfl
theorem sl_206_477 : pm_206.2.2.2.2.2 477 = some (.dup, 1, 0, 0, 0) := rfl
theorem sl_206_478 : pm_206.2.2.2.2.2 478 = some (.bipush 81, 2, 0, 0, 0) := rfl
theorem sl_206_480 : pm_206.2.2.2.2.2 480 = some (.bipush 101, 2, 0, 0, 0) := rfl
theorem sl_206_482 : pm_206.2.2.2.2.2 482 = some (.iastore, 1, 0, 0, 0) := rfl
theorem sl_206_483 : pm_206.2.2.2.2.2 483 = some (.dup, 1, 0, 0, 0) := rfl
theorem sl_206_484 : pm_206.2.2.2.2.2 484 = some (.bipush 82, 2, 0, 0, 0) := rfl
theorem sl_206_486 : pm_206.2.2.2.2.2 486 = some (.bipush 102, 2, 0, 0, 0) := rfl
theorem sl_206_488 : pm_206.2.2.2.2.2 488 = some (.iastore, 1, 0, 0, 0) := rfl
theorem sl_206_489 : pm_206.2.2.2.2.2 489 = some (.dup, 1, 0, 0, 0) := rfl
theorem sl_206_490 : pm_206.2.2.2.2.2 490 = some (.bipush 83, 2, 0, 0, 0) := rfl
theorem sl_206_492 : pm_206.2.2.2.2.2 492 = some (.bipush 105, 2, 0, 0, 0) := rfl
theorem sl_206_494 : pm_206.2.2.2.2.2 494 = some (.iastore, 1, 0, 0, 0) := rfl
theorem sl_206_495 : pm_206.2.2.2.2.2 495 = some (.dup, 1, 0, 0, 0) := rfl
theorem sl_206_496 : pm_206.2.2.2.2.2 496 = some (.bipush 84, 2, 0, 0, 0) := rfl
theorem sl_206_498 : pm_206.2.2.2.2.2 498 = some (.bipush 120, 2, 0, 0, 0) := rfl
theorem sl_206_500 : pm_206.2.2.2.2.2 500 = some (.iastore, 1, 0, 0, 0) := rfl
theorem sl_206_501 : pm_206.2.2.2.2.2 501 = some (.dup, 1, 0, 0, 0) := rfl
theorem sl_206_502 : pm_206.2.2.2.2.2 502 = some (.bipush 85, 2, 0, 0, 0) := rfl
theorem sl_206_504 : pm_206.2.2.2.2.2 504 = some (.iconst 0, 1, 0, 0, 0) := rfl
theorem sl_206_505 : pm_206.2.2.2.2.2 505 = some (.iastore, 1, 0, 0, 0) := rfl
theorem sl_206_506 : pm_206.2.2.2.2.2 506 = some (.dup, 1, 0, 0, 0) := rfl
theorem sl_206_507 : pm_206.2.2.2.2.2 507 = some (.bipush 86, 2, 0, 0, 0) := rfl
theorem sl_206_509 : pm_206.2.2.2.2.2 509 = some (.bipush 109, 2, 0, 0, 0) := rfl
theorem sl_206_511 : pm_206.2.2.2.2.2 511 = some (.iastore, 1, 0, 0, 0) := rfl
theorem sl_206_512 : pm_206.2.2.2.2.2 512 = some (.dup, 1, 0, 0, 0) := rfl
theorem sl_206_513 : pm_206.2.2.2.2.2 513 = some (.bipush 87, 2, 0, 0, 0) := rfl
theorem sl_206_515 : pm_206.2.2.2.2.2 515 = some (.bipush 97, 2, 0, 0, 0) := rfl
theorem sl_206_517 : pm_206.2.2.2.2.2 517 = some (.iastore, 1, 0, 0, 0) := rfl
theorem sl_206_518 : pm_206.2.2.2.2.2 518 = some (.dup, 1, 0, 0, 0) := rfl
theorem sl_206_519 : pm_206.2.2.2.2.2 519 = some (.bipush 88, 2, 0, 0, 0) := rfl
theorem sl_206_521 : pm_206.2.2.2.2.2 521 = some (.bipush 115, 2, 0, 0, 0) := rfl
theorem sl_206_523 : pm_206.2.2.2.2.2 523 = some (.iastore, 1, 0, 0, 0) := rfl
theorem sl_206_524 : pm_206.2.2.2.2.2 524 = some (.dup, 1, 0, 0, 0) := rfl
theorem sl_206_525 : pm_206.2.2.2.2.2 525 = some (.bipush 89, 2, 0, 0, 0) := rfl
theorem sl_206_527 : pm_206.2.2.2.2.2 527 = some (.bipush 107, 2, 0, 0, 0) := rfl
theorem sl_206_529 : pm_206.2.2.2.2.2 529 = some (.iastore, 1, 0, 0, 0) := rfl
theorem sl_206_530 : pm_206.2.2.2.2.2 530 = some (.dup, 1, 0, 0, 0) := rfl
theorem sl_206_531 : pm_206.2.2.2.2.2 531 = some (.bipush 90, 2, 0, 0, 0) := rfl
theorem sl_206_533 : pm_206.2.2.2.2.2 533 = some (.bipush 101, 2, 0, 0, 0) := rfl
theorem sl_206_535 : pm_206.2.2.2.2.2 535 = some (.iastore, 1, 0, 0, 0) := rfl
theorem sl_206_536 : pm_206.2.2.2.2.2 536 = some (.dup, 1, 0, 0, 0) := rfl
theorem sl_206_537 : pm_206.2.2.2.2.2 537 = some (.bipush 91, 2, 0, 0, 0) := rfl
theorem sl_206_539 : pm_206.2.2.2.2.2 539 = some (.bipush 100, 2, 0, 0, 0) := rfl
theorem sl_206_541 : pm_206.2.2.2.2.2 541 = some (.iastore, 1, 0, 0, 0) := rfl
theorem sl_206_542 : pm_206.2.2.2.2.2 542 = some (.dup, 1, 0, 0, 0) := rfl
theorem sl_206_543 : pm_206.2.2.2.2.2 543 = some (.bipush 92, 2, 0, 0, 0) := rfl
theorem sl_206_545 : pm_206.2.2.2.2.2 545 = some (.iconst 0, 1, 0, 0, 0) := rfl
theorem sl_206_546 : pm_206.2.2.2.2.2 546 = some (.iastore, 1, 0, 0, 0) := rfl
theorem sl_206_547 : pm_206.2.2.2.2.2 547 = some (.dup, 1, 0, 0, 0) := rfl
theorem sl_206_548 : pm_206.2.2.2.2.2 548 = some (.bipush 93, 2, 0, 0, 0) := rfl
theorem sl_206_550 : pm_206.2.2.2.2.2 550 = some (.bipush 97, 2, 0, 0, 0) := rfl
theorem sl_206_552 : pm_206.2.2.2.2.2 552 = some (.iastore, 1, 0, 0, 0) := rfl
theorem sl_206_553 : pm_206.2.2.2.2.2 553 = some (.dup, 1, 0, 0, 0) := rfl
theorem sl_206_554 : pm_206.2.2.2.2.2 554 = some (.bipush 94, 2, 0, 0, 0) := rfl
theorem sl_206_556 : pm_206.2.2.2.2.2 556 = some (.bipush 99, 2, 0, 0, 0) := rfl
theorem sl_206_558 : pm_206.2.2.2.2.2 558 = some (.iastore, 1, 0, 0, 0) := rfl
theorem sl_206_559 : pm_206.2.2.2.2.2 559 = some (.dup, 1, 0, 0, 0) := rfl
theorem sl_206_560 : pm_206.2.2.2.2.2 560 = some (.bipush 95, 2, 0, 0, 0) := rfl
theorem sl_206_562 : pm_206.2.2.2.2.2 562 = some (.bipush 116, 2, 0, 0, 0) := rfl
theorem sl_206_564 : pm_206.2.2.2.2.2 564 = some (.iastore, 1, 0, 0, 0) := rfl
theorem sl_206_565 : pm_206.2.2.2.2.2 565 = some (.dup, 1, 0, 0, 0) := rfl
theorem sl_206_566 : pm_206.2.2.2.2.2 566 = some (.bipush 96, 2, 0, 0, 0) := rfl
theorem sl_206_568 : pm_206.2.2.2.2.2 568 = some (.bipush 105, 2, 0, 0, 0) := rfl
theorem sl_206_570 : pm_206.2.2.2.2.2 570 = some (.iastore, 1, 0, 0, 0) := rfl
theorem sl_206_571 : pm_206.2.2.2.2.2 571 = some (.dup, 1, 0, 0, 0) := rfl
theorem sl_206_572 : pm_206.2.2.2.2.2 572 = some (.bipush 97, 2, 0, 0, 0) := rfl
theorem sl_206_574 : pm_206.2.2.2.2.2 574 = some (.bipush 111, 2, 0, 0, 0) := rfl
theorem sl_206_576 : pm_206.2.2.2.2.2 576 = some (.iastore, 1, 0, 0, 0) := rfl
theorem sl_206_577 : pm_206.2.2.2.2.2 577 = some (.dup, 1, 0, 0, 0) := rfl
theorem sl_206_578 : pm_206.2.2.2.2.2 578 = some (.bipush 98, 2, 0, 0, 0) := rfl
theorem sl_206_580 : pm_206.2.2.2.2.2 580 = some (.bipush 110, 2, 0, 0, 0) := rfl
theorem sl_206_582 : pm_206.2.2.2.2.2 582 = some (.iastore, 1, 0, 0, 0) := rfl
theorem sl_206_583 : pm_206.2.2.2.2.2 583 = some (.dup, 1, 0, 0, 0) := rfl
theorem sl_206_584 : pm_206.2.2.2.2.2 584 = some (.bipush 99, 2, 0, 0, 0) := rfl
theorem sl_206_586 : pm_206.2.2.2.2.2 586 = some (.bipush 115, 2, 0, 0, 0) := rfl
theorem sl_206_588 : pm_206.2.2.2.2.2 588 = some (.iastore, 1, 0, 0, 0) := rfl
theorem sl_206_589 : pm_206.2.2.2.2.2 589 = some (.dup, 1, 0, 0, 0) := rfl
theorem sl_206_590 : pm_206.2.2.2.2.2 590 = some (.bipush 100, 2, 0, 0, 0) := rfl
theorem sl_206_592 : pm_206.2.2.2.2.2 592 = some (.iconst 0, 1, 0, 0, 0) := rfl
theorem sl_206_593 : pm_206.2.2.2.2.2 593 = some (.iastore, 1, 0, 0, 0) := rfl
theorem sl_206_594 : pm_206.2.2.2.2.2 594 = some (.dup, 1, 0, 0, 0) := rfl
theorem sl_206_595 : pm_206.2.2.2.2.2 595 = some (.bipush 101, 2, 0, 0, 0) := rfl
theorem sl_206_597 : pm_206.2.2.2.2.2 597 = some (.bipush 114, 2, 0, 0, 0) := rfl
theorem sl_206_599 : pm_206.2.2.2.2.2 599 = some (.iastore, 1, 0, 0, 0) := rfl
theorem sl_206_600 : pm_206.2.2.2.2.2 600 = some (.dup, 1, 0, 0, 0) := rfl
theorem sl_206_601 : pm_206.2.2.2.2.2 601 = some (.bipush 102, 2, 0, 0, 0) := rfl
theorem sl_206_603 : pm_206.2.2.2.2.2 603 = some (.bipush 111, 2, 0, 0, 0) := rfl
theorem sl_206_605 : pm_206.2.2.2.2.2 605 = some (.iastore, 1, 0, 0, 0) := rfl
theorem sl_206_606 : pm_206.2.2.2.2.2 606 = some (.dup, 1, 0, 0, 0) := rfl
theorem sl_206_607 : pm_206.2.2.2.2.2 607 = some (.bipush 103, 2, 0, 0, 0) := rfl
theorem sl_206_609 : pm_206.2.2.2.2.2 609 = some (.bipush 111, 2, 0, 0, 0) := rfl
theorem sl_206_611 : pm_206.2.2.2.2.2 611 = some (.iastore, 1, 0, 0, 0) := rfl
theorem sl_206_612 : pm_206.2.2.2.2.2 612 = some (.dup, 1, 0, 0, 0) := rfl
theorem sl_206_613 : pm_206.2.2.2.2.2 613 = some (.bipush 104, 2, 0, 0, 0) := rfl
theorem sl_206_615 : pm_206.2.2.2.2.2 615 = some (.bipush 109, 2, 0, 0, 0) := rfl
theorem sl_206_617 : pm_206.2.2.2.2.2 617 = some (.iastore, 1, 0, 0, 0) := rfl
theorem sl_206_618 : pm_206.2.2.2.2.2 618 = some (.dup, 1, 0, 0, 0) := rfl
theorem sl_206_619 : pm_206.2.2.2.2.2 619 = some (.bipush 105, 2, 0, 0, 0) := rfl
theorem sl_206_621 : pm_206.2.2.2.2.2 621 = some (.iconst 0, 1, 0, 0, 0) := rfl
theorem sl_206_622 : pm_206.2.2.2.2.2 622 = some (.iastore, 1, 0, 0, 0) := rfl
theorem sl_206_623 : pm_206.2.2.2.2.2 623 = some (.dup, 1, 0, 0, 0) := rfl
theorem sl_206_624 : pm_206.2.2.2.2.2 624 = some (.bipush 106, 2, 0, 0, 0) := rfl
theorem sl_206_626 : pm_206.2.2.2.2.2 626 = some (.bipush 119, 2, 0, 0, 0) := rfl
theorem sl_206_628 : pm_206.2.2.2.2.2 628 = some (.iastore, 1, 0, 0, 0) := rfl
theorem sl_206_629 : pm_206.2.2.2.2.2 629 = some (.dup, 1, 0, 0, 0) := rfl
theorem sl_206_630 : pm_206.2.2.2.2.2 630 = some (.bipush 107, 2, 0, 0, 0) := rfl
theorem sl_206_632 : pm_206.2.2.2.2.2 632 = some (.bipush 97, 2, 0, 0, 0) := rfl
theorem sl_206_634 : pm_206.2.2.2.2.2 634 = some (.iastore, 1, 0, 0, 0) := rfl
theorem sl_206_635 : pm_206.2.2.2.2.2 635 = some (.dup, 1, 0, 0, 0) := rfl
theorem sl_206_636 : pm_206.2.2.2.2.2 636 = some (.bipush 108, 2, 0, 0, 0) := rfl
theorem sl_206_638 : pm_206.2.2.2.2.2 638 = some (.bipush 121, 2, 0, 0, 0) := rfl
theorem sl_206_640 : pm_206.2.2.2.2.2 640 = some (.iastore, 1, 0, 0, 0) := rfl
theorem sl_206_641 : pm_206.2.2.2.2.2 641 = some (.dup, 1, 0, 0, 0) := rfl
theorem sl_206_642 : pm_206.2.2.2.2.2 642 = some (.bipush 109, 2, 0, 0, 0) := rfl
theorem sl_206_644 : pm_206.2.2.2.2.2 644 = some (.bipush 115, 2, 0, 0, 0) := rfl
theorem sl_206_646 : pm_206.2.2.2.2.2 646 = some (.iastore, 1, 0, 0, 0) := rfl
theorem sl_206_647 : pm_206.2.2.2.2.2 647 = some (.dup, 1, 0, 0, 0) := rfl
theorem sl_206_648 : pm_206.2.2.2.2.2 648 = some (.bipush 110, 2, 0, 0, 0) := rfl
theorem sl_206_650 : pm_206.2.2.2.2.2 650 = some (.iconst 0, 1, 0, 0, 0) := rfl
theorem sl_206_651 : pm_206.2.2.2.2.2 651 = some (.iastore, 1, 0, 0, 0) := rfl
theorem sl_206_652 : pm_206.2.2.2.2.2 652 = some (.dup, 1, 0, 0, 0) := rfl
theorem sl_206_653 : pm_206.2.2.2.2.2 653 = some (.bipush 111, 2, 0, 0, 0) := rfl
theorem sl_206_655 : pm_206.2.2.2.2.2 655 = some (.bipush 115, 2, 0, 0, 0) := rfl
theorem sl_206_657 : pm_206.2.2.2.2.2 657 = some (.iastore, 1, 0, 0, 0) := rfl
theorem sl_206_658 : pm_206.2.2.2.2.2 658 = some (.dup, 1, 0, 0, 0) := rfl
theorem sl_206_659 : pm_206.2.2.2.2.2 659 = some (.bipush 112, 2, 0, 0, 0) := rfl
theorem sl_206_661 : pm_206.2.2.2.2.2 661 = some (.bipush 116, 2, 0, 0, 0) := rfl
theorem sl_206_663 : pm_206.2.2.2.2.2 663 = some (.iastore, 1, 0, 0, 0) := rfl
theorem sl_206_664 : pm_206.2.2.2.2.2 664 = some (.dup, 1, 0, 0, 0) := rfl
theorem sl_206_665 : pm_206.2.2.2.2.2 665 = some (.bipush 113, 2, 0, 0, 0) := rfl
theorem sl_206_667 : pm_206.2.2.2.2.2 667 = some (.bipush 97, 2, 0, 0, 0) := rfl
theorem sl_206_669 : pm_206.2.2.2.2.2 669 = some (.iastore, 1, 0, 0, 0) := rfl
theorem sl_206_670 : pm_206.2.2.2.2.2 670 = some (.dup, 1, 0, 0, 0) := rfl
theorem sl_206_671 : pm_206.2.2.2.2.2 671 = some (.bipush 114, 2, 0, 0, 0) := rfl
theorem sl_206_673 : pm_206.2.2.2.2.2 673 = some (.bipush 115, 2, 0, 0, 0) := rfl
theorem sl_206_675 : pm_206.2.2.2.2.2 675 = some (.iastore, 1, 0, 0, 0) := rfl
theorem sl_206_676 : pm_206.2.2.2.2.2 676 = some (.dup, 1, 0, 0, 0) := rfl
theorem sl_206_677 : pm_206.2.2.2.2.2 677 = some (.bipush 115, 2, 0, 0, 0) := rfl
theorem sl_206_679 : pm_206.2.2.2.2.2 679 = some (.bipush 104, 2, 0, 0, 0) := rfl
theorem sl_206_681 : pm_206.2.2.2.2.2 681 = some (.iastore, 1, 0, 0, 0) := rfl
theorem sl_206_682 : pm_206.2.2.2.2.2 682 = some (.dup, 1, 0, 0, 0) := rfl
theorem sl_206_683 : pm_206.2.2.2.2.2 683 = some (.bipush 116, 2, 0, 0, 0) := rfl
theorem sl_206_685 : pm_206.2.2.2.2.2 685 = some (.iconst 0, 1, 0, 0, 0) := rfl
theorem sl_206_686 : pm_206.2.2.2.2.2 686 = some (.iastore, 1, 0, 0, 0) := rfl
theorem sl_206_687 : pm_206.2.2.2.2.2 687 = some (.dup, 1, 0, 0, 0) := rfl
theorem sl_206_688 : pm_206.2.2.2.2.2 688 = some (.bipush 117, 2, 0, 0, 0) := rfl
theorem sl_206_690 : pm_206.2.2.2.2.2 690 = some (.bipush 99, 2, 0, 0, 0) := rfl
theorem sl_206_692 : pm_206.2.2.2.2.2 692 = some (.iastore, 1, 0, 0, 0) := rfl
theorem sl_206_693 : pm_206.2.2.2.2.2 693 = some (.dup, 1, 0, 0, 0) := rfl
theorem sl_206_694 : pm_206.2.2.2.2.2 694 = some (.bipush 118, 2, 0, 0, 0) := rfl
theorem sl_206_696 : pm_206.2.2.2.2.2 696 = some (.bipush 111, 2, 0, 0, 0) := rfl
theorem sl_206_698 : pm_206.2.2.2.2.2 698 = some (.iastore, 1, 0, 0, 0) := rfl
theorem sl_206_699 : pm_206.2.2.2.2.2 699 = some (.dup, 1, 0, 0, 0) := rfl
theorem sl_206_700 : pm_206.2.2.2.2.2 700 = some (.bipush 119, 2, 0, 0, 0) := rfl
theorem sl_206_702 : pm_206.2.2.2.2.2 702 = some (.bipush 110, 2, 0, 0, 0) := rfl
theorem sl_206_704 : pm_206.2.2.2.2.2 704 = some (.iastore, 1, 0, 0, 0) := rfl
theorem sl_206_705 : pm_206.2.2.2.2.2 705 = some (.dup, 1, 0, 0, 0) := rfl
theorem sl_206_706 : pm_206.2.2.2.2.2 706 = some (.bipush 120, 2, 0, 0, 0) := rfl
theorem sl_206_708 : pm_206.2.2.2.2.2 708 = some (.bipush 116, 2, 0, 0, 0) := rfl
theorem sl_206_710 : pm_206.2.2.2.2.2 710 = some (.iastore, 1, 0, 0, 0) := rfl
theorem sl_206_711 : pm_206.2.2.2.2.2 711 = some (.dup, 1, 0, 0, 0) := rfl
theorem sl_206_712 : pm_206.2.2.2.2.2 712 = some (.bipush 121, 2, 0, 0, 0) := rfl
theorem sl_206_714 : pm_206.2.2.2.2.2 714 = some (.bipush 114, 2, 0, 0, 0) := rfl
theorem sl_206_716 : pm_206.2.2.2.2.2 716 = some (.iastore, 1, 0, 0, 0) := rfl
theorem sl_206_717 : pm_206.2.2.2.2.2 717 = some (.dup, 1, 0, 0, 0) := rfl
theorem sl_206_718 : pm_206.2.2.2.2.2 718 = some (.bipush 122, 2, 0, 0, 0) := rfl
theorem sl_206_720 : pm_206.2.2.2.2.2 720 = some (.bipush 111, 2, 0, 0, 0) := rfl
theorem sl_206_722 : pm_206.2.2.2.2.2 722 = some (.iastore, 1, 0, 0, 0) := rfl
theorem sl_206_723 : pm_206.2.2.2.2.2 723 = some (.dup, 1, 0, 0, 0) := rfl
theorem sl_206_724 : pm_206.2.2.2.2.2 724 = some (.bipush 123, 2, 0, 0, 0) := rfl
theorem sl_206_726 : pm_206.2.2.2.2.2 726 = some (.bipush 108, 2, 0, 0, 0) := rfl
theorem sl_206_728 : pm_206.2.2.2.2.2 728 = some (.iastore, 1, 0, 0, 0) := rfl
theorem sl_206_729 : pm_206.2.2.2.2.2 729 = some (.dup, 1, 0, 0, 0) := rfl
theorem sl_206_730 : pm_206.2.2.2.2.2 730 = some (.bipush 124, 2, 0, 0, 0) := rfl
theorem sl_206_732 : pm_206.2.2.2.2.2 732 = some (.iconst 0, 1, 0, 0, 0) := rfl
theorem sl_206_733 : pm_206.2.2.2.2.2 733 = some (.iastore, 1, 0, 0, 0) := rfl
theorem sl_206_734 : pm_206.2.2.2.2.2 734 = some (.dup, 1, 0, 0, 0) := rfl
theorem sl_206_735 : pm_206.2.2.2.2.2 735 = some (.bipush 125, 2, 0, 0, 0) := rfl
theorem sl_206_737 : pm_206.2.2.2.2.2 737 = some (.bipush 97, 2, 0, 0, 0) := rfl
theorem sl_206_739 : pm_206.2.2.2.2.2 739 = some (.iastore, 1, 0, 0, 0) := rfl
theorem sl_206_740 : pm_206.2.2.2.2.2 740 = some (.dup, 1, 0, 0, 0) := rfl
theorem sl_206_741 : pm_206.2.2.2.2.2 741 = some (.bipush 126, 2, 0, 0, 0) := rfl
theorem sl_206_743 : pm_206.2.2.2.2.2 743 = some (.bipush 112, 2, 0, 0, 0) := rfl
theorem sl_206_745 : pm_206.2.2.2.2.2 745 = some (.iastore, 1, 0, 0, 0) := rfl
theorem sl_206_746 : pm_206.2.2.2.2.2 746 = some (.dup, 1, 0, 0, 0) := rfl
theorem sl_206_747 : pm_206.2.2.2.2.2 747 = some (.bipush 127, 2, 0, 0, 0) := rfl
theorem sl_206_749 : pm_206.2.2.2.2.2 749 = some (.bipush 112, 2, 0, 0, 0) := rfl
theorem sl_206_751 : pm_206.2.2.2.2.2 751 = some (.iastore, 1, 0, 0, 0) := rfl
theorem sl_206_752 : pm_206.2.2.2.2.2 752 = some (.dup, 1, 0, 0, 0) := rfl
theorem sl_206_753 : pm_206.2.2.2.2.2 753 = some (.sipush 128, 3, 0, 0, 0) := rfl
theorem sl_206_756 : pm_206.2.2.2.2.2 756 = some (.bipush 108, 2, 0, 0, 0) := rfl
theorem sl_206_758 : pm_206.2.2.2.2.2 758 = some (.iastore, 1, 0, 0, 0) := rfl
theorem sl_206_759 : pm_206.2.2.2.2.2 759 = some (.dup, 1, 0, 0, 0) := rfl
theorem sl_206_760 : pm_206.2.2.2.2.2 760 = some (.sipush 129, 3, 0, 0, 0) := rfl
theorem sl_206_763 : pm_206.2.2.2.2.2 763 = some (.bipush 121, 2, 0, 0, 0) := rfl
theorem sl_206_765 : pm_206.2.2.2.2.2 765 = some (.iastore, 1, 0, 0, 0) := rfl
theorem sl_206_766 : pm_206.2.2.2.2.2 766 = some (.dup, 1, 0, 0, 0) := rfl
theorem sl_206_767 : pm_206.2.2.2.2.2 767 = some (.sipush 130, 3, 0, 0, 0) := rfl
theorem sl_206_770 : pm_206.2.2.2.2.2 770 = some (.iconst 0, 1, 0, 0, 0) := rfl
theorem sl_206_771 : pm_206.2.2.2.2.2 771 = some (.iastore, 1, 0, 0, 0) := rfl
theorem sl_206_772 : pm_206.2.2.2.2.2 772 = some (.dup, 1, 0, 0, 0) := rfl
theorem sl_206_773 : pm_206.2.2.2.2.2 773 = some (.sipush 131, 3, 0, 0, 0) := rfl
theorem sl_206_776 : pm_206.2.2.2.2.2 776 = some (.bipush 105, 2, 0, 0, 0) := rfl
theorem sl_206_778 : pm_206.2.2.2.2.2 778 = some (.iastore, 1, 0, 0, 0) := rfl
theorem sl_206_779 : pm_206.2.2.2.2.2 779 = some (.dup, 1, 0, 0, 0) := rfl
theorem sl_206_780 : pm_206.2.2.2.2.2 780 = some (.sipush 132, 3, 0, 0, 0) := rfl
theorem sl_206_783 : pm_206.2.2.2.2.2 783 = some (.bipush 102, 2, 0, 0, 0) := rfl
theorem sl_206_785 : pm_206.2.2.2.2.2 785 = some (.iastore, 1, 0, 0, 0) := rfl
theorem sl_206_786 : pm_206.2.2.2.2.2 786 = some (.dup, 1, 0, 0, 0) := rfl
theorem sl_206_787 : pm_206.2.2.2.2.2 787 = some (.sipush 133, 3, 0, 0, 0) := rfl
theorem sl_206_790 : pm_206.2.2.2.2.2 790 = some (.iconst 0, 1, 0, 0, 0) := rfl
theorem sl_206_791 : pm_206.2.2.2.2.2 791 = some (.iastore, 1, 0, 0, 0) := rfl
theorem sl_206_792 : pm_206.2.2.2.2.2 792 = some (.dup, 1, 0, 0, 0) := rfl
theorem sl_206_793 : pm_206.2.2.2.2.2 793 = some (.sipush 134, 3, 0, 0, 0) := rfl
theorem sl_206_796 : pm_206.2.2.2.2.2 796 = some (.bipush 101, 2, 0, 0, 0) := rfl
theorem sl_206_798 : pm_206.2.2.2.2.2 798 = some (.iastore, 1, 0, 0, 0) := rfl
theorem sl_206_799 : pm_206.2.2.2.2.2 799 = some (.dup, 1, 0, 0, 0) := rfl
theorem sl_206_800 : pm_206.2.2.2.2.2 800 = some (.sipush 135, 3, 0, 0, 0) := rfl
theorem sl_206_803 : pm_206.2.2.2.2.2 803 = some (.bipush 108, 2, 0, 0, 0) := rfl
theorem sl_206_805 : pm_206.2.2.2.2.2 805 = some (.iastore, 1, 0, 0, 0) := rfl
theorem sl_206_806 : pm_206.2.2.2.2.2 806 = some (.dup, 1, 0, 0, 0) := rfl
theorem sl_206_807 : pm_206.2.2.2.2.2 807 = some (.sipush 136, 3, 0, 0, 0) := rfl
theorem sl_206_810 : pm_206.2.2.2.2.2 810 = some (.bipush 115, 2, 0, 0, 0) := rfl
theorem sl_206_812 : pm_206.2.2.2.2.2 812 = some (.iastore, 1, 0, 0, 0) := rfl
theorem sl_206_813 : pm_206.2.2.2.2.2 813 = some (.dup, 1, 0, 0, 0) := rfl
theorem sl_206_814 : pm_206.2.2.2.2.2 814 = some (.sipush 137, 3, 0, 0, 0) := rfl
theorem sl_206_817 : pm_206.2.2.2.2.2 817 = some (.bipush 101, 2, 0, 0, 0) := rfl
theorem sl_206_819 : pm_206.2.2.2.2.2 819 = some (.iastore, 1, 0, 0, 0) := rfl
theorem sl_206_820 : pm_206.2.2.2.2.2 820 = some (.dup, 1, 0, 0, 0) := rfl
theorem sl_206_821 : pm_206.2.2.2.2.2 821 = some (.sipush 138, 3, 0, 0, 0) := rfl
theorem sl_206_824 : pm_206.2.2.2.2.2 824 = some (.iconst 0, 1, 0, 0, 0) := rfl
theorem sl_206_825 : pm_206.2.2.2.2.2 825 = some (.iastore, 1, 0, 0, 0) := rfl
theorem sl_206_826 : pm_206.2.2.2.2.2 826 = some (.dup, 1, 0, 0, 0) := rfl
theorem sl_206_827 : pm_206.2.2.2.2.2 827 = some (.sipush 139, 3, 0, 0, 0) := rfl
theorem sl_206_830 : pm_206.2.2.2.2.2 830 = some (.bipush 101, 2, 0, 0, 0) := rfl
theorem sl_206_832 : pm_206.2.2.2.2.2 832 = some (.iastore, 1, 0, 0, 0) := rfl
theorem sl_206_833 : pm_206.2.2.2.2.2 833 = some (.dup, 1, 0, 0, 0) := rfl
theorem sl_206_834 : pm_206.2.2.2.2.2 834 = some (.sipush 140, 3, 0, 0, 0) := rfl
theorem sl_206_837 : pm_206.2.2.2.2.2 837 = some (.bipush 109, 2, 0, 0, 0) := rfl
theorem sl_206_839 : pm_206.2.2.2.2.2 839 = some (.iastore, 1, 0, 0, 0) := rfl
theorem sl_206_840 : pm_206.2.2.2.2.2 840 = some (.dup, 1, 0, 0, 0) := rfl
theorem sl_206_841 : pm_206.2.2.2.2.2 841 = some (.sipush 141, 3, 0, 0, 0) := rfl
theorem sl_206_844 : pm_206.2.2.2.2.2 844 = some (.bipush 105, 2, 0, 0, 0) := rfl
theorem sl_206_846 : pm_206.2.2.2.2.2 846 = some (.iastore, 1, 0, 0, 0) := rfl
theorem sl_206_847 : pm_206.2.2.2.2.2 847 = some (.dup, 1, 0, 0, 0) := rfl
theorem sl_206_848 : pm_206.2.2.2.2.2 848 = some (.sipush 142, 3, 0, 0, 0) := rfl
theorem sl_206_851 : pm_206.2.2.2.2.2 851 = some (.bipush 116, 2, 0, 0, 0) := rfl
theorem sl_206_853 : pm_206.2.2.2.2.2 853 = some (.iastore, 1, 0, 0, 0) := rfl
theorem sl_206_854 : pm_206.2.2.2.2.2 854 = some (.dup, 1, 0, 0, 0) := rfl
theorem sl_206_855 : pm_206.2.2.2.2.2 855 = some (.sipush 143, 3, 0, 0, 0) := rfl
theorem sl_206_858 : pm_206.2.2.2.2.2 858 = some (.iconst 0, 1, 0, 0, 0) := rfl
theorem sl_206_859 : pm_206.2.2.2.2.2 859 = some (.iastore, 1, 0, 0, 0) := rfl
theorem sl_206_860 : pm_206.2.2.2.2.2 860 = some (.dup, 1, 0, 0, 0) := rfl
theorem sl_206_861 : pm_206.2.2.2.2.2 861 = some (.sipush 144, 3, 0, 0, 0) := rfl
theorem sl_206_864 : pm_206.2.2.2.2.2 864 = some (.bipush 97, 2, 0, 0, 0) := rfl
theorem sl_206_866 : pm_206.2.2.2.2.2 866 = some (.iastore, 1, 0, 0, 0) := rfl
theorem sl_206_867 : pm_206.2.2.2.2.2 867 = some (.dup, 1, 0, 0, 0) := rfl
theorem sl_206_868 : pm_206.2.2.2.2.2 868 = some (.sipush 145, 3, 0, 0, 0) := rfl
theorem sl_206_871 : pm_206.2.2.2.2.2 871 = some (.bipush 100, 2, 0, 0, 0) := rfl
theorem sl_206_873 : pm_206.2.2.2.2.2 873 = some (.iastore, 1, 0, 0, 0) := rfl
theorem sl_206_874 : pm_206.2.2.2.2.2 874 = some (.dup, 1, 0, 0, 0) := rfl
theorem sl_206_875 : pm_206.2.2.2.2.2 875 = some (.sipush 146, 3, 0, 0, 0) := rfl
theorem sl_206_878 : pm_206.2.2.2.2.2 878 = some (.bipush 100, 2, 0, 0, 0) := rfl
theorem sl_206_880 : pm_206.2.2.2.2.2 880 = some (.iastore, 1, 0, 0, 0) := rfl
theorem sl_206_881 : pm_206.2.2.2.2.2 881 = some (.dup, 1, 0, 0, 0) := rfl
theorem sl_206_882 : pm_206.2.2.2.2.2 882 = some (.sipush 147, 3, 0, 0, 0) := rfl
theorem sl_206_885 : pm_206.2.2.2.2.2 885 = some (.iconst 0, 1, 0, 0, 0) := rfl
theorem sl_206_886 : pm_206.2.2.2.2.2 886 = some (.iastore, 1, 0, 0, 0) := rfl
theorem sl_206_887 : pm_206.2.2.2.2.2 887 = some (.dup, 1, 0, 0, 0) := rfl
theorem sl_206_888 : pm_206.2.2.2.2.2 888 = some (.sipush 148, 3, 0, 0, 0) := rfl
theorem sl_206_891 : pm_206.2.2.2.2.2 891 = some (.bipush 116, 2, 0, 0, 0) := rfl
theorem sl_206_893 : pm_206.2.2.2.2.2 893 = some (.iastore, 1, 0, 0, 0) := rfl
theorem sl_206_894 : pm_206.2.2.2.2.2 894 = some (.dup, 1, 0, 0, 0) := rfl
theorem sl_206_895 : pm_206.2.2.2.2.2 895 = some (.sipush 149, 3, 0, 0, 0) := rfl
theorem sl_206_898 : pm_206.2.2.2.2.2 898 = some (.bipush 97, 2, 0, 0, 0) := rfl
theorem sl_206_900 : pm_206.2.2.2.2.2 900 = some (.iastore, 1, 0, 0, 0) := rfl
theorem sl_206_901 : pm_206.2.2.2.2.2 901 = some (.dup, 1, 0, 0, 0) := rfl
theorem sl_206_902 : pm_206.2.2.2.2.2 902 = some (.sipush 150, 3, 0, 0, 0) := rfl
theorem sl_206_905 : pm_206.2.2.2.2.2 905 = some (.bipush 107, 2, 0, 0, 0) := rfl
theorem sl_206_907 : pm_206.2.2.2.2.2 907 = some (.iastore, 1, 0, 0, 0) := rfl
theorem sl_206_908 : pm_206.2.2.2.2.2 908 = some (.dup, 1, 0, 0, 0) := rfl
theorem sl_206_909 : pm_206.2.2.2.2.2 909 = some (.sipush 151, 3, 0, 0, 0) := rfl
theorem sl_206_912 : pm_206.2.2.2.2.2 912 = some (.bipush 101, 2, 0, 0, 0) := rfl
theorem sl_206_914 : pm_206.2.2.2.2.2 914 = some (.iastore, 1, 0, 0, 0) := rfl
theorem sl_206_915 : pm_206.2.2.2.2.2 915 = some (.dup, 1, 0, 0, 0) := rfl
theorem sl_206_916 : pm_206.2.2.2.2.2 916 = some (.sipush 152, 3, 0, 0, 0) := rfl
theorem sl_206_919 : pm_206.2.2.2.2.2 919 = some (.iconst 0, 1, 0, 0, 0) := rfl
theorem sl_206_920 : pm_206.2.2.2.2.2 920 = some (.iastore, 1, 0, 0, 0) := rfl
theorem sl_206_921 : pm_206.2.2.2.2.2 921 = some (.dup, 1, 0, 0, 0) := rfl
theorem sl_206_922 : pm_206.2.2.2.2.2 922 = some (.sipush 153, 3, 0, 0, 0) := rfl
theorem sl_206_925 : pm_206.2.2.2.2.2 925 = some (.bipush 100, 2, 0, 0, 0) := rfl
theorem sl_206_927 : pm_206.2.2.2.2.2 927 = some (.iastore, 1, 0, 0, 0) := rfl
theorem sl_206_928 : pm_206.2.2.2.2.2 928 = some (.dup, 1, 0, 0, 0) := rfl
theorem sl_206_929 : pm_206.2.2.2.2.2 929 = some (.sipush 154, 3, 0, 0, 0) := rfl
theorem sl_206_932 : pm_206.2.2.2.2.2 932 = some (.bipush 114, 2, 0, 0, 0) := rfl
theorem sl_206_934 : pm_206.2.2.2.2.2 934 = some (.iastore, 1, 0, 0, 0) := rfl
theorem sl_206_935 : pm_206.2.2.2.2.2 935 = some (.dup, 1, 0, 0, 0) := rfl
theorem sl_206_936 : pm_206.2.2.2.2.2 936 = some (.sipush 155, 3, 0, 0, 0) := rfl
theorem sl_206_939 : pm_206.2.2.2.2.2 939 = some (.bipush 111, 2, 0, 0, 0) := rfl
theorem sl_206_941 : pm_206.2.2.2.2.2 941 = some (.iastore, 1, 0, 0, 0) := rfl
theorem sl_206_942 : pm_206.2.2.2.2.2 942 = some (.dup, 1, 0, 0, 0) := rfl
theorem sl_206_943 : pm_206.2.2.2.2.2 943 = some (.sipush 156, 3, 0, 0, 0) := rfl
theorem sl_206_946 : pm_206.2.2.2.2.2 946 = some (.bipush 112, 2, 0, 0, 0) := rfl
theorem sl_206_948 : pm_206.2.2.2.2.2 948 = some (.iastore, 1, 0, 0, 0) := rfl
theorem sl_206_949 : pm_206.2.2.2.2.2 949 = some (.dup, 1, 0, 0, 0) := rfl
theorem sl_206_950 : pm_206.2.2.2.2.2 950 = some (.sipush 157, 3, 0, 0, 0) := rfl
theorem sl_206_953 : pm_206.2.2.2.2.2 953 = some (.iconst 0, 1, 0, 0, 0) := rfl
theorem sl_206_954 : pm_206.2.2.2.2.2 954 = some (.iastore, 1, 0, 0, 0) := rfl
theorem sl_206_955 : pm_206.2.2.2.2.2 955 = some (.dup, 1, 0, 0, 0) := rfl
theorem sl_206_956 : pm_206.2.2.2.2.2 956 = some (.sipush 158, 3, 0, 0, 0) := rfl
theorem sl_206_959 : pm_206.2.2.2.2.2 959 = some (.bipush 108, 2, 0, 0, 0) := rfl
theorem sl_206_961 : pm_206.2.2.2.2.2 961 = some (.iastore, 1, 0, 0, 0) := rfl
theorem sl_206_962 : pm_206.2.2.2.2.2 962 = some (.dup, 1, 0, 0, 0) := rfl
theorem sl_206_963 : pm_206.2.2.2.2.2 963 = some (.sipush 159, 3, 0, 0, 0) := rfl
theorem sl_206_966 : pm_206.2.2.2.2.2 966 = some (.bipush 111, 2, 0, 0, 0) := rfl
theorem sl_206_968 : pm_206.2.2.2.2.2 968 = some (.iastore, 1, 0, 0, 0) := rfl
theorem sl_206_969 : pm_206.2.2.2.2.2 969 = some (.dup, 1, 0, 0, 0) := rfl
theorem sl_206_970 : pm_206.2.2.2.2.2 970 = some (.sipush 160, 3, 0, 0, 0) := rfl
theorem sl_206_973 : pm_206.2.2.2.2.2 973 = some (.bipush 97, 2, 0, 0, 0) := rfl
theorem sl_206_975 : pm_206.2.2.2.2.2 975 = some (.iastore, 1, 0, 0, 0) := rfl
theorem sl_206_976 : pm_206.2.2.2.2.2 976 = some (.dup, 1, 0, 0, 0) := rfl
theorem sl_206_977 : pm_206.2.2.2.2.2 977 = some (.sipush 161, 3, 0, 0, 0) := rfl
theorem sl_206_980 : pm_206.2.2.2.2.2 980 = some (.bipush 100, 2, 0, 0, 0) := rfl
theorem sl_206_982 : pm_206.2.2.2.2.2 982 = some (.iastore, 1, 0, 0, 0) := rfl
theorem sl_206_983 : pm_206.2.2.2.2.2 983 = some (.dup, 1, 0, 0, 0) := rfl
theorem sl_206_984 : pm_206.2.2.2.2.2 984 = some (.sipush 162, 3, 0, 0, 0) := rfl
theorem sl_206_987 : pm_206.2.2.2.2.2 987 = some (.iconst 0, 1, 0, 0, 0) := rfl
theorem sl_206_988 : pm_206.2.2.2.2.2 988 = some (.iastore, 1, 0, 0, 0) := rfl
theorem sl_206_989 : pm_206.2.2.2.2.2 989 = some (.dup, 1, 0, 0, 0) := rfl
theorem sl_206_990 : pm_206.2.2.2.2.2 990 = some (.sipush 163, 3, 0, 0, 0) := rfl
theorem sl_206_993 : pm_206.2.2.2.2.2 993 = some (.bipush 115, 2, 0, 0, 0) := rfl
theorem sl_206_995 : pm_206.2.2.2.2.2 995 = some (.iastore, 1, 0, 0, 0) := rfl
theorem sl_206_996 : pm_206.2.2.2.2.2 996 = some (.dup, 1, 0, 0, 0) := rfl
theorem sl_206_997 : pm_206.2.2.2.2.2 997 = some (.sipush 164, 3, 0, 0, 0) := rfl
theorem sl_206_1000 : pm_206.2.2.2.2.2 1000 = some (.bipush 116, 2, 0, 0, 0) := rfl
theorem sl_206_1002 : pm_206.2.2.2.2.2 1002 = some (.iastore, 1, 0, 0, 0) := rfl
theorem sl_206_1003 : pm_206.2.2.2.2.2 1003 = some (.dup, 1, 0, 0, 0) := rfl
theorem sl_206_1004 : pm_206.2.2.2.2.2 1004 = some (.sipush 165, 3, 0, 0, 0) := rfl
theorem sl_206_1007 : pm_206.2.2.2.2.2 1007 = some (.bipush 111, 2, 0, 0, 0) := rfl
theorem sl_206_1009 : pm_206.2.2.2.2.2 1009 = some (.iastore, 1, 0, 0, 0) := rfl
theorem sl_206_1010 : pm_206.2.2.2.2.2 1010 = some (.dup, 1, 0, 0, 0) := rfl
theorem sl_206_1011 : pm_206.2.2.2.2.2 1011 = some (.sipush 166, 3, 0, 0, 0) := rfl
theorem sl_206_1014 : pm_206.2.2.2.2.2 1014 = some (.bipush 114, 2, 0, 0, 0) := rfl
theorem sl_206_1016 : pm_206.2.2.2.2.2 1016 = some (.iastore, 1, 0, 0, 0) := rfl
theorem sl_206_1017 : pm_206.2.2.2.2.2 1017 = some (.dup, 1, 0, 0, 0) := rfl
theorem sl_206_1018 : pm_206.2.2.2.2.2 1018 = some (.sipush 167, 3, 0, 0, 0) := rfl
theorem sl_206_1021 : pm_206.2.2.2.2.2 1021 = some (.bipush 101, 2, 0, 0, 0) := rfl
theorem sl_206_1023 : pm_206.2.2.2.2.2 1023 = some (.iastore, 1, 0, 0, 0) := rfl
theorem sl_206_1024 : pm_206.2.2.2.2.2 1024 = some (.dup, 1, 0, 0, 0) := rfl
theorem sl_206_1025 : pm_206.2.2.2.2.2 1025 = some (.sipush 168, 3, 0, 0, 0) := rfl
theorem sl_206_1028 : pm_206.2.2.2.2.2 1028 = some (.iconst 0, 1, 0, 0, 0) := rfl
theorem sl_206_1029 : pm_206.2.2.2.2.2 1029 = some (.iastore, 1, 0, 0, 0) := rfl
theorem sl_206_1030 : pm_206.2.2.2.2.2 1030 = some (.dup, 1, 0, 0, 0) := rfl
theorem sl_206_1031 : pm_206.2.2.2.2.2 1031 = some (.sipush 169, 3, 0, 0, 0) := rfl
theorem sl_206_1034 : pm_206.2.2.2.2.2 1034 = some (.bipush 118, 2, 0, 0, 0) := rfl
theorem sl_206_1036 : pm_206.2.2.2.2.2 1036 = some (.iastore, 1, 0, 0, 0) := rfl
theorem sl_206_1037 : pm_206.2.2.2.2.2 1037 = some (.dup, 1, 0, 0, 0) := rfl
theorem sl_206_1038 : pm_206.2.2.2.2.2 1038 = some (.sipush 170, 3, 0, 0, 0) := rfl
theorem sl_206_1041 : pm_206.2.2.2.2.2 1041 = some (.bipush 97, 2, 0, 0, 0) := rfl
theorem sl_206_1043 : pm_206.2.2.2.2.2 1043 = some (.iastore, 1, 0, 0, 0) := rfl
theorem sl_206_1044 : pm_206.2.2.2.2.2 1044 = some (.dup, 1, 0, 0, 0) := rfl
theorem sl_206_1045 : pm_206.2.2.2.2.2 1045 = some (.sipush 171, 3, 0, 0, 0) := rfl
theorem sl_206_1048 : pm_206.2.2.2.2.2 1048 = some (.bipush 108, 2, 0, 0, 0) := rfl
theorem sl_206_1050 : pm_206.2.2.2.2.2 1050 = some (.iastore, 1, 0, 0, 0) := rfl
theorem sl_206_1051 : pm_206.2.2.2.2.2 1051 = some (.dup, 1, 0, 0, 0) := rfl
theorem sl_206_1052 : pm_206.2.2.2.2.2 1052 = some (.sipush 172, 3, 0, 0, 0) := rfl
theorem sl_206_1055 : pm_206.2.2.2.2.2 1055 = some (.bipush 105, 2, 0, 0, 0) := rfl
theorem sl_206_1057 : pm_206.2.2.2.2.2 1057 = some (.iastore, 1, 0, 0, 0) := rfl
theorem sl_206_1058 : pm_206.2.2.2.2.2 1058 = some (.dup, 1, 0, 0, 0) := rfl
theorem sl_206_1059 : pm_206.2.2.2.2.2 1059 = some (.sipush 173, 3, 0, 0, 0) := rfl
theorem sl_206_1062 : pm_206.2.2.2.2.2 1062 = some (.bipush 100, 2, 0, 0, 0) := rfl
theorem sl_206_1064 : pm_206.2.2.2.2.2 1064 = some (.iastore, 1, 0, 0, 0) := rfl
theorem sl_206_1065 : pm_206.2.2.2.2.2 1065 = some (.dup, 1, 0, 0, 0) := rfl
theorem sl_206_1066 : pm_206.2.2.2.2.2 1066 = some (.sipush 174, 3, 0, 0, 0) := rfl
theorem sl_206_1069 : pm_206.2.2.2.2.2 1069 = some (.iconst 0, 1, 0, 0, 0) := rfl
theorem sl_206_1070 : pm_206.2.2.2.2.2 1070 = some (.iastore, 1, 0, 0, 0) := rfl
theorem sl_206_1071 : pm_206.2.2.2.2.2 1071 = some (.dup, 1, 0, 0, 0) := rfl
theorem sl_206_1072 : pm_206.2.2.2.2.2 1072 = some (.sipush 175, 3, 0, 0, 0) := rfl
theorem sl_206_1075 : pm_206.2.2.2.2.2 1075 = some (.bipush 97, 2, 0, 0, 0) := rfl
theorem sl_206_1077 : pm_206.2.2.2.2.2 1077 = some (.iastore, 1, 0, 0, 0) := rfl
theorem sl_206_1078 : pm_206.2.2.2.2.2 1078 = some (.dup, 1, 0, 0, 0) := rfl
theorem sl_206_1079 : pm_206.2.2.2.2.2 1079 = some (.sipush 176, 3, 0, 0, 0) := rfl
theorem sl_206_1082 : pm_206.2.2.2.2.2 1082 = some (.bipush 115, 2, 0, 0, 0) := rfl
theorem sl_206_1084 : pm_206.2.2.2.2.2 1084 = some (.iastore, 1, 0, 0, 0) := rfl
theorem sl_206_1085 : pm_206.2.2.2.2.2 1085 = some (.dup, 1, 0, 0, 0) := rfl
theorem sl_206_1086 : pm_206.2.2.2.2.2 1086 = some (.sipush 177, 3, 0, 0, 0) := rfl
theorem sl_206_1089 : pm_206.2.2.2.2.2 1089 = some (.iconst 0, 1, 0, 0, 0) := rfl
theorem sl_206_1090 : pm_206.2.2.2.2.2 1090 = some (.iastore, 1, 0, 0, 0) := rfl
theorem sl_206_1091 : pm_206.2.2.2.2.2 1091 = some (.putfield 7, 3, 12, 0, 0) := rfl
theorem sl_206_1094 : pm_206.2.2.2.2.2 1094 = some (.aload_n 0, 1, 0, 0, 0) := rfl
theorem sl_206_1095 : pm_206.2.2.2.2.2 1095 = some (.bipush 20, 2, 0, 0, 0) := rfl
theorem sl_206_1097 : pm_206.2.2.2.2.2 1097 = some (.newarray .int, 2, 0, 0, 0) := rfl
theorem sl_206_1099 : pm_206.2.2.2.2.2 1099 = some (.putfield 13, 3, 12, 2, 0) := rfl
theorem sl_206_1102 : pm_206.2.2.2.2.2 1102 = some (.aload_n 0, 1, 0, 0, 0) := rfl
theorem sl_206_1103 : pm_206.2.2.2.2.2 1103 = some (.sipush 4000, 3, 0, 0, 0) := rfl
theorem sl_206_1106 : pm_206.2.2.2.2.2 1106 = some (.newarray .int, 2, 0, 0, 0) := rfl
theorem sl_206_1108 : pm_206.2.2.2.2.2 1108 = some (.putfield 16, 3, 12, 3, 0) := rfl
theorem sl_206_1111 : pm_206.2.2.2.2.2 1111 = some (.aload_n 0, 1, 0, 0, 0) := rfl
theorem sl_206_1112 : pm_206.2.2.2.2.2 1112 = some (.sipush 4000, 3, 0, 0, 0) := rfl
theorem sl_206_1115 : pm_206.2.2.2.2.2 1115 = some (.newarray .int, 2, 0, 0, 0) := rfl
theorem sl_206_1117 : pm_206.2.2.2.2.2 1117 = some (.putfield 19, 3, 12, 4, 0) := rfl
theorem sl_206_1120 : pm_206.2.2.2.2.2 1120 = some (.aload_n 0, 1, 0, 0, 0) := rfl
theorem sl_206_1121 : pm_206.2.2.2.2.2 1121 = some (.iconst (-1), 1, 0, 0, 0) := rfl
theorem sl_206_1122 : pm_206.2.2.2.2.2 1122 = some (.putfield 22, 3, 12, 11, 0) := rfl
theorem sl_206_1125 : pm_206.2.2.2.2.2 1125 = some (.aload_n 0, 1, 0, 0, 0) := rfl
theorem sl_206_1126 : pm_206.2.2.2.2.2 1126 = some (.bipush 120, 2, 0, 0, 0) := rfl
theorem sl_206_1128 : pm_206.2.2.2.2.2 1128 = some (.newarray .int, 2, 0, 0, 0) := rfl
theorem sl_206_1130 : pm_206.2.2.2.2.2 1130 = some (.putfield 26, 3, 12, 14, 0) := rfl
theorem sl_206_1133 : pm_206.2.2.2.2.2 1133 = some (.aload_n 0, 1, 0, 0, 0) := rfl
theorem sl_206_1134 : pm_206.2.2.2.2.2 1134 = some (.bipush 120, 2, 0, 0, 0) := rfl
theorem sl_206_1136 : pm_206.2.2.2.2.2 1136 = some (.newarray .int, 2, 0, 0, 0) := rfl
theorem sl_206_1138 : pm_206.2.2.2.2.2 1138 = some (.putfield 29, 3, 12, 15, 0) := rfl
theorem sl_206_1141 : pm_206.2.2.2.2.2 1141 = some (.aload_n 0, 1, 0, 0, 0) := rfl
theorem sl_206_1142 : pm_206.2.2.2.2.2 1142 = some (.bipush 120, 2, 0, 0, 0) := rfl
theorem sl_206_1144 : pm_206.2.2.2.2.2 1144 = some (.newarray .int, 2, 0, 0, 0) := rfl
theorem sl_206_1146 : pm_206.2.2.2.2.2 1146 = some (.putfield 32, 3, 12, 16, 0) := rfl
theorem sl_206_1149 : pm_206.2.2.2.2.2 1149 = some (.aload_n 0, 1, 0, 0, 0) := rfl
theorem sl_206_1150 : pm_206.2.2.2.2.2 1150 = some (.bipush 120, 2, 0, 0, 0) := rfl
theorem sl_206_1152 : pm_206.2.2.2.2.2 1152 = some (.newarray .int, 2, 0, 0, 0) := rfl
theorem sl_206_1154 : pm_206.2.2.2.2.2 1154 = some (.putfield 35, 3, 12, 17, 0) := rfl
theorem sl_206_1157 : pm_206.2.2.2.2.2 1157 = some (.aload_n 0, 1, 0, 0, 0) := rfl
theorem sl_206_1158 : pm_206.2.2.2.2.2 1158 = some (.bipush 38, 2, 0, 0, 0) := rfl
theorem sl_206_1160 : pm_206.2.2.2.2.2 1160 = some (.newarray .int, 2, 0, 0, 0) := rfl
theorem sl_206_1162 : pm_206.2.2.2.2.2 1162 = some (.dup, 1, 0, 0, 0) := rfl
theorem sl_206_1163 : pm_206.2.2.2.2.2 1163 = some (.iconst 0, 1, 0, 0, 0) := rfl
theorem sl_206_1164 : pm_206.2.2.2.2.2 1164 = some (.bipush 105, 2, 0, 0, 0) := rfl
theorem sl_206_1166 : pm_206.2.2.2.2.2 1166 = some (.iastore, 1, 0, 0, 0) := rfl
theorem sl_206_1167 : pm_206.2.2.2.2.2 1167 = some (.dup, 1, 0, 0, 0) := rfl
theorem sl_206_1168 : pm_206.2.2.2.2.2 1168 = some (.iconst 1, 1, 0, 0, 0) := rfl
theorem sl_206_1169 : pm_206.2.2.2.2.2 1169 = some (.bipush 110, 2, 0, 0, 0) := rfl
theorem sl_206_1171 : pm_206.2.2.2.2.2 1171 = some (.iastore, 1, 0, 0, 0) := rfl
theorem sl_206_1172 : pm_206.2.2.2.2.2 1172 = some (.dup, 1, 0, 0, 0) := rfl
theorem sl_206_1173 : pm_206.2.2.2.2.2 1173 = some (.iconst 2, 1, 0, 0, 0) := rfl
theorem sl_206_1174 : pm_206.2.2.2.2.2 1174 = some (.bipush 95, 2, 0, 0, 0) := rfl
theorem sl_206_1176 : pm_206.2.2.2.2.2 1176 = some (.iastore, 1, 0, 0, 0) := rfl
theorem sl_206_1177 : pm_206.2.2.2.2.2 1177 = some (.dup, 1, 0, 0, 0) := rfl
theorem sl_206_1178 : pm_206.2.2.2.2.2 1178 = some (.iconst 3, 1, 0, 0, 0) := rfl
theorem sl_206_1179 : pm_206.2.2.2.2.2 1179 = some (.bipush 112, 2, 0, 0, 0) := rfl
theorem sl_206_1181 : pm_206.2.2.2.2.2 1181 = some (.iastore, 1, 0, 0, 0) := rfl
theorem sl_206_1182 : pm_206.2.2.2.2.2 1182 = some (.dup, 1, 0, 0, 0) := rfl
theorem sl_206_1183 : pm_206.2.2.2.2.2 1183 = some (.iconst 4, 1, 0, 0, 0) := rfl
theorem sl_206_1184 : pm_206.2.2.2.2.2 1184 = some (.bipush 111, 2, 0, 0, 0) := rfl
theorem sl_206_1186 : pm_206.2.2.2.2.2 1186 = some (.iastore, 1, 0, 0, 0) := rfl
theorem sl_206_1187 : pm_206.2.2.2.2.2 1187 = some (.dup, 1, 0, 0, 0) := rfl
theorem sl_206_1188 : pm_206.2.2.2.2.2 1188 = some (.iconst 5, 1, 0, 0, 0) := rfl
theorem sl_206_1189 : pm_206.2.2.2.2.2 1189 = some (.bipush 114, 2, 0, 0, 0) := rfl
theorem sl_206_1191 : pm_206.2.2.2.2.2 1191 = some (.iastore, 1, 0, 0, 0) := rfl
theorem sl_206_1192 : pm_206.2.2.2.2.2 1192 = some (.dup, 1, 0, 0, 0) := rfl
theorem sl_206_1193 : pm_206.2.2.2.2.2 1193 = some (.bipush 6, 2, 0, 0, 0) := rfl
theorem sl_206_1195 : pm_206.2.2.2.2.2 1195 = some (.bipush 116, 2, 0, 0, 0) := rfl
theorem sl_206_1197 : pm_206.2.2.2.2.2 1197 = some (.iastore, 1, 0, 0, 0) := rfl
theorem sl_206_1198 : pm_206.2.2.2.2.2 1198 = some (.dup, 1, 0, 0, 0) := rfl
theorem sl_206_1199 : pm_206.2.2.2.2.2 1199 = some (.bipush 7, 2, 0, 0, 0) := rfl
theorem sl_206_1201 : pm_206.2.2.2.2.2 1201 = some (.iconst 0, 1, 0, 0, 0) := rfl
theorem sl_206_1202 : pm_206.2.2.2.2.2 1202 = some (.iastore, 1, 0, 0, 0) := rfl
theorem sl_206_1203 : pm_206.2.2.2.2.2 1203 = some (.dup, 1, 0, 0, 0) := rfl
theorem sl_206_1204 : pm_206.2.2.2.2.2 1204 = some (.bipush 8, 2, 0, 0, 0) := rfl
theorem sl_206_1206 : pm_206.2.2.2.2.2 1206 = some (.bipush 108, 2, 0, 0, 0) := rfl
theorem sl_206_1208 : pm_206.2.2.2.2.2 1208 = some (.iastore, 1, 0, 0, 0) := rfl
theorem sl_206_1209 : pm_206.2.2.2.2.2 1209 = some (.dup, 1, 0, 0, 0) := rfl
theorem sl_206_1210 : pm_206.2.2.2.2.2 1210 = some (.bipush 9, 2, 0, 0, 0) := rfl
theorem sl_206_1212 : pm_206.2.2.2.2.2 1212 = some (.bipush 101, 2, 0, 0, 0) := rfl
theorem sl_206_1214 : pm_206.2.2.2.2.2 1214 = some (.iastore, 1, 0, 0, 0) := rfl
theorem sl_206_1215 : pm_206.2.2.2.2.2 1215 = some (.dup, 1, 0, 0, 0) := rfl
theorem sl_206_1216 : pm_206.2.2.2.2.2 1216 = some (.bipush 10, 2, 0, 0, 0) := rfl
theorem sl_206_1218 : pm_206.2.2.2.2.2 1218 = some (.bipush 110, 2, 0, 0, 0) := rfl
theorem sl_206_1220 : pm_206.2.2.2.2.2 1220 = some (.iastore, 1, 0, 0, 0) := rfl
theorem sl_206_1221 : pm_206.2.2.2.2.2 1221 = some (.dup, 1, 0, 0, 0) := rfl
theorem sl_206_1222 : pm_206.2.2.2.2.2 1222 = some (.bipush 11, 2, 0, 0, 0) := rfl
theorem sl_206_1224 : pm_206.2.2.2.2.2 1224 = some (.bipush 103, 2, 0, 0, 0) := rfl
theorem sl_206_1226 : pm_206.2.2.2.2.2 1226 = some (.iastore, 1, 0, 0, 0) := rfl
theorem sl_206_1227 : pm_206.2.2.2.2.2 1227 = some (.dup, 1, 0, 0, 0) := rfl
theorem sl_206_1228 : pm_206.2.2.2.2.2 1228 = some (.bipush 12, 2, 0, 0, 0) := rfl
theorem sl_206_1230 : pm_206.2.2.2.2.2 1230 = some (.bipush 116, 2, 0, 0, 0) := rfl
theorem sl_206_1232 : pm_206.2.2.2.2.2 1232 = some (.iastore, 1, 0, 0, 0) := rfl
theorem sl_206_1233 : pm_206.2.2.2.2.2 1233 = some (.dup, 1, 0, 0, 0) := rfl
theorem sl_206_1234 : pm_206.2.2.2.2.2 1234 = some (.bipush 13, 2, 0, 0, 0) := rfl
theorem sl_206_1236 : pm_206.2.2.2.2.2 1236 = some (.bipush 104, 2, 0, 0, 0) := rfl
theorem sl_206_1238 : pm_206.2.2.2.2.2 1238 = some (.iastore, 1, 0, 0, 0) := rfl
theorem sl_206_1239 : pm_206.2.2.2.2.2 1239 = some (.dup, 1, 0, 0, 0) := rfl
theorem sl_206_1240 : pm_206.2.2.2.2.2 1240 = some (.bipush 14, 2, 0, 0, 0) := rfl
theorem sl_206_1242 : pm_206.2.2.2.2.2 1242 = some (.iconst 0, 1, 0, 0, 0) := rfl
theorem sl_206_1243 : pm_206.2.2.2.2.2 1243 = some (.iastore, 1, 0, 0, 0) := rfl
theorem sl_206_1244 : pm_206.2.2.2.2.2 1244 = some (.dup, 1, 0, 0, 0) := rfl
theorem sl_206_1245 : pm_206.2.2.2.2.2 1245 = some (.bipush 15, 2, 0, 0, 0) := rfl
theorem sl_206_1247 : pm_206.2.2.2.2.2 1247 = some (.bipush 111, 2, 0, 0, 0) := rfl
theorem sl_206_1249 : pm_206.2.2.2.2.2 1249 = some (.iastore, 1, 0, 0, 0) := rfl
theorem sl_206_1250 : pm_206.2.2.2.2.2 1250 = some (.dup, 1, 0, 0, 0) := rfl
theorem sl_206_1251 : pm_206.2.2.2.2.2 1251 = some (.bipush 16, 2, 0, 0, 0) := rfl
theorem sl_206_1253 : pm_206.2.2.2.2.2 1253 = some (.bipush 117, 2, 0, 0, 0) := rfl
theorem sl_206_1255 : pm_206.2.2.2.2.2 1255 = some (.iastore, 1, 0, 0, 0) := rfl
theorem sl_206_1256 : pm_206.2.2.2.2.2 1256 = some (.dup, 1, 0, 0, 0) := rfl
theorem sl_206_1257 : pm_206.2.2.2.2.2 1257 = some (.bipush 17, 2, 0, 0, 0) := rfl
theorem sl_206_1259 : pm_206.2.2.2.2.2 1259 = some (.bipush 116, 2, 0, 0, 0) := rfl
theorem sl_206_1261 : pm_206.2.2.2.2.2 1261 = some (.iastore, 1, 0, 0, 0) := rfl
theorem sl_206_1262 : pm_206.2.2.2.2.2 1262 = some (.dup, 1, 0, 0, 0) := rfl
theorem sl_206_1263 : pm_206.2.2.2.2.2 1263 = some (.bipush 18, 2, 0, 0, 0) := rfl
theorem sl_206_1265 : pm_206.2.2.2.2.2 1265 = some (.bipush 95, 2, 0, 0, 0) := rfl
theorem sl_206_1267 : pm_206.2.2.2.2.2 1267 = some (.iastore, 1, 0, 0, 0) := rfl
theorem sl_206_1268 : pm_206.2.2.2.2.2 1268 = some (.dup, 1, 0, 0, 0) := rfl
theorem sl_206_1269 : pm_206.2.2.2.2.2 1269 = some (.bipush 19, 2, 0, 0, 0) := rfl
theorem sl_206_1271 : pm_206.2.2.2.2.2 1271 = some (.bipush 112, 2, 0, 0, 0) := rfl
theorem sl_206_1273 : pm_206.2.2.2.2.2 1273 = some (.iastore, 1, 0, 0, 0) := rfl
theorem sl_206_1274 : pm_206.2.2.2.2.2 1274 = some (.dup, 1, 0, 0, 0) := rfl
theorem sl_206_1275 : pm_206.2.2.2.2.2 1275 = some (.bipush 20, 2, 0, 0, 0) := rfl
theorem sl_206_1277 : pm_206.2.2.2.2.2 1277 = some (.bipush 111, 2, 0, 0, 0) := rfl
theorem sl_206_1279 : pm_206.2.2.2.2.2 1279 = some (.iastore, 1, 0, 0, 0) := rfl
theorem sl_206_1280 : pm_206.2.2.2.2.2 1280 = some (.dup, 1, 0, 0, 0) := rfl
theorem sl_206_1281 : pm_206.2.2.2.2.2 1281 = some (.bipush 21, 2, 0, 0, 0) := rfl
theorem sl_206_1283 : pm_206.2.2.2.2.2 1283 = some (.bipush 114, 2, 0, 0, 0) := rfl
theorem sl_206_1285 : pm_206.2.2.2.2.2 1285 = some (.iastore, 1, 0, 0, 0) := rfl
theorem sl_206_1286 : pm_206.2.2.2.2.2 1286 = some (.dup, 1, 0, 0, 0) := rfl
theorem sl_206_1287 : pm_206.2.2.2.2.2 1287 = some (.bipush 22, 2, 0, 0, 0) := rfl
theorem sl_206_1289 : pm_206.2.2.2.2.2 1289 = some (.bipush 116, 2, 0, 0, 0) := rfl
theorem sl_206_1291 : pm_206.2.2.2.2.2 1291 = some (.iastore, 1, 0, 0, 0) := rfl
theorem sl_206_1292 : pm_206.2.2.2.2.2 1292 = some (.dup, 1, 0, 0, 0) := rfl
theorem sl_206_1293 : pm_206.2.2.2.2.2 1293 = some (.bipush 23, 2, 0, 0, 0) := rfl
theorem sl_206_1295 : pm_206.2.2.2.2.2 1295 = some (.iconst 0, 1, 0, 0, 0) := rfl
theorem sl_206_1296 : pm_206.2.2.2.2.2 1296 = some (.iastore, 1, 0, 0, 0) := rfl
theorem sl_206_1297 : pm_206.2.2.2.2.2 1297 = some (.dup, 1, 0, 0, 0) := rfl
theorem sl_206_1298 : pm_206.2.2.2.2.2 1298 = some (.bipush 24, 2, 0, 0, 0) := rfl
theorem sl_206_1300 : pm_206.2.2.2.2.2 1300 = some (.bipush 97, 2, 0, 0, 0) := rfl
theorem sl_206_1302 : pm_206.2.2.2.2.2 1302 = some (.iastore, 1, 0, 0, 0) := rfl
theorem sl_206_1303 : pm_206.2.2.2.2.2 1303 = some (.dup, 1, 0, 0, 0) := rfl
theorem sl_206_1304 : pm_206.2.2.2.2.2 1304 = some (.bipush 25, 2, 0, 0, 0) := rfl
theorem sl_206_1306 : pm_206.2.2.2.2.2 1306 = some (.bipush 99, 2, 0, 0, 0) := rfl
theorem sl_206_1308 : pm_206.2.2.2.2.2 1308 = some (.iastore, 1, 0, 0, 0) := rfl
theorem sl_206_1309 : pm_206.2.2.2.2.2 1309 = some (.dup, 1, 0, 0, 0) := rfl
theorem sl_206_1310 : pm_206.2.2.2.2.2 1310 = some (.bipush 26, 2, 0, 0, 0) := rfl
theorem sl_206_1312 : pm_206.2.2.2.2.2 1312 = some (.bipush 99, 2, 0, 0, 0) := rfl
theorem sl_206_1314 : pm_206.2.2.2.2.2 1314 = some (.iastore, 1, 0, 0, 0) := rfl
theorem sl_206_1315 : pm_206.2.2.2.2.2 1315 = some (.dup, 1, 0, 0, 0) := rfl
theorem sl_206_1316 : pm_206.2.2.2.2.2 1316 = some (.bipush 27, 2, 0, 0, 0) := rfl
theorem sl_206_1318 : pm_206.2.2.2.2.2 1318 = some (.bipush 101, 2, 0, 0, 0) := rfl
theorem sl_206_1320 : pm_206.2.2.2.2.2 1320 = some (.iastore, 1, 0, 0, 0) := rfl
theorem sl_206_1321 : pm_206.2.2.2.2.2 1321 = some (.dup, 1, 0, 0, 0) := rfl
theorem sl_206_1322 : pm_206.2.2.2.2.2 1322 = some (.bipush 28, 2, 0, 0, 0) := rfl
theorem sl_206_1324 : pm_206.2.2.2.2.2 1324 = some (.bipush 112, 2, 0, 0, 0) := rfl
theorem sl_206_1326 : pm_206.2.2.2.2.2 1326 = some (.iastore, 1, 0, 0, 0) := rfl
theorem sl_206_1327 : pm_206.2.2.2.2.2 1327 = some (.dup, 1, 0, 0, 0) := rfl
theorem sl_206_1328 : pm_206.2.2.2.2.2 1328 = some (.bipush 29, 2, 0, 0, 0) := rfl
theorem sl_206_1330 : pm_206.2.2.2.2.2 1330 = some (.bipush 116, 2, 0, 0, 0) := rfl
theorem sl_206_1332 : pm_206.2.2.2.2.2 1332 = some (.iastore, 1, 0, 0, 0) := rfl
theorem sl_206_1333 : pm_206.2.2.2.2.2 1333 = some (.dup, 1, 0, 0, 0) := rfl
theorem sl_206_1334 : pm_206.2.2.2.2.2 1334 = some (.bipush 30, 2, 0, 0, 0) := rfl
theorem sl_206_1336 : pm_206.2.2.2.2.2 1336 = some (.iconst 0, 1, 0, 0, 0) := rfl
theorem sl_206_1337 : pm_206.2.2.2.2.2 1337 = some (.iastore, 1, 0, 0, 0) := rfl
theorem sl_206_1338 : pm_206.2.2.2.2.2 1338 = some (.dup, 1, 0, 0, 0) := rfl
theorem sl_206_1339 : pm_206.2.2.2.2.2 1339 = some (.bipush 31, 2, 0, 0, 0) := rfl
theorem sl_206_1341 : pm_206.2.2.2.2.2 1341 = some (.bipush 114, 2, 0, 0, 0) := rfl
theorem sl_206_1343 : pm_206.2.2.2.2.2 1343 = some (.iastore, 1, 0, 0, 0) := rfl
theorem sl_206_1344 : pm_206.2.2.2.2.2 1344 = some (.dup, 1, 0, 0, 0) := rfl
theorem sl_206_1345 : pm_206.2.2.2.2.2 1345 = some (.bipush 32, 2, 0, 0, 0) := rfl
theorem sl_206_1347 : pm_206.2.2.2.2.2 1347 = some (.bipush 101, 2, 0, 0, 0) := rfl
theorem sl_206_1349 : pm_206.2.2.2.2.2 1349 = some (.iastore, 1, 0, 0, 0) := rfl
theorem sl_206_1350 : pm_206.2.2.2.2.2 1350 = some (.dup, 1, 0, 0, 0) := rfl
theorem sl_206_1351 : pm_206.2.2.2.2.2 1351 = some (.bipush 33, 2, 0, 0, 0) := rfl
theorem sl_206_1353 : pm_206.2.2.2.2.2 1353 = some (.bipush 106, 2, 0, 0, 0) := rfl
theorem sl_206_1355 : pm_206.2.2.2.2.2 1355 = some (.iastore, 1, 0, 0, 0) := rfl
theorem sl_206_1356 : pm_206.2.2.2.2.2 1356 = some (.dup, 1, 0, 0, 0) := rfl
theorem sl_206_1357 : pm_206.2.2.2.2.2 1357 = some (.bipush 34, 2, 0, 0, 0) := rfl
theorem sl_206_1359 : pm_206.2.2.2.2.2 1359 = some (.bipush 101, 2, 0, 0, 0) := rfl
theorem sl_206_1361 : pm_206.2.2.2.2.2 1361 = some (.iastore, 1, 0, 0, 0) := rfl
theorem sl_206_1362 : pm_206.2.2.2.2.2 1362 = some (.dup, 1, 0, 0, 0) := rfl
theorem sl_206_1363 : pm_206.2.2.2.2.2 1363 = some (.bipush 35, 2, 0, 0, 0) := rfl
theorem sl_206_1365 : pm_206.2.2.2.2.2 1365 = some (.bipush 99, 2, 0, 0, 0) := rfl
theorem sl_206_1367 : pm_206.2.2.2.2.2 1367 = some (.iastore, 1, 0, 0, 0) := rfl
theorem sl_206_1368 : pm_206.2.2.2.2.2 1368 = some (.dup, 1, 0, 0, 0) := rfl
theorem sl_206_1369 : pm_206.2.2.2.2.2 1369 = some (.bipush 36, 2, 0, 0, 0) := rfl
theorem sl_206_1371 : pm_206.2.2.2.2.2 1371 = some (.bipush 116, 2, 0, 0, 0) := rfl
theorem sl_206_1373 : pm_206.2.2.2.2.2 1373 = some (.iastore, 1, 0, 0, 0) := rfl
theorem sl_206_1374 : pm_206.2.2.2.2.2 1374 = some (.dup, 1, 0, 0, 0) := rfl
theorem sl_206_1375 : pm_206.2.2.2.2.2 1375 = some (.bipush 37, 2, 0, 0, 0) := rfl
theorem sl_206_1377 : pm_206.2.2.2.2.2 1377 = some (.iconst 0, 1, 0, 0, 0) := rfl
theorem sl_206_1378 : pm_206.2.2.2.2.2 1378 = some (.iastore, 1, 0, 0, 0) := rfl
theorem sl_206_1379 : pm_206.2.2.2.2.2 1379 = some (.putfield 38, 3, 12, 18, 0) := rfl
theorem sl_206_1382 : pm_206.2.2.2.2.2 1382 = some (.aload_n 0, 1, 0, 0, 0) := rfl
theorem sl_206_1383 : pm_206.2.2.2.2.2 1383 = some (.bipush 12, 2, 0, 0, 0) := rfl
theorem sl_206_1385 : pm_206.2.2.2.2.2 1385 = some (.newarray .int, 2, 0, 0, 0) := rfl
theorem sl_206_1387 : pm_206.2.2.2.2.2 1387 = some (.putfield 41, 3, 12, 29, 0) := rfl
theorem sl_206_1390 : pm_206.2.2.2.2.2 1390 = some (.aload_n 0, 1, 0, 0, 0) := rfl
theorem sl_206_1391 : pm_206.2.2.2.2.2 1391 = some (.bipush 12, 2, 0, 0, 0) := rfl
theorem sl_206_1393 : pm_206.2.2.2.2.2 1393 = some (.newarray .int, 2, 0, 0, 0) := rfl
theorem sl_206_1395 : pm_206.2.2.2.2.2 1395 = some (.putfield 44, 3, 12, 30, 0) := rfl
theorem sl_206_1398 : pm_206.2.2.2.2.2 1398 = some (.aload_n 0, 1, 0, 0, 0) := rfl
theorem sl_206_1399 : pm_206.2.2.2.2.2 1399 = some (.sipush 192, 3, 0, 0, 0) := rfl
theorem sl_206_1402 : pm_206.2.2.2.2.2 1402 = some (.newarray .int, 2, 0, 0, 0) := rfl
theorem sl_206_1404 : pm_206.2.2.2.2.2 1404 = some (.putfield 47, 3, 12, 31, 0) := rfl
theorem sl_206_1407 : pm_206.2.2.2.2.2 1407 = some (.aload_n 0, 1, 0, 0, 0) := rfl
theorem sl_206_1408 : pm_206.2.2.2.2.2 1408 = some (.sipush 192, 3, 0, 0, 0) := rfl
theorem sl_206_1411 : pm_206.2.2.2.2.2 1411 = some (.newarray .int, 2, 0, 0, 0) := rfl
theorem sl_206_1413 : pm_206.2.2.2.2.2 1413 = some (.putfield 50, 3, 12, 32, 0) := rfl
theorem sl_206_1416 : pm_206.2.2.2.2.2 1416 = some (.aload_n 0, 1, 0, 0, 0) := rfl
theorem sl_206_1417 : pm_206.2.2.2.2.2 1417 = some (.sipush 192, 3, 0, 0, 0) := rfl
theorem sl_206_1420 : pm_206.2.2.2.2.2 1420 = some (.newarray .int, 2, 0, 0, 0) := rfl
theorem sl_206_1422 : pm_206.2.2.2.2.2 1422 = some (.putfield 53, 3, 12, 33, 0) := rfl
theorem sl_206_1425 : pm_206.2.2.2.2.2 1425 = some (.aload_n 0, 1, 0, 0, 0) := rfl
theorem sl_206_1426 : pm_206.2.2.2.2.2 1426 = some (.bipush 12, 2, 0, 0, 0) := rfl
theorem sl_206_1428 : pm_206.2.2.2.2.2 1428 = some (.newarray .int, 2, 0, 0, 0) := rfl
theorem sl_206_1430 : pm_206.2.2.2.2.2 1430 = some (.putfield 56, 3, 12, 34, 0) := rfl
theorem sl_206_1433 : pm_206.2.2.2.2.2 1433 = some (.aload_n 0, 1, 0, 0, 0) := rfl
theorem sl_206_1434 : pm_206.2.2.2.2.2 1434 = some (.bipush 16, 2, 0, 0, 0) := rfl
theorem sl_206_1436 : pm_206.2.2.2.2.2 1436 = some (.newarray .int, 2, 0, 0, 0) := rfl
theorem sl_206_1438 : pm_206.2.2.2.2.2 1438 = some (.putfield 59, 3, 12, 35, 0) := rfl
theorem sl_206_1441 : pm_206.2.2.2.2.2 1441 = some (.aload_n 0, 1, 0, 0, 0) := rfl
theorem sl_206_1442 : pm_206.2.2.2.2.2 1442 = some (.bipush 8, 2, 0, 0, 0) := rfl
theorem sl_206_1444 : pm_206.2.2.2.2.2 1444 = some (.newarray .int, 2, 0, 0, 0) := rfl
theorem sl_206_1446 : pm_206.2.2.2.2.2 1446 = some (.putfield 62, 3, 12, 36, 0) := rfl
theorem sl_206_1449 : pm_206.2.2.2.2.2 1449 = some (.aload_n 0, 1, 0, 0, 0) := rfl
theorem sl_206_1450 : pm_206.2.2.2.2.2 1450 = some (.bipush 16, 2, 0, 0, 0) := rfl
theorem sl_206_1452 : pm_206.2.2.2.2.2 1452 = some (.newarray .int, 2, 0, 0, 0) := rfl
theorem sl_206_1454 : pm_206.2.2.2.2.2 1454 = some (.putfield 65, 3, 12, 37, 0) := rfl
theorem sl_206_1457 : pm_206.2.2.2.2.2 1457 = some (.aload_n 0, 1, 0, 0, 0) := rfl
theorem sl_206_1458 : pm_206.2.2.2.2.2 1458 = some (.bipush 16, 2, 0, 0, 0) := rfl
theorem sl_206_1460 : pm_206.2.2.2.2.2 1460 = some (.newarray .int, 2, 0, 0, 0) := rfl
theorem sl_206_1462 : pm_206.2.2.2.2.2 1462 = some (.putfield 68, 3, 12, 38, 0) := rfl
theorem sl_206_1465 : pm_206.2.2.2.2.2 1465 = some (.aload_n 0, 1, 0, 0, 0) := rfl
theorem sl_206_1466 : pm_206.2.2.2.2.2 1466 = some (.bipush 16, 2, 0, 0, 0) := rfl
theorem sl_206_1468 : pm_206.2.2.2.2.2 1468 = some (.newarray .int, 2, 0, 0, 0) := rfl
theorem sl_206_1470 : pm_206.2.2.2.2.2 1470 = some (.putfield 71, 3, 12, 39, 0) := rfl
theorem sl_206_1473 : pm_206.2.2.2.2.2 1473 = some (.aload_n 0, 1, 0, 0, 0) := rfl
theorem sl_206_1474 : pm_206.2.2.2.2.2 1474 = some (.bipush 16, 2, 0, 0, 0) := rfl
theorem sl_206_1476 : pm_206.2.2.2.2.2 1476 = some (.newarray .int, 2, 0, 0, 0) := rfl
theorem sl_206_1478 : pm_206.2.2.2.2.2 1478 = some (.putfield 74, 3, 12, 40, 0) := rfl
theorem sl_206_1481 : pm_206.2.2.2.2.2 1481 = some (.aload_n 0, 1, 0, 0, 0) := rfl
theorem sl_206_1482 : pm_206.2.2.2.2.2 1482 = some (.bipush 16, 2, 0, 0, 0) := rfl
theorem sl_206_1484 : pm_206.2.2.2.2.2 1484 = some (.newarray .int, 2, 0, 0, 0) := rfl
theorem sl_206_1486 : pm_206.2.2.2.2.2 1486 = some (.putfield 77, 3, 12, 41, 0) := rfl
theorem sl_206_1489 : pm_206.2.2.2.2.2 1489 = some (.aload_n 0, 1, 0, 0, 0) := rfl
theorem sl_206_1490 : pm_206.2.2.2.2.2 1490 = some (.bipush 16, 2, 0, 0, 0) := rfl
theorem sl_206_1492 : pm_206.2.2.2.2.2 1492 = some (.newarray .int, 2, 0, 0, 0) := rfl
theorem sl_206_1494 : pm_206.2.2.2.2.2 1494 = some (.putfield 80, 3, 12, 42, 0) := rfl
theorem sl_206_1497 : pm_206.2.2.2.2.2 1497 = some (.aload_n 0, 1, 0, 0, 0) := rfl
theorem sl_206_1498 : pm_206.2.2.2.2.2 1498 = some (.bipush 16, 2, 0, 0, 0) := rfl
theorem sl_206_1500 : pm_206.2.2.2.2.2 1500 = some (.newarray .int, 2, 0, 0, 0) := rfl
theorem sl_206_1502 : pm_206.2.2.2.2.2 1502 = some (.putfield 83, 3, 12, 43, 0) := rfl
theorem sl_206_1505 : pm_206.2.2.2.2.2 1505 = some (.aload_n 0, 1, 0, 0, 0) := rfl
theorem sl_206_1506 : pm_206.2.2.2.2.2 1506 = some (.bipush 16, 2, 0, 0, 0) := rfl
theorem sl_206_1508 : pm_206.2.2.2.2.2 1508 = some (.newarray .int, 2, 0, 0, 0) := rfl
theorem sl_206_1510 : pm_206.2.2.2.2.2 1510 = some (.putfield 86, 3, 12, 44, 0) := rfl
theorem sl_206_1513 : pm_206.2.2.2.2.2 1513 = some (.aload_n 0, 1, 0, 0, 0) := rfl
theorem sl_206_1514 : pm_206.2.2.2.2.2 1514 = some (.sipush 128, 3, 0, 0, 0) := rfl
theorem sl_206_1517 : pm_206.2.2.2.2.2 1517 = some (.newarray .int, 2, 0, 0, 0) := rfl
theorem sl_206_1519 : pm_206.2.2.2.2.2 1519 = some (.putfield 89, 3, 12, 45, 0) := rfl
theorem sl_206_1522 : pm_206.2.2.2.2.2 1522 = some (.aload_n 0, 1, 0, 0, 0) := rfl
theorem sl_206_1523 : pm_206.2.2.2.2.2 1523 = some (.bipush 16, 2, 0, 0, 0) := rfl
theorem sl_206_1525 : pm_206.2.2.2.2.2 1525 = some (.newarray .int, 2, 0, 0, 0) := rfl
theorem sl_206_1527 : pm_206.2.2.2.2.2 1527 = some (.putfield 92, 3, 12, 46, 0) := rfl
theorem sl_206_1530 : pm_206.2.2.2.2.2 1530 = some (.aload_n 0, 1, 0, 0, 0) := rfl
theorem sl_206_1531 : pm_206.2.2.2.2.2 1531 = some (.bipush 64, 2, 0, 0, 0) := rfl
theorem sl_206_1533 : pm_206.2.2.2.2.2 1533 = some (.newarray .int, 2, 0, 0, 0) := rfl
theorem sl_206_1535 : pm_206.2.2.2.2.2 1535 = some (.putfield 95, 3, 12, 47, 0) := rfl
theorem sl_206_1538 : pm_206.2.2.2.2.2 1538 = some (.aload_n 0, 1, 0, 0, 0) := rfl
theorem sl_206_1539 : pm_206.2.2.2.2.2 1539 = some (.bipush 64, 2, 0, 0, 0) := rfl
theorem sl_206_1541 : pm_206.2.2.2.2.2 1541 = some (.newarray .int, 2, 0, 0, 0) := rfl
theorem sl_206_1543 : pm_206.2.2.2.2.2 1543 = some (.putfield 98, 3, 12, 48, 0) := rfl
theorem sl_206_1546 : pm_206.2.2.2.2.2 1546 = some (.aload_n 0, 1, 0, 0, 0) := rfl
theorem sl_206_1547 : pm_206.2.2.2.2.2 1547 = some (.bipush 64, 2, 0, 0, 0) := rfl
theorem sl_206_1549 : pm_206.2.2.2.2.2 1549 = some (.newarray .int, 2, 0, 0, 0) := rfl
theorem sl_206_1551 : pm_206.2.2.2.2.2 1551 = some (.putfield 101, 3, 12, 49, 0) := rfl
theorem sl_206_1554 : pm_206.2.2.2.2.2 1554 = some (.aload_n 0, 1, 0, 0, 0) := rfl
theorem sl_206_1555 : pm_206.2.2.2.2.2 1555 = some (.bipush 16, 2, 0, 0, 0) := rfl
theorem sl_206_1557 : pm_206.2.2.2.2.2 1557 = some (.newarray .int, 2, 0, 0, 0) := rfl
theorem sl_206_1559 : pm_206.2.2.2.2.2 1559 = some (.putfield 104, 3, 12, 50, 0) := rfl
theorem sl_206_1562 : pm_206.2.2.2.2.2 1562 = some (.aload_n 0, 1, 0, 0, 0) := rfl
theorem sl_206_1563 : pm_206.2.2.2.2.2 1563 = some (.bipush 8, 2, 0, 0, 0) := rfl
theorem sl_206_1565 : pm_206.2.2.2.2.2 1565 = some (.newarray .int, 2, 0, 0, 0) := rfl
theorem sl_206_1567 : pm_206.2.2.2.2.2 1567 = some (.putfield 107, 3, 12, 51, 0) := rfl
theorem sl_206_1570 : pm_206.2.2.2.2.2 1570 = some (.aload_n 0, 1, 0, 0, 0) := rfl
theorem sl_206_1571 : pm_206.2.2.2.2.2 1571 = some (.bipush 8, 2, 0, 0, 0) := rfl
theorem sl_206_1573 : pm_206.2.2.2.2.2 1573 = some (.newarray .int, 2, 0, 0, 0) := rfl
theorem sl_206_1575 : pm_206.2.2.2.2.2 1575 = some (.putfield 110, 3, 12, 52, 0) := rfl
theorem sl_206_1578 : pm_206.2.2.2.2.2 1578 = some (.aload_n 0, 1, 0, 0, 0) := rfl
theorem sl_206_1579 : pm_206.2.2.2.2.2 1579 = some (.bipush 8, 2, 0, 0, 0) := rfl
theorem sl_206_1581 : pm_206.2.2.2.2.2 1581 = some (.newarray .int, 2, 0, 0, 0) := rfl
theorem sl_206_1583 : pm_206.2.2.2.2.2 1583 = some (.putfield 113, 3, 12, 53, 0) := rfl
theorem sl_206_1586 : pm_206.2.2.2.2.2 1586 = some (.aload_n 0, 1, 0, 0, 0) := rfl
theorem sl_206_1587 : pm_206.2.2.2.2.2 1587 = some (.bipush 8, 2, 0, 0, 0) := rfl
theorem sl_206_1589 : pm_206.2.2.2.2.2 1589 = some (.newarray .int, 2, 0, 0, 0) := rfl
theorem sl_206_1591 : pm_206.2.2.2.2.2 1591 = some (.putfield 116, 3, 12, 54, 0) := rfl
theorem sl_206_1594 : pm_206.2.2.2.2.2 1594 = some (.aload_n 0, 1, 0, 0, 0) := rfl
theorem sl_206_1595 : pm_206.2.2.2.2.2 1595 = some (.bipush 8, 2, 0, 0, 0) := rfl
theorem sl_206_1597 : pm_206.2.2.2.2.2 1597 = some (.newarray .int, 2, 0, 0, 0) := rfl
theorem sl_206_1599 : pm_206.2.2.2.2.2 1599 = some (.putfield 119, 3, 12, 55, 0) := rfl
theorem sl_206_1602 : pm_206.2.2.2.2.2 1602 = some (.aload_n 0, 1, 0, 0, 0) := rfl
theorem sl_206_1603 : pm_206.2.2.2.2.2 1603 = some (.bipush 8, 2, 0, 0, 0) := rfl
theorem sl_206_1605 : pm_206.2.2.2.2.2 1605 = some (.newarray .int, 2, 0, 0, 0) := rfl
theorem sl_206_1607 : pm_206.2.2.2.2.2 1607 = some (.putfield 122, 3, 12, 56, 0) := rfl
theorem sl_206_1610 : pm_206.2.2.2.2.2 1610 = some (.aload_n 0, 1, 0, 0, 0) := rfl
theorem sl_206_1611 : pm_206.2.2.2.2.2 1611 = some (.bipush 8, 2, 0, 0, 0) := rfl
theorem sl_206_1613 : pm_206.2.2.2.2.2 1613 = some (.newarray .int, 2, 0, 0, 0) := rfl
theorem sl_206_1615 : pm_206.2.2.2.2.2 1615 = some (.putfield 125, 3, 12, 57, 0) := rfl
theorem sl_206_1618 : pm_206.2.2.2.2.2 1618 = some (.aload_n 0, 1, 0, 0, 0) := rfl
theorem sl_206_1619 : pm_206.2.2.2.2.2 1619 = some (.bipush 8, 2, 0, 0, 0) := rfl
theorem sl_206_1621 : pm_206.2.2.2.2.2 1621 = some (.newarray .boolean, 2, 3, 0, 0) := rfl
theorem sl_206_1623 : pm_206.2.2.2.2.2 1623 = some (.putfield 128, 3, 12, 58, 0) := rfl
theorem sl_206_1626 : pm_206.2.2.2.2.2 1626 = some (.aload_n 0, 1, 0, 0, 0) := rfl
theorem sl_206_1627 : pm_206.2.2.2.2.2 1627 = some (.bipush 8, 2, 0, 0, 0) := rfl
theorem sl_206_1629 : pm_206.2.2.2.2.2 1629 = some (.newarray .boolean, 2, 3, 0, 0) := rfl
theorem sl_206_1631 : pm_206.2.2.2.2.2 1631 = some (.putfield 132, 3, 12, 59, 0) := rfl
theorem sl_206_1634 : pm_206.2.2.2.2.2 1634 = some (.aload_n 0, 1, 0, 0, 0) := rfl
theorem sl_206_1635 : pm_206.2.2.2.2.2 1635 = some (.bipush 48, 2, 0, 0, 0) := rfl
theorem sl_206_1637 : pm_206.2.2.2.2.2 1637 = some (.newarray .int, 2, 0, 0, 0) := rfl
theorem sl_206_1639 : pm_206.2.2.2.2.2 1639 = some (.putfield 135, 3, 12, 60, 0) := rfl
theorem sl_206_1642 : pm_206.2.2.2.2.2 1642 = some (.aload_n 0, 1, 0, 0, 0) := rfl
theorem sl_206_1643 : pm_206.2.2.2.2.2 1643 = some (.bipush 48, 2, 0, 0, 0) := rfl
theorem sl_206_1645 : pm_206.2.2.2.2.2 1645 = some (.newarray .int, 2, 0, 0, 0) := rfl
theorem sl_206_1647 : pm_206.2.2.2.2.2 1647 = some (.putfield 138, 3, 12, 61, 0) := rfl
theorem sl_206_1650 : pm_206.2.2.2.2.2 1650 = some (.aload_n 0, 1, 0, 0, 0) := rfl
theorem sl_206_1651 : pm_206.2.2.2.2.2 1651 = some (.bipush 48, 2, 0, 0, 0) := rfl
theorem sl_206_1653 : pm_206.2.2.2.2.2 1653 = some (.newarray .int, 2, 0, 0, 0) := rfl
theorem sl_206_1655 : pm_206.2.2.2.2.2 1655 = some (.putfield 141, 3, 12, 62, 0) := rfl
theorem sl_206_1658 : pm_206.2.2.2.2.2 1658 = some (.aload_n 0, 1, 0, 0, 0) := rfl
theorem sl_206_1659 : pm_206.2.2.2.2.2 1659 = some (.bipush 48, 2, 0, 0, 0) := rfl
theorem sl_206_1661 : pm_206.2.2.2.2.2 1661 = some (.newarray .int, 2, 0, 0, 0) := rfl
theorem sl_206_1663 : pm_206.2.2.2.2.2 1663 = some (.putfield 144, 3, 12, 63, 0) := rfl
theorem sl_206_1666 : pm_206.2.2.2.2.2 1666 = some (.aload_n 0, 1, 0, 0, 0) := rfl
theorem sl_206_1667 : pm_206.2.2.2.2.2 1667 = some (.iconst (-1), 1, 0, 0, 0) := rfl
theorem sl_206_1668 : pm_206.2.2.2.2.2 1668 = some (.putfield 147, 3, 12, 64, 0) := rfl
theorem sl_206_1671 : pm_206.2.2.2.2.2 1671 = some (.aload_n 0, 1, 0, 0, 0) := rfl
theorem sl_206_1672 : pm_206.2.2.2.2.2 1672 = some (.sipush 800, 3, 0, 0, 0) := rfl
theorem sl_206_1675 : pm_206.2.2.2.2.2 1675 = some (.newarray .int, 2, 0, 0, 0) := rfl
theorem sl_206_1677 : pm_206.2.2.2.2.2 1677 = some (.putfield 150, 3, 12, 65, 0) := rfl
theorem sl_206_1680 : pm_206.2.2.2.2.2 1680 = some (.aload_n 0, 1, 0, 0, 0) := rfl
theorem sl_206_1681 : pm_206.2.2.2.2.2 1681 = some (.sipush 800, 3, 0, 0, 0) := rfl
theorem sl_206_1684 : pm_206.2.2.2.2.2 1684 = some (.newarray .int, 2, 0, 0, 0) := rfl
theorem sl_206_1686 : pm_206.2.2.2.2.2 1686 = some (.putfield 153, 3, 12, 66, 0) := rfl
theorem sl_206_1689 : pm_206.2.2.2.2.2 1689 = some (.aload_n 0, 1, 0, 0, 0) := rfl
theorem sl_206_1690 : pm_206.2.2.2.2.2 1690 = some (.sipush 800, 3, 0, 0, 0) := rfl
theorem sl_206_1693 : pm_206.2.2.2.2.2 1693 = some (.newarray .int, 2, 0, 0, 0) := rfl
theorem sl_206_1695 : pm_206.2.2.2.2.2 1695 = some (.putfield 156, 3, 12, 67, 0) := rfl
theorem sl_206_1698 : pm_206.2.2.2.2.2 1698 = some (.aload_n 0, 1, 0, 0, 0) := rfl
theorem sl_206_1699 : pm_206.2.2.2.2.2 1699 = some (.sipush 800, 3, 0, 0, 0) := rfl
theorem sl_206_1702 : pm_206.2.2.2.2.2 1702 = some (.newarray .long, 2, 1, 0, 0) := rfl
theorem sl_206_1704 : pm_206.2.2.2.2.2 1704 = some (.putfield 159, 3, 12, 68, 0) := rfl
theorem sl_206_1707 : pm_206.2.2.2.2.2 1707 = some (.aload_n 0, 1, 0, 0, 0) := rfl
theorem sl_206_1708 : pm_206.2.2.2.2.2 1708 = some (.bipush 60, 2, 0, 0, 0) := rfl
theorem sl_206_1710 : pm_206.2.2.2.2.2 1710 = some (.newarray .int, 2, 0, 0, 0) := rfl
theorem sl_206_1712 : pm_206.2.2.2.2.2 1712 = some (.putfield 163, 3, 12, 76, 0) := rfl
theorem sl_206_1715 : pm_206.2.2.2.2.2 1715 = some (.aload_n 0, 1, 0, 0, 0) := rfl
theorem sl_206_1716 : pm_206.2.2.2.2.2 1716 = some (.bipush 60, 2, 0, 0, 0) := rfl
theorem sl_206_1718 : pm_206.2.2.2.2.2 1718 = some (.newarray .int, 2, 0, 0, 0) := rfl
theorem sl_206_1720 : pm_206.2.2.2.2.2 1720 = some (.putfield 166, 3, 12, 77, 0) := rfl
theorem sl_206_1723 : pm_206.2.2.2.2.2 1723 = some (.aload_n 0, 1, 0, 0, 0) := rfl
theorem sl_206_1724 : pm_206.2.2.2.2.2 1724 = some (.bipush 60, 2, 0, 0, 0) := rfl
theorem sl_206_1726 : pm_206.2.2.2.2.2 1726 = some (.newarray .int, 2, 0, 0, 0) := rfl
theorem sl_206_1728 : pm_206.2.2.2.2.2 1728 = some (.putfield 169, 3, 12, 78, 0) := rfl
theorem sl_206_1731 : pm_206.2.2.2.2.2 1731 = some (.aload_n 0, 1, 0, 0, 0) := rfl
theorem sl_206_1732 : pm_206.2.2.2.2.2 1732 = some (.bipush 60, 2, 0, 0, 0) := rfl
theorem sl_206_1734 : pm_206.2.2.2.2.2 1734 = some (.newarray .int, 2, 0, 0, 0) := rfl
theorem sl_206_1736 : pm_206.2.2.2.2.2 1736 = some (.putfield 172, 3, 12, 79, 0) := rfl
theorem sl_206_1739 : pm_206.2.2.2.2.2 1739 = some (.aload_n 0, 1, 0, 0, 0) := rfl
theorem sl_206_1740 : pm_206.2.2.2.2.2 1740 = some (.sipush 540, 3, 0, 0, 0) := rfl
theorem sl_206_1743 : pm_206.2.2.2.2.2 1743 = some (.newarray .int, 2, 0, 0, 0) := rfl
theorem sl_206_1745 : pm_206.2.2.2.2.2 1745 = some (.putfield 175, 3, 12, 80, 0) := rfl
theorem sl_206_1748 : pm_206.2.2.2.2.2 1748 = some (.aload_n 0, 1, 0, 0, 0) := rfl
theorem sl_206_1749 : pm_206.2.2.2.2.2 1749 = some (.sipush 540, 3, 0, 0, 0) := rfl
theorem sl_206_1752 : pm_206.2.2.2.2.2 1752 = some (.newarray .int, 2, 0, 0, 0) := rfl
theorem sl_206_1754 : pm_206.2.2.2.2.2 1754 = some (.putfield 178, 3, 12, 81, 0) := rfl
theorem sl_206_1757 : pm_206.2.2.2.2.2 1757 = some (.aload_n 0, 1, 0, 0, 0) := rfl
theorem sl_206_1758 : pm_206.2.2.2.2.2 1758 = some (.sipush 540, 3, 0, 0, 0) := rfl
theorem sl_206_1761 : pm_206.2.2.2.2.2 1761 = some (.newarray .int, 2, 0, 0, 0) := rfl
theorem sl_206_1763 : pm_206.2.2.2.2.2 1763 = some (.putfield 181, 3, 12, 82, 0) := rfl
theorem sl_206_1766 : pm_206.2.2.2.2.2 1766 = some (.aload_n 0, 1, 0, 0, 0) := rfl
theorem sl_206_1767 : pm_206.2.2.2.2.2 1767 = some (.sipush 540, 3, 0, 0, 0) := rfl
theorem sl_206_1770 : pm_206.2.2.2.2.2 1770 = some (.newarray .boolean, 2, 3, 0, 0) := rfl
theorem sl_206_1772 : pm_206.2.2.2.2.2 1772 = some (.putfield 184, 3, 12, 83, 0) := rfl
theorem sl_206_1775 : pm_206.2.2.2.2.2 1775 = some (.aload_n 0, 1, 0, 0, 0) := rfl
theorem sl_206_1776 : pm_206.2.2.2.2.2 1776 = some (.sipush 540, 3, 0, 0, 0) := rfl
theorem sl_206_1779 : pm_206.2.2.2.2.2 1779 = some (.newarray .long, 2, 1, 0, 0) := rfl
theorem sl_206_1781 : pm_206.2.2.2.2.2 1781 = some (.putfield 187, 3, 12, 84, 0) := rfl
theorem sl_206_1784 : pm_206.2.2.2.2.2 1784 = some (.aload_n 0, 1, 0, 0, 0) := rfl
theorem sl_206_1785 : pm_206.2.2.2.2.2 1785 = some (.bipush 60, 2, 0, 0, 0) := rfl
theorem sl_206_1787 : pm_206.2.2.2.2.2 1787 = some (.newarray .int, 2, 0, 0, 0) := rfl
theorem sl_206_1789 : pm_206.2.2.2.2.2 1789 = some (.putfield 190, 3, 12, 85, 0) := rfl
theorem sl_206_1792 : pm_206.2.2.2.2.2 1792 = some (.aload_n 0, 1, 0, 0, 0) := rfl
theorem sl_206_1793 : pm_206.2.2.2.2.2 1793 = some (.bipush 60, 2, 0, 0, 0) := rfl
theorem sl_206_1795 : pm_206.2.2.2.2.2 1795 = some (.newarray .int, 2, 0, 0, 0) := rfl
theorem sl_206_1797 : pm_206.2.2.2.2.2 1797 = some (.putfield 193, 3, 12, 86, 0) := rfl
theorem sl_206_1800 : pm_206.2.2.2.2.2 1800 = some (.aload_n 0, 1, 0, 0, 0) := rfl
theorem sl_206_1801 : pm_206.2.2.2.2.2 1801 = some (.bipush 60, 2, 0, 0, 0) := rfl
theorem sl_206_1803 : pm_206.2.2.2.2.2 1803 = some (.newarray .int, 2, 0, 0, 0) := rfl
theorem sl_206_1805 : pm_206.2.2.2.2.2 1805 = some (.putfield 196, 3, 12, 87, 0) := rfl
theorem sl_206_1808 : pm_206.2.2.2.2.2 1808 = some (.aload_n 0, 1, 0, 0, 0) := rfl
theorem sl_206_1809 : pm_206.2.2.2.2.2 1809 = some (.bipush 60, 2, 0, 0, 0) := rfl
theorem sl_206_1811 : pm_206.2.2.2.2.2 1811 = some (.newarray .int, 2, 0, 0, 0) := rfl
theorem sl_206_1813 : pm_206.2.2.2.2.2 1813 = some (.putfield 199, 3, 12, 88, 0) := rfl
theorem sl_206_1816 : pm_206.2.2.2.2.2 1816 = some (.aload_n 0, 1, 0, 0, 0) := rfl
theorem sl_206_1817 : pm_206.2.2.2.2.2 1817 = some (.bipush 60, 2, 0, 0, 0) := rfl
theorem sl_206_1819 : pm_206.2.2.2.2.2 1819 = some (.newarray .boolean, 2, 3, 0, 0) := rfl
theorem sl_206_1821 : pm_206.2.2.2.2.2 1821 = some (.putfield 202, 3, 12, 89, 0) := rfl
theorem sl_206_1824 : pm_206.2.2.2.2.2 1824 = some (.aload_n 0, 1, 0, 0, 0) := rfl
theorem sl_206_1825 : pm_206.2.2.2.2.2 1825 = some (.bipush 60, 2, 0, 0, 0) := rfl
theorem sl_206_1827 : pm_206.2.2.2.2.2 1827 = some (.newarray .boolean, 2, 3, 0, 0) := rfl
theorem sl_206_1829 : pm_206.2.2.2.2.2 1829 = some (.putfield 205, 3, 12, 90, 0) := rfl
theorem sl_206_1832 : pm_206.2.2.2.2.2 1832 = some (.aload_n 0, 1, 0, 0, 0) := rfl
theorem sl_206_1833 : pm_206.2.2.2.2.2 1833 = some (.bipush 60, 2, 0, 0, 0) := rfl
theorem sl_206_1835 : pm_206.2.2.2.2.2 1835 = some (.newarray .long, 2, 1, 0, 0) := rfl
theorem sl_206_1837 : pm_206.2.2.2.2.2 1837 = some (.putfield 208, 3, 12, 91, 0) := rfl
theorem sl_206_1840 : pm_206.2.2.2.2.2 1840 = some (.aload_n 0, 1, 0, 0, 0) := rfl
theorem sl_206_1841 : pm_206.2.2.2.2.2 1841 = some (.bipush 60, 2, 0, 0, 0) := rfl
theorem sl_206_1843 : pm_206.2.2.2.2.2 1843 = some (.newarray .long, 2, 1, 0, 0) := rfl
theorem sl_206_1845 : pm_206.2.2.2.2.2 1845 = some (.putfield 211, 3, 12, 92, 0) := rfl
theorem sl_206_1848 : pm_206.2.2.2.2.2 1848 = some (.aload_n 0, 1, 0, 0, 0) := rfl
theorem sl_206_1849 : pm_206.2.2.2.2.2 1849 = some (.bipush 8, 2, 0, 0, 0) := rfl
theorem sl_206_1851 : pm_206.2.2.2.2.2 1851 = some (.newarray .int, 2, 0, 0, 0) := rfl
theorem sl_206_1853 : pm_206.2.2.2.2.2 1853 = some (.putfield 214, 3, 12, 93, 0) := rfl
theorem sl_206_1856 : pm_206.2.2.2.2.2 1856 = some (.aload_n 0, 1, 0, 0, 0) := rfl
theorem sl_206_1857 : pm_206.2.2.2.2.2 1857 = some (.bipush 96, 2, 0, 0, 0) := rfl
theorem sl_206_1859 : pm_206.2.2.2.2.2 1859 = some (.newarray .int, 2, 0, 0, 0) := rfl
theorem sl_206_1861 : pm_206.2.2.2.2.2 1861 = some (.putfield 217, 3, 12, 94, 0) := rfl
theorem sl_206_1864 : pm_206.2.2.2.2.2 1864 = some (.aload_n 0, 1, 0, 0, 0) := rfl
theorem sl_206_1865 : pm_206.2.2.2.2.2 1865 = some (.bipush 16, 2, 0, 0, 0) := rfl
theorem sl_206_1867 : pm_206.2.2.2.2.2 1867 = some (.newarray .int, 2, 0, 0, 0) := rfl
theorem sl_206_1869 : pm_206.2.2.2.2.2 1869 = some (.putfield 220, 3, 12, 95, 0) := rfl
theorem sl_206_1872 : pm_206.2.2.2.2.2 1872 = some (.aload_n 0, 1, 0, 0, 0) := rfl
theorem sl_206_1873 : pm_206.2.2.2.2.2 1873 = some (.bipush 16, 2, 0, 0, 0) := rfl
theorem sl_206_1875 : pm_206.2.2.2.2.2 1875 = some (.newarray .int, 2, 0, 0, 0) := rfl
theorem sl_206_1877 : pm_206.2.2.2.2.2 1877 = some (.putfield 223, 3, 12, 96, 0) := rfl
theorem sl_206_1880 : pm_206.2.2.2.2.2 1880 = some (.aload_n 0, 1, 0, 0, 0) := rfl
theorem sl_206_1881 : pm_206.2.2.2.2.2 1881 = some (.sipush 128, 3, 0, 0, 0) := rfl
theorem sl_206_1884 : pm_206.2.2.2.2.2 1884 = some (.newarray .long, 2, 1, 0, 0) := rfl
theorem sl_206_1886 : pm_206.2.2.2.2.2 1886 = some (.putfield 226, 3, 12, 97, 0) := rfl
theorem sl_206_1889 : pm_206.2.2.2.2.2 1889 = some (.aload_n 0, 1, 0, 0, 0) := rfl
theorem sl_206_1890 : pm_206.2.2.2.2.2 1890 = some (.sipush 128, 3, 0, 0, 0) := rfl
theorem sl_206_1893 : pm_206.2.2.2.2.2 1893 = some (.newarray .long, 2, 1, 0, 0) := rfl
theorem sl_206_1895 : pm_206.2.2.2.2.2 1895 = some (.putfield 229, 3, 12, 98, 0) := rfl
theorem sl_206_1898 : pm_206.2.2.2.2.2 1898 = some (.aload_n 0, 1, 0, 0, 0) := rfl
theorem sl_206_1899 : pm_206.2.2.2.2.2 1899 = some (.sipush 240, 3, 0, 0, 0) := rfl
theorem sl_206_1902 : pm_206.2.2.2.2.2 1902 = some (.newarray .int, 2, 0, 0, 0) := rfl
theorem sl_206_1904 : pm_206.2.2.2.2.2 1904 = some (.putfield 232, 3, 12, 101, 0) := rfl
theorem sl_206_1907 : pm_206.2.2.2.2.2 1907 = some (.aload_n 0, 1, 0, 0, 0) := rfl
theorem sl_206_1908 : pm_206.2.2.2.2.2 1908 = some (.sipush 240, 3, 0, 0, 0) := rfl
theorem sl_206_1911 : pm_206.2.2.2.2.2 1911 = some (.newarray .int, 2, 0, 0, 0) := rfl
theorem sl_206_1913 : pm_206.2.2.2.2.2 1913 = some (.putfield 235, 3, 12, 102, 0) := rfl
theorem sl_206_1916 : pm_206.2.2.2.2.2 1916 = some (.aload_n 0, 1, 0, 0, 0) := rfl
theorem sl_206_1917 : pm_206.2.2.2.2.2 1917 = some (.sipush 240, 3, 0, 0, 0) := rfl
theorem sl_206_1920 : pm_206.2.2.2.2.2 1920 = some (.newarray .int, 2, 0, 0, 0) := rfl
theorem sl_206_1922 : pm_206.2.2.2.2.2 1922 = some (.putfield 238, 3, 12, 103, 0) := rfl
theorem sl_206_1925 : pm_206.2.2.2.2.2 1925 = some (.aload_n 0, 1, 0, 0, 0) := rfl
theorem sl_206_1926 : pm_206.2.2.2.2.2 1926 = some (.sipush 240, 3, 0, 0, 0) := rfl
theorem sl_206_1929 : pm_206.2.2.2.2.2 1929 = some (.newarray .int, 2, 0, 0, 0) := rfl
theorem sl_206_1931 : pm_206.2.2.2.2.2 1931 = some (.putfield 241, 3, 12, 104, 0) := rfl
theorem sl_206_1934 : pm_206.2.2.2.2.2 1934 = some (.aload_n 0, 1, 0, 0, 0) := rfl
theorem sl_206_1935 : pm_206.2.2.2.2.2 1935 = some (.sipush 240, 3, 0, 0, 0) := rfl
theorem sl_206_1938 : pm_206.2.2.2.2.2 1938 = some (.newarray .int, 2, 0, 0, 0) := rfl
theorem sl_206_1940 : pm_206.2.2.2.2.2 1940 = some (.putfield 244, 3, 12, 105, 0) := rfl
theorem sl_206_1943 : pm_206.2.2.2.2.2 1943 = some (.aload_n 0, 1, 0, 0, 0) := rfl
theorem sl_206_1944 : pm_206.2.2.2.2.2 1944 = some (.sipush 240, 3, 0, 0, 0) := rfl
theorem sl_206_1947 : pm_206.2.2.2.2.2 1947 = some (.newarray .int, 2, 0, 0, 0) := rfl
theorem sl_206_1949 : pm_206.2.2.2.2.2 1949 = some (.putfield 247, 3, 12, 106, 0) := rfl
theorem sl_206_1952 : pm_206.2.2.2.2.2 1952 = some (.aload_n 0, 1, 0, 0, 0) := rfl
theorem sl_206_1953 : pm_206.2.2.2.2.2 1953 = some (.sipush 240, 3, 0, 0, 0) := rfl
theorem sl_206_1956 : pm_206.2.2.2.2.2 1956 = some (.newarray .int, 2, 0, 0, 0) := rfl
theorem sl_206_1958 : pm_206.2.2.2.2.2 1958 = some (.putfield 250, 3, 12, 107, 0) := rfl
theorem sl_206_1961 : pm_206.2.2.2.2.2 1961 = some (.aload_n 0, 1, 0, 0, 0) := rfl
theorem sl_206_1962 : pm_206.2.2.2.2.2 1962 = some (.sipush 240, 3, 0, 0, 0) := rfl
theorem sl_206_1965 : pm_206.2.2.2.2.2 1965 = some (.newarray .int, 2, 0, 0, 0) := rfl
theorem sl_206_1967 : pm_206.2.2.2.2.2 1967 = some (.putfield 253, 3, 12, 108, 0) := rfl
theorem sl_206_1970 : pm_206.2.2.2.2.2 1970 = some (.aload_n 0, 1, 0, 0, 0) := rfl
theorem sl_206_1971 : pm_206.2.2.2.2.2 1971 = some (.bipush 16, 2, 0, 0, 0) := rfl
theorem sl_206_1973 : pm_206.2.2.2.2.2 1973 = some (.newarray .int, 2, 0, 0, 0) := rfl
theorem sl_206_1975 : pm_206.2.2.2.2.2 1975 = some (.putfield 256, 3, 12, 109, 0) := rfl
theorem sl_206_1978 : pm_206.2.2.2.2.2 1978 = some (.aload_n 0, 1, 0, 0, 0) := rfl
theorem sl_206_1979 : pm_206.2.2.2.2.2 1979 = some (.bipush 32, 2, 0, 0, 0) := rfl
theorem sl_206_1981 : pm_206.2.2.2.2.2 1981 = some (.newarray .int, 2, 0, 0, 0) := rfl
theorem sl_206_1983 : pm_206.2.2.2.2.2 1983 = some (.putfield 259, 3, 12, 110, 0) := rfl
theorem sl_206_1986 : pm_206.2.2.2.2.2 1986 = some (.aload_n 0, 1, 0, 0, 0) := rfl
theorem sl_206_1987 : pm_206.2.2.2.2.2 1987 = some (.bipush 32, 2, 0, 0, 0) := rfl
theorem sl_206_1989 : pm_206.2.2.2.2.2 1989 = some (.newarray .int, 2, 0, 0, 0) := rfl
theorem sl_206_1991 : pm_206.2.2.2.2.2 1991 = some (.putfield 262, 3, 12, 111, 0) := rfl
theorem sl_206_1994 : pm_206.2.2.2.2.2 1994 = some (.aload_n 0, 1, 0, 0, 0) := rfl
theorem sl_206_1995 : pm_206.2.2.2.2.2 1995 = some (.bipush 32, 2, 0, 0, 0) := rfl
theorem sl_206_1997 : pm_206.2.2.2.2.2 1997 = some (.newarray .int, 2, 0, 0, 0) := rfl
theorem sl_206_1999 : pm_206.2.2.2.2.2 1999 = some (.putfield 265, 3, 12, 112, 0) := rfl
theorem sl_206_2002 : pm_206.2.2.2.2.2 2002 = some (.aload_n 0, 1, 0, 0, 0) := rfl
theorem sl_206_2003 : pm_206.2.2.2.2.2 2003 = some (.bipush 32, 2, 0, 0, 0) := rfl
theorem sl_206_2005 : pm_206.2.2.2.2.2 2005 = some (.newarray .int, 2, 0, 0, 0) := rfl
theorem sl_206_2007 : pm_206.2.2.2.2.2 2007 = some (.putfield 268, 3, 12, 113, 0) := rfl
theorem sl_206_2010 : pm_206.2.2.2.2.2 2010 = some (.aload_n 0, 1, 0, 0, 0) := rfl
theorem sl_206_2011 : pm_206.2.2.2.2.2 2011 = some (.bipush 64, 2, 0, 0, 0) := rfl
theorem sl_206_2013 : pm_206.2.2.2.2.2 2013 = some (.newarray .int, 2, 0, 0, 0) := rfl
theorem sl_206_2015 : pm_206.2.2.2.2.2 2015 = some (.putfield 271, 3, 12, 114, 0) := rfl
theorem sl_206_2018 : pm_206.2.2.2.2.2 2018 = some (.aload_n 0, 1, 0, 0, 0) := rfl
theorem sl_206_2019 : pm_206.2.2.2.2.2 2019 = some (.bipush 32, 2, 0, 0, 0) := rfl
theorem sl_206_2021 : pm_206.2.2.2.2.2 2021 = some (.newarray .long, 2, 1, 0, 0) := rfl
theorem sl_206_2023 : pm_206.2.2.2.2.2 2023 = some (.putfield 274, 3, 12, 115, 0) := rfl
theorem sl_206_2026 : pm_206.2.2.2.2.2 2026 = some (.aload_n 0, 1, 0, 0, 0) := rfl
theorem sl_206_2027 : pm_206.2.2.2.2.2 2027 = some (.bipush 16, 2, 0, 0, 0) := rfl
theorem sl_206_2029 : pm_206.2.2.2.2.2 2029 = some (.newarray .boolean, 2, 3, 0, 0) := rfl
theorem sl_206_2031 : pm_206.2.2.2.2.2 2031 = some (.putfield 277, 3, 12, 116, 0) := rfl
theorem sl_206_2034 : pm_206.2.2.2.2.2 2034 = some (.aload_n 0, 1, 0, 0, 0) := rfl
theorem sl_206_2035 : pm_206.2.2.2.2.2 2035 = some (.bipush 8, 2, 0, 0, 0) := rfl
theorem sl_206_2037 : pm_206.2.2.2.2.2 2037 = some (.newarray .int, 2, 0, 0, 0) := rfl
theorem sl_206_2039 : pm_206.2.2.2.2.2 2039 = some (.putfield 280, 3, 12, 117, 0) := rfl
theorem sl_206_2042 : pm_206.2.2.2.2.2 2042 = some (.aload_n 0, 1, 0, 0, 0) := rfl
theorem sl_206_2043 : pm_206.2.2.2.2.2 2043 = some (.bipush 8, 2, 0, 0, 0) := rfl
theorem sl_206_2045 : pm_206.2.2.2.2.2 2045 = some (.newarray .int, 2, 0, 0, 0) := rfl
theorem sl_206_2047 : pm_206.2.2.2.2.2 2047 = some (.putfield 283, 3, 12, 118, 0) := rfl
theorem sl_206_2050 : pm_206.2.2.2.2.2 2050 = some (.aload_n 0, 1, 0, 0, 0) := rfl
theorem sl_206_2051 : pm_206.2.2.2.2.2 2051 = some (.bipush 48, 2, 0, 0, 0) := rfl
theorem sl_206_2053 : pm_206.2.2.2.2.2 2053 = some (.newarray .int, 2, 0, 0, 0) := rfl
theorem sl_206_2055 : pm_206.2.2.2.2.2 2055 = some (.putfield 286, 3, 12, 120, 0) := rfl
theorem sl_206_2058 : pm_206.2.2.2.2.2 2058 = some (.aload_n 0, 1, 0, 0, 0) := rfl
theorem sl_206_2059 : pm_206.2.2.2.2.2 2059 = some (.bipush 48, 2, 0, 0, 0) := rfl
theorem sl_206_2061 : pm_206.2.2.2.2.2 2061 = some (.newarray .int, 2, 0, 0, 0) := rfl
theorem sl_206_2063 : pm_206.2.2.2.2.2 2063 = some (.putfield 289, 3, 12, 121, 0) := rfl
theorem sl_206_2066 : pm_206.2.2.2.2.2 2066 = some (.aload_n 0, 1, 0, 0, 0) := rfl
theorem sl_206_2067 : pm_206.2.2.2.2.2 2067 = some (.bipush 48, 2, 0, 0, 0) := rfl
theorem sl_206_2069 : pm_206.2.2.2.2.2 2069 = some (.newarray .int, 2, 0, 0, 0) := rfl
theorem sl_206_2071 : pm_206.2.2.2.2.2 2071 = some (.putfield 292, 3, 12, 122, 0) := rfl
theorem sl_206_2074 : pm_206.2.2.2.2.2 2074 = some (.aload_n 0, 1, 0, 0, 0) := rfl
theorem sl_206_2075 : pm_206.2.2.2.2.2 2075 = some (.bipush 12, 2, 0, 0, 0) := rfl
theorem sl_206_2077 : pm_206.2.2.2.2.2 2077 = some (.newarray .boolean, 2, 3, 0, 0) := rfl
theorem sl_206_2079 : pm_206.2.2.2.2.2 2079 = some (.putfield 295, 3, 12, 123, 0) := rfl
theorem sl_206_2082 : pm_206.2.2.2.2.2 2082 = some (.aload_n 0, 1, 0, 0, 0) := rfl
theorem sl_206_2083 : pm_206.2.2.2.2.2 2083 = some (.bipush 12, 2, 0, 0, 0) := rfl
theorem sl_206_2085 : pm_206.2.2.2.2.2 2085 = some (.newarray .int, 2, 0, 0, 0) := rfl
theorem sl_206_2087 : pm_206.2.2.2.2.2 2087 = some (.putfield 298, 3, 12, 124, 0) := rfl
theorem sl_206_2090 : pm_206.2.2.2.2.2 2090 = some (.aload_n 0, 1, 0, 0, 0) := rfl
theorem sl_206_2091 : pm_206.2.2.2.2.2 2091 = some (.bipush 16, 2, 0, 0, 0) := rfl
theorem sl_206_2093 : pm_206.2.2.2.2.2 2093 = some (.newarray .boolean, 2, 3, 0, 0) := rfl
theorem sl_206_2095 : pm_206.2.2.2.2.2 2095 = some (.putfield 301, 3, 12, 126, 0) := rfl
theorem sl_206_2098 : pm_206.2.2.2.2.2 2098 = some (.aload_n 0, 1, 0, 0, 0) := rfl
theorem sl_206_2099 : pm_206.2.2.2.2.2 2099 = some (.iconst (-1), 1, 0, 0, 0) := rfl
theorem sl_206_2100 : pm_206.2.2.2.2.2 2100 = some (.putfield 304, 3, 12, 130, 0) := rfl
theorem sl_206_2103 : pm_206.2.2.2.2.2 2103 = some (.aload_n 0, 1, 0, 0, 0) := rfl
theorem sl_206_2104 : pm_206.2.2.2.2.2 2104 = some (.bipush 48, 2, 0, 0, 0) := rfl
theorem sl_206_2106 : pm_206.2.2.2.2.2 2106 = some (.newarray .int, 2, 0, 0, 0) := rfl
theorem sl_206_2108 : pm_206.2.2.2.2.2 2108 = some (.putfield 307, 3, 12, 131, 0) := rfl
theorem sl_206_2111 : pm_206.2.2.2.2.2 2111 = some (.aload_n 0, 1, 0, 0, 0) := rfl
theorem sl_206_2112 : pm_206.2.2.2.2.2 2112 = some (.bipush 12, 2, 0, 0, 0) := rfl
theorem sl_206_2114 : pm_206.2.2.2.2.2 2114 = some (.newarray .int, 2, 0, 0, 0) := rfl
theorem sl_206_2116 : pm_206.2.2.2.2.2 2116 = some (.putfield 310, 3, 12, 132, 0) := rfl
theorem sl_206_2119 : pm_206.2.2.2.2.2 2119 = some (.aload_n 0, 1, 0, 0, 0) := rfl
theorem sl_206_2120 : pm_206.2.2.2.2.2 2120 = some (.bipush 12, 2, 0, 0, 0) := rfl
theorem sl_206_2122 : pm_206.2.2.2.2.2 2122 = some (.newarray .long, 2, 1, 0, 0) := rfl
theorem sl_206_2124 : pm_206.2.2.2.2.2 2124 = some (.putfield 313, 3, 12, 133, 0) := rfl
theorem sl_206_2127 : pm_206.2.2.2.2.2 2127 = some (.aload_n 0, 1, 0, 0, 0) := rfl
theorem sl_206_2128 : pm_206.2.2.2.2.2 2128 = some (.bipush 12, 2, 0, 0, 0) := rfl
theorem sl_206_2130 : pm_206.2.2.2.2.2 2130 = some (.newarray .long, 2, 1, 0, 0) := rfl
theorem sl_206_2132 : pm_206.2.2.2.2.2 2132 = some (.putfield 316, 3, 12, 134, 0) := rfl
theorem sl_206_2135 : pm_206.2.2.2.2.2 2135 = some (.aload_n 0, 1, 0, 0, 0) := rfl
theorem sl_206_2136 : pm_206.2.2.2.2.2 2136 = some (.sipush 10608, 3, 0, 0, 0) := rfl
theorem sl_206_2139 : pm_206.2.2.2.2.2 2139 = some (.newarray .boolean, 2, 3, 0, 0) := rfl
theorem sl_206_2141 : pm_206.2.2.2.2.2 2141 = some (.putfield 319, 3, 12, 135, 0) := rfl
theorem sl_206_2144 : pm_206.2.2.2.2.2 2144 = some (.aload_n 0, 1, 0, 0, 0) := rfl
theorem sl_206_2145 : pm_206.2.2.2.2.2 2145 = some (.sipush 10608, 3, 0, 0, 0) := rfl
theorem sl_206_2148 : pm_206.2.2.2.2.2 2148 = some (.newarray .boolean, 2, 3, 0, 0) := rfl
theorem sl_206_2150 : pm_206.2.2.2.2.2 2150 = some (.putfield 322, 3, 12, 136, 0) := rfl
theorem sl_206_2153 : pm_206.2.2.2.2.2 2153 = some (.aload_n 0, 1, 0, 0, 0) := rfl
theorem sl_206_2154 : pm_206.2.2.2.2.2 2154 = some (.sipush 384, 3, 0, 0, 0) := rfl
theorem sl_206_2157 : pm_206.2.2.2.2.2 2157 = some (.newarray .boolean, 2, 3, 0, 0) := rfl
theorem sl_206_2159 : pm_206.2.2.2.2.2 2159 = some (.putfield 325, 3, 12, 137, 0) := rfl
theorem sl_206_2162 : pm_206.2.2.2.2.2 2162 = some (.aload_n 0, 1, 0, 0, 0) := rfl
theorem sl_206_2163 : pm_206.2.2.2.2.2 2163 = some (.sipush 512, 3, 0, 0, 0) := rfl
theorem sl_206_2166 : pm_206.2.2.2.2.2 2166 = some (.newarray .long, 2, 1, 0, 0) := rfl
theorem sl_206_2168 : pm_206.2.2.2.2.2 2168 = some (.putfield 328, 3, 12, 138, 0) := rfl
theorem sl_206_2171 : pm_206.2.2.2.2.2 2171 = some (.aload_n 0, 1, 0, 0, 0) := rfl
theorem sl_206_2172 : pm_206.2.2.2.2.2 2172 = some (.bipush 8, 2, 0, 0, 0) := rfl
theorem sl_206_2174 : pm_206.2.2.2.2.2 2174 = some (.newarray .int, 2, 0, 0, 0) := rfl
theorem sl_206_2176 : pm_206.2.2.2.2.2 2176 = some (.putfield 331, 3, 12, 139, 0) := rfl
theorem sl_206_2179 : pm_206.2.2.2.2.2 2179 = some (.aload_n 0, 1, 0, 0, 0) := rfl
theorem sl_206_2180 : pm_206.2.2.2.2.2 2180 = some (.sipush 768, 3, 0, 0, 0) := rfl
theorem sl_206_2183 : pm_206.2.2.2.2.2 2183 = some (.newarray .int, 2, 0, 0, 0) := rfl
theorem sl_206_2185 : pm_206.2.2.2.2.2 2185 = some (.putfield 334, 3, 12, 140, 0) := rfl
theorem sl_206_2188 : pm_206.2.2.2.2.2 2188 = some (.aload_n 0, 1, 0, 0, 0) := rfl
theorem sl_206_2189 : pm_206.2.2.2.2.2 2189 = some (.sipush 768, 3, 0, 0, 0) := rfl
theorem sl_206_2192 : pm_206.2.2.2.2.2 2192 = some (.newarray .int, 2, 0, 0, 0) := rfl
theorem sl_206_2194 : pm_206.2.2.2.2.2 2194 = some (.putfield 337, 3, 12, 141, 0) := rfl
theorem sl_206_2197 : pm_206.2.2.2.2.2 2197 = some (.aload_n 0, 1, 0, 0, 0) := rfl
theorem sl_206_2198 : pm_206.2.2.2.2.2 2198 = some (.sipush 3072, 3, 0, 0, 0) := rfl
theorem sl_206_2201 : pm_206.2.2.2.2.2 2201 = some (.newarray .long, 2, 1, 0, 0) := rfl
theorem sl_206_2203 : pm_206.2.2.2.2.2 2203 = some (.putfield 340, 3, 12, 142, 0) := rfl
theorem sl_206_2206 : pm_206.2.2.2.2.2 2206 = some (.aload_n 0, 1, 0, 0, 0) := rfl
theorem sl_206_2207 : pm_206.2.2.2.2.2 2207 = some (.sipush 3072, 3, 0, 0, 0) := rfl
theorem sl_206_2210 : pm_206.2.2.2.2.2 2210 = some (.newarray .long, 2, 1, 0, 0) := rfl
theorem sl_206_2212 : pm_206.2.2.2.2.2 2212 = some (.putfield 343, 3, 12, 143, 0) := rfl
theorem sl_206_2215 : pm_206.2.2.2.2.2 2215 = some (.aload_n 0, 1, 0, 0, 0) := rfl
theorem sl_206_2216 : pm_206.2.2.2.2.2 2216 = some (.sipush 3072, 3, 0, 0, 0) := rfl
theorem sl_206_2219 : pm_206.2.2.2.2.2 2219 = some (.newarray .long, 2, 1, 0, 0) := rfl
theorem sl_206_2221 : pm_206.2.2.2.2.2 2221 = some (.putfield 346, 3, 12, 144, 0) := rfl
theorem sl_206_2224 : pm_206.2.2.2.2.2 2224 = some (.aload_n 0, 1, 0, 0, 0) := rfl
theorem sl_206_2225 : pm_206.2.2.2.2.2 2225 = some (.iconst 4, 1, 0, 0, 0) := rfl
theorem sl_206_2226 : pm_206.2.2.2.2.2 2226 = some (.newarray .long, 2, 1, 0, 0) := rfl
theorem sl_206_2228 : pm_206.2.2.2.2.2 2228 = some (.putfield 349, 3, 12, 145, 0) := rfl
theorem sl_206_2231 : pm_206.2.2.2.2.2 2231 = some (.aload_n 0, 1, 0, 0, 0) := rfl
theorem sl_206_2232 : pm_206.2.2.2.2.2 2232 = some (.iconst 4, 1, 0, 0, 0) := rfl
theorem sl_206_2233 : pm_206.2.2.2.2.2 2233 = some (.newarray .long, 2, 1, 0, 0) := rfl
theorem sl_206_2235 : pm_206.2.2.2.2.2 2235 = some (.putfield 352, 3, 12, 146, 0) := rfl
theorem sl_206_2238 : pm_206.2.2.2.2.2 2238 = some (.aload_n 0, 1, 0, 0, 0) := rfl
theorem sl_206_2239 : pm_206.2.2.2.2.2 2239 = some (.iconst 4, 1, 0, 0, 0) := rfl
theorem sl_206_2240 : pm_206.2.2.2.2.2 2240 = some (.newarray .long, 2, 1, 0, 0) := rfl
theorem sl_206_2242 : pm_206.2.2.2.2.2 2242 = some (.putfield 355, 3, 12, 147, 0) := rfl
theorem sl_206_2245 : pm_206.2.2.2.2.2 2245 = some (.aload_n 0, 1, 0, 0, 0) := rfl
theorem sl_206_2246 : pm_206.2.2.2.2.2 2246 = some (.bipush 41, 2, 0, 0, 0) := rfl
theorem sl_206_2248 : pm_206.2.2.2.2.2 2248 = some (.newarray .int, 2, 0, 0, 0) := rfl
theorem sl_206_2250 : pm_206.2.2.2.2.2 2250 = some (.putfield 358, 3, 12, 153, 0) := rfl
theorem sl_206_2253 : pm_206.2.2.2.2.2 2253 = some (.aload_n 0, 1, 0, 0, 0) := rfl
theorem sl_206_2254 : pm_206.2.2.2.2.2 2254 = some (.bipush 41, 2, 0, 0, 0) := rfl
theorem sl_206_2256 : pm_206.2.2.2.2.2 2256 = some (.newarray .int, 2, 0, 0, 0) := rfl
theorem sl_206_2258 : pm_206.2.2.2.2.2 2258 = some (.putfield 361, 3, 12, 154, 0) := rfl
theorem sl_206_2261 : pm_206.2.2.2.2.2 2261 = some (.aload_n 0, 1, 0, 0, 0) := rfl
theorem sl_206_2262 : pm_206.2.2.2.2.2 2262 = some (.bipush 41, 2, 0, 0, 0) := rfl
theorem sl_206_2264 : pm_206.2.2.2.2.2 2264 = some (.newarray .int, 2, 0, 0, 0) := rfl
theorem sl_206_2266 : pm_206.2.2.2.2.2 2266 = some (.putfield 364, 3, 12, 155, 0) := rfl
theorem sl_206_2269 : pm_206.2.2.2.2.2 2269 = some (.aload_n 0, 1, 0, 0, 0) := rfl
theorem sl_206_2270 : pm_206.2.2.2.2.2 2270 = some (.bipush 41, 2, 0, 0, 0) := rfl
theorem sl_206_2272 : pm_206.2.2.2.2.2 2272 = some (.newarray .int, 2, 0, 0, 0) := rfl
theorem sl_206_2274 : pm_206.2.2.2.2.2 2274 = some (.putfield 367, 3, 12, 156, 0) := rfl
theorem sl_206_2277 : pm_206.2.2.2.2.2 2277 = some (.aload_n 0, 1, 0, 0, 0) := rfl
theorem sl_206_2278 : pm_206.2.2.2.2.2 2278 = some (.bipush 41, 2, 0, 0, 0) := rfl
theorem sl_206_2280 : pm_206.2.2.2.2.2 2280 = some (.newarray .int, 2, 0, 0, 0) := rfl
theorem sl_206_2282 : pm_206.2.2.2.2.2 2282 = some (.putfield 370, 3, 12, 157, 0) := rfl
theorem sl_206_2285 : pm_206.2.2.2.2.2 2285 = some (.aload_n 0, 1, 0, 0, 0) := rfl
theorem sl_206_2286 : pm_206.2.2.2.2.2 2286 = some (.bipush 41, 2, 0, 0, 0) := rfl
theorem sl_206_2288 : pm_206.2.2.2.2.2 2288 = some (.newarray .int, 2, 0, 0, 0) := rfl
theorem sl_206_2290 : pm_206.2.2.2.2.2 2290 = some (.putfield 373, 3, 12, 158, 0) := rfl
theorem sl_206_2293 : pm_206.2.2.2.2.2 2293 = some (.aload_n 0, 1, 0, 0, 0) := rfl
theorem sl_206_2294 : pm_206.2.2.2.2.2 2294 = some (.sipush 5248, 3, 0, 0, 0) := rfl
theorem sl_206_2297 : pm_206.2.2.2.2.2 2297 = some (.newarray .int, 2, 0, 0, 0) := rfl
theorem sl_206_2299 : pm_206.2.2.2.2.2 2299 = some (.putfield 376, 3, 12, 159, 0) := rfl
theorem sl_206_2302 : pm_206.2.2.2.2.2 2302 = some (.aload_n 0, 1, 0, 0, 0) := rfl
theorem sl_206_2303 : pm_206.2.2.2.2.2 2303 = some (.sipush 164, 3, 0, 0, 0) := rfl
theorem sl_206_2306 : pm_206.2.2.2.2.2 2306 = some (.newarray .long, 2, 1, 0, 0) := rfl
theorem sl_206_2308 : pm_206.2.2.2.2.2 2308 = some (.putfield 379, 3, 12, 160, 0) := rfl
theorem sl_206_2311 : pm_206.2.2.2.2.2 2311 = some (.aload_n 0, 1, 0, 0, 0) := rfl
theorem sl_206_2312 : pm_206.2.2.2.2.2 2312 = some (.sipush 164, 3, 0, 0, 0) := rfl
theorem sl_206_2315 : pm_206.2.2.2.2.2 2315 = some (.newarray .long, 2, 1, 0, 0) := rfl
theorem sl_206_2317 : pm_206.2.2.2.2.2 2317 = some (.putfield 382, 3, 12, 161, 0) := rfl
theorem sl_206_2320 : pm_206.2.2.2.2.2 2320 = some (.aload_n 0, 1, 0, 0, 0) := rfl
theorem sl_206_2321 : pm_206.2.2.2.2.2 2321 = some (.sipush 164, 3, 0, 0, 0) := rfl
theorem sl_206_2324 : pm_206.2.2.2.2.2 2324 = some (.newarray .long, 2, 1, 0, 0) := rfl
theorem sl_206_2326 : pm_206.2.2.2.2.2 2326 = some (.putfield 385, 3, 12, 162, 0) := rfl
theorem sl_206_2329 : pm_206.2.2.2.2.2 2329 = some (.aload_n 0, 1, 0, 0, 0) := rfl
theorem sl_206_2330 : pm_206.2.2.2.2.2 2330 = some (.sipush 128, 3, 0, 0, 0) := rfl
theorem sl_206_2333 : pm_206.2.2.2.2.2 2333 = some (.newarray .int, 2, 0, 0, 0) := rfl
theorem sl_206_2335 : pm_206.2.2.2.2.2 2335 = some (.putfield 388, 3, 12, 163, 0) := rfl
theorem sl_206_2338 : pm_206.2.2.2.2.2 2338 = some (.aload_n 0, 1, 0, 0, 0) := rfl
theorem sl_206_2339 : pm_206.2.2.2.2.2 2339 = some (.sipush 128, 3, 0, 0, 0) := rfl
theorem sl_206_2342 : pm_206.2.2.2.2.2 2342 = some (.newarray .int, 2, 0, 0, 0) := rfl
theorem sl_206_2344 : pm_206.2.2.2.2.2 2344 = some (.putfield 391, 3, 12, 164, 0) := rfl
theorem sl_206_2347 : pm_206.2.2.2.2.2 2347 = some (.aload_n 0, 1, 0, 0, 0) := rfl
theorem sl_206_2348 : pm_206.2.2.2.2.2 2348 = some (.sipush 128, 3, 0, 0, 0) := rfl
theorem sl_206_2351 : pm_206.2.2.2.2.2 2351 = some (.newarray .int, 2, 0, 0, 0) := rfl
theorem sl_206_2353 : pm_206.2.2.2.2.2 2353 = some (.putfield 394, 3, 12, 165, 0) := rfl
theorem sl_206_2356 : pm_206.2.2.2.2.2 2356 = some (.aload_n 0, 1, 0, 0, 0) := rfl
theorem sl_206_2357 : pm_206.2.2.2.2.2 2357 = some (.sipush 128, 3, 0, 0, 0) := rfl
theorem sl_206_2360 : pm_206.2.2.2.2.2 2360 = some (.newarray .int, 2, 0, 0, 0) := rfl
theorem sl_206_2362 : pm_206.2.2.2.2.2 2362 = some (.putfield 397, 3, 12, 166, 0) := rfl
theorem sl_206_2365 : pm_206.2.2.2.2.2 2365 = some (.aload_n 0, 1, 0, 0, 0) := rfl
theorem sl_206_2366 : pm_206.2.2.2.2.2 2366 = some (.sipush 128, 3, 0, 0, 0) := rfl
theorem sl_206_2369 : pm_206.2.2.2.2.2 2369 = some (.newarray .int, 2, 0, 0, 0) := rfl
theorem sl_206_2371 : pm_206.2.2.2.2.2 2371 = some (.putfield 400, 3, 12, 167, 0) := rfl
theorem sl_206_2374 : pm_206.2.2.2.2.2 2374 = some (.aload_n 0, 1, 0, 0, 0) := rfl
theorem sl_206_2375 : pm_206.2.2.2.2.2 2375 = some (.ldc_w 403, 3, 114688, 0, 0) := rfl
theorem sl_206_2378 : pm_206.2.2.2.2.2 2378 = some (.newarray .int, 2, 0, 0, 0) := rfl
theorem sl_206_2380 : pm_206.2.2.2.2.2 2380 = some (.putfield 404, 3, 12, 168, 0) := rfl
theorem sl_206_2383 : pm_206.2.2.2.2.2 2383 = some (.aload_n 0, 1, 0, 0, 0) := rfl
theorem sl_206_2384 : pm_206.2.2.2.2.2 2384 = some (.sipush 6144, 3, 0, 0, 0) := rfl
theorem sl_206_2387 : pm_206.2.2.2.2.2 2387 = some (.newarray .int, 2, 0, 0, 0) := rfl
theorem sl_206_2389 : pm_206.2.2.2.2.2 2389 = some (.putfield 407, 3, 12, 169, 0) := rfl
theorem sl_206_2392 : pm_206.2.2.2.2.2 2392 = some (.aload_n 0, 1, 0, 0, 0) := rfl
theorem sl_206_2393 : pm_206.2.2.2.2.2 2393 = some (.bipush 16, 2, 0, 0, 0) := rfl
theorem sl_206_2395 : pm_206.2.2.2.2.2 2395 = some (.newarray .int, 2, 0, 0, 0) := rfl
theorem sl_206_2397 : pm_206.2.2.2.2.2 2397 = some (.putfield 410, 3, 12, 170, 0) := rfl
theorem sl_206_2400 : pm_206.2.2.2.2.2 2400 = some (.aload_n 0, 1, 0, 0, 0) := rfl
theorem sl_206_2401 : pm_206.2.2.2.2.2 2401 = some (.sipush 192, 3, 0, 0, 0) := rfl
theorem sl_206_2404 : pm_206.2.2.2.2.2 2404 = some (.newarray .long, 2, 1, 0, 0) := rfl
theorem sl_206_2406 : pm_206.2.2.2.2.2 2406 = some (.putfield 413, 3, 12, 171, 0) := rfl
theorem sl_206_2409 : pm_206.2.2.2.2.2 2409 = some (.aload_n 0, 1, 0, 0, 0) := rfl
theorem sl_206_2410 : pm_206.2.2.2.2.2 2410 = some (.bipush 16, 2, 0, 0, 0) := rfl
theorem sl_206_2412 : pm_206.2.2.2.2.2 2412 = some (.newarray .long, 2, 1, 0, 0) := rfl
theorem sl_206_2414 : pm_206.2.2.2.2.2 2414 = some (.putfield 416, 3, 12, 172, 0) := rfl
theorem sl_206_2417 : pm_206.2.2.2.2.2 2417 = some (.aload_n 0, 1, 0, 0, 0) := rfl
theorem sl_206_2418 : pm_206.2.2.2.2.2 2418 = some (.sipush 800, 3, 0, 0, 0) := rfl
theorem sl_206_2421 : pm_206.2.2.2.2.2 2421 = some (.newarray .long, 2, 1, 0, 0) := rfl
theorem sl_206_2423 : pm_206.2.2.2.2.2 2423 = some (.putfield 419, 3, 12, 173, 0) := rfl
theorem sl_206_2426 : pm_206.2.2.2.2.2 2426 = some (.aload_n 0, 1, 0, 0, 0) := rfl
theorem sl_206_2427 : pm_206.2.2.2.2.2 2427 = some (.iconst 4, 1, 0, 0, 0) := rfl
theorem sl_206_2428 : pm_206.2.2.2.2.2 2428 = some (.newarray .long, 2, 1, 0, 0) := rfl
theorem sl_206_2430 : pm_206.2.2.2.2.2 2430 = some (.putfield 422, 3, 12, 174, 0) := rfl
theorem sl_206_2433 : pm_206.2.2.2.2.2 2433 = some (.aload_n 0, 1, 0, 0, 0) := rfl
theorem sl_206_2434 : pm_206.2.2.2.2.2 2434 = some (.bipush 12, 2, 0, 0, 0) := rfl
theorem sl_206_2436 : pm_206.2.2.2.2.2 2436 = some (.newarray .boolean, 2, 3, 0, 0) := rfl
theorem sl_206_2438 : pm_206.2.2.2.2.2 2438 = some (.putfield 425, 3, 12, 175, 0) := rfl
theorem sl_206_2441 : pm_206.2.2.2.2.2 2441 = some (.aload_n 0, 1, 0, 0, 0) := rfl
theorem sl_206_2442 : pm_206.2.2.2.2.2 2442 = some (.iconst 4, 1, 0, 0, 0) := rfl
theorem sl_206_2443 : pm_206.2.2.2.2.2 2443 = some (.newarray .long, 2, 1, 0, 0) := rfl
theorem sl_206_2445 : pm_206.2.2.2.2.2 2445 = some (.putfield 428, 3, 12, 178, 0) := rfl
theorem sl_206_2448 : pm_206.2.2.2.2.2 2448 = some (.return_, 1, 0, 0, 0) := rfl
/-! ===== FASTER TABLES, by program (wip/gen/emit4.py) ===== -/
noncomputable def kt_0 : Nat → Option kg_F := (kb 19 (kb 11 (kb 4 (kb 3 (kl 0 (km [] 0 0 0)) (kl 3 (kp (am_dup) 8))) (kb 7 (kl 4 (ki [] 1 0 4)) (kb 8 (kl 7 (kp (am_astore 1 1) 8)) (kl 8 (km [] 12 0 0))))) (kb 15 (kb 12 (kl 11 (kp (am_dup) 8)) (kl 12 (ki [] 206 0 4))) (kb 16 (kl 15 (kp (am_astore 2 1) 8)) (kb 17 (kl 16 (kp (am_push (.int 1) 1) 8)) (kl 17 (ka 1)))))) (kb 26 (kb 21 (kb 20 (kl 19 (kp (am_astore 3 1) 8)) (kl 20 (kp (am_push (.int 0) 1) 8))) (kb 23 (kl 21 (kp (am_istore 4 2) 8)) (kb 25 (kl 23 (kp (am_iload 4 2) 8)) (kl 25 (kp (am_aload 0 1) 8))))) (kb 30 (kb 27 (kl 26 (kal)) (kb 29 (kl 27 (kp (am_push (.int 6) 2) 8)) (kl 29 (kp (am_bini (fun x y => x - y)) 8)))) (kb 961 (kl 30 (kp (am_icmp .gt 931) 8)) (kb 962 (kl 961 (kp (am_push (.int 1) 1) 8)) (kl 962 (kr (am_ireturn (Option.some FieldType.boolean)))))))))
theorem ke_0 (X : ag_X) (sio : Value) : ∀ pc F, kt_0 pc = some F → kg_P X (nm_E 0 (fun _ => 0) sio) pm_0 pc F := fun _ _ => (kn_bi (kn_bi (kn_bi (kn_bi (kn_lf ⟨_, sl_0_0, fun _ _ _ => rfl⟩) (kn_lf ⟨_, sl_0_3, fun _ _ _ => rfl⟩)) (kn_bi (kn_lf ⟨_, sl_0_4, fun _ _ _ => rfl⟩) (kn_bi (kn_lf ⟨_, sl_0_7, fun _ _ _ => rfl⟩) (kn_lf ⟨_, sl_0_8, fun _ _ _ => rfl⟩)))) (kn_bi (kn_bi (kn_lf ⟨_, sl_0_11, fun _ _ _ => rfl⟩) (kn_lf ⟨_, sl_0_12, fun _ _ _ => rfl⟩)) (kn_bi (kn_lf ⟨_, sl_0_15, fun _ _ _ => rfl⟩) (kn_bi (kn_lf ⟨_, sl_0_16, fun _ _ _ => rfl⟩) (kn_lf ⟨_, sl_0_17, fun _ _ _ => rfl⟩))))) (kn_bi (kn_bi (kn_bi (kn_lf ⟨_, sl_0_19, fun _ _ _ => rfl⟩) (kn_lf ⟨_, sl_0_20, fun _ _ _ => rfl⟩)) (kn_bi (kn_lf ⟨_, sl_0_21, fun _ _ _ => rfl⟩) (kn_bi (kn_lf ⟨_, sl_0_23, fun _ _ _ => rfl⟩) (kn_lf ⟨_, sl_0_25, fun _ _ _ => rfl⟩)))) (kn_bi (kn_bi (kn_lf ⟨_, sl_0_26, fun _ _ _ => rfl⟩) (kn_bi (kn_lf ⟨_, sl_0_27, fun _ _ _ => rfl⟩) (kn_lf ⟨_, sl_0_29, fun _ _ _ => rfl⟩))) (kn_bi (kn_lf ⟨_, sl_0_30, fun _ _ _ => rfl⟩) (kn_bi (kn_lf ⟨_, sl_0_961, fun _ _ _ => rfl⟩) (kn_lf ⟨_, sl_0_962, fun _ _ _ => rfl⟩))))))
noncomputable def kt_1 : Nat → Option kg_F := (kb 50 (kb 24 (kb 11 (kb 5 (kb 1 (kl 0 (kp (am_aload 0 1) 1)) (kb 4 (kl 1 (ki [] 0 0 6)) (kl 4 (kp (am_aload 0 1) 1)))) (kb 6 (kl 5 (kp (am_push (.int 5) 1) 1)) (kb 8 (kl 6 (ka 0)) (kl 8 (kh (ag_do at_O (ad_putf 0 0 (.array (.int))) 3)))))) (kb 17 (kb 12 (kl 11 (kp (am_aload 0 1) 1)) (kb 15 (kl 12 (kp (am_push (.int 4000) 3) 1)) (kl 15 (ka 2)))) (kb 21 (kb 20 (kl 17 (kh (ag_do at_O (ad_putf 0 1 (.array (.byte))) 3))) (kl 20 (kp (am_aload 0 1) 1))) (kb 22 (kl 21 (kp (am_push (.int 4) 1) 1)) (kl 22 (ka 1)))))) (kb 36 (kb 29 (kb 27 (kl 24 (kh (ag_do at_O (ad_putf 0 3 (.array (.long))) 3))) (kb 28 (kl 27 (kp (am_aload 0 1) 1)) (kl 28 (kp (am_push (.int 4) 1) 1)))) (kb 34 (kb 31 (kl 29 (ka 1)) (kl 31 (kh (ag_do at_O (ad_putf 0 4 (.array (.long))) 3)))) (kb 35 (kl 34 (kp (am_aload 0 1) 1)) (kl 35 (kp (am_push (.int 4) 1) 1))))) (kb 42 (kb 38 (kl 36 (ka 1)) (kb 41 (kl 38 (kh (ag_do at_O (ad_putf 0 5 (.array (.long))) 3))) (kl 41 (kp (am_aload 0 1) 1)))) (kb 46 (kb 45 (kl 42 (km [] 11 0 0)) (kl 45 (kp (am_dup) 1))) (kb 47 (kl 46 (kp (am_aload 0 1) 1)) (kl 47 (kh (ag_do at_O (ad_getf 0 1) 3)))))))) (kb 77 (kb 64 (kb 57 (kb 53 (kl 50 (ki [] 2 1 4)) (kb 56 (kl 53 (kh (ag_do at_O (ad_putf 0 6 (.object "PacketWorks$Text")) 3))) (kl 56 (kp (am_aload 0 1) 1)))) (kb 60 (kl 57 (km [] 6 0 0)) (kb 61 (kl 60 (kp (am_dup) 1)) (kl 61 (ki [] 14 0 4))))) (kb 71 (kb 67 (kl 64 (kh (ag_do at_O (ad_putf 0 7 (.object "PacketWorks$Program")) 3))) (kb 68 (kl 67 (kp (am_aload 0 1) 1)) (kl 68 (km [] 7 0 0)))) (kb 73 (kb 72 (kl 71 (kp (am_dup) 1)) (kl 72 (kp (am_aload 0 1) 1))) (kb 76 (kl 73 (kh (ag_do at_O (ad_getf 0 6) 3))) (kl 76 (kp (am_aload 0 1) 1)))))) (kb 92 (kb 86 (kb 80 (kl 77 (kh (ag_do at_O (ad_getf 0 7) 3))) (kb 83 (kl 80 (ki [] 20 2 4)) (kl 83 (kh (ag_do at_O (ad_putf 0 8 (.object "PacketWorks$Reader")) 3))))) (kb 90 (kb 87 (kl 86 (kp (am_aload 0 1) 1)) (kl 87 (km [] 5 0 0))) (kb 91 (kl 90 (kp (am_dup) 1)) (kl 91 (kp (am_aload 0 1) 1))))) (kb 101 (kb 95 (kl 92 (kh (ag_do at_O (ad_getf 0 7) 3))) (kb 98 (kl 95 (ki [] 22 1 4)) (kl 98 (kh (ag_do at_O (ad_putf 0 9 (.object "PacketWorks$Pipe")) 3))))) (kb 103 (kb 102 (kl 101 (kp (am_aload 0 1) 1)) (kl 102 (kp (am_push (.int (-1)) 1) 1))) (kb 106 (kl 103 (kh (ag_do at_O (ad_putf 0 11 (.int)) 3))) (kl 106 (kr (am_return (Option.none : Option FieldType))))))))))
theorem ke_1 (X : ag_X) (sio : Value) : ∀ pc F, kt_1 pc = some F → kg_P X (nm_E 0 (fun _ => 0) sio) pm_1 pc F := fun _ _ => (kn_bi (kn_bi (kn_bi (kn_bi (kn_bi (kn_lf ⟨_, sl_1_0, fun _ _ _ => rfl⟩) (kn_bi (kn_lf ⟨_, sl_1_1, fun _ _ _ => rfl⟩) (kn_lf ⟨_, sl_1_4, fun _ _ _ => rfl⟩))) (kn_bi (kn_lf ⟨_, sl_1_5, fun _ _ _ => rfl⟩) (kn_bi (kn_lf ⟨_, sl_1_6, fun _ _ _ => rfl⟩) (kn_lf ⟨_, sl_1_8, fun _ _ _ => rfl⟩)))) (kn_bi (kn_bi (kn_lf ⟨_, sl_1_11, fun _ _ _ => rfl⟩) (kn_bi (kn_lf ⟨_, sl_1_12, fun _ _ _ => rfl⟩) (kn_lf ⟨_, sl_1_15, fun _ _ _ => rfl⟩))) (kn_bi (kn_bi (kn_lf ⟨_, sl_1_17, fun _ _ _ => rfl⟩) (kn_lf ⟨_, sl_1_20, fun _ _ _ => rfl⟩)) (kn_bi (kn_lf ⟨_, sl_1_21, fun _ _ _ => rfl⟩) (kn_lf ⟨_, sl_1_22, fun _ _ _ => rfl⟩))))) (kn_bi (kn_bi (kn_bi (kn_lf ⟨_, sl_1_24, fun _ _ _ => rfl⟩) (kn_bi (kn_lf ⟨_, sl_1_27, fun _ _ _ => rfl⟩) (kn_lf ⟨_, sl_1_28, fun _ _ _ => rfl⟩))) (kn_bi (kn_bi (kn_lf ⟨_, sl_1_29, fun _ _ _ => rfl⟩) (kn_lf ⟨_, sl_1_31, fun _ _ _ => rfl⟩)) (kn_bi (kn_lf ⟨_, sl_1_34, fun _ _ _ => rfl⟩) (kn_lf ⟨_, sl_1_35, fun _ _ _ => rfl⟩)))) (kn_bi (kn_bi (kn_lf ⟨_, sl_1_36, fun _ _ _ => rfl⟩) (kn_bi (kn_lf ⟨_, sl_1_38, fun _ _ _ => rfl⟩) (kn_lf ⟨_, sl_1_41, fun _ _ _ => rfl⟩))) (kn_bi (kn_bi (kn_lf ⟨_, sl_1_42, fun _ _ _ => rfl⟩) (kn_lf ⟨_, sl_1_45, fun _ _ _ => rfl⟩)) (kn_bi (kn_lf ⟨_, sl_1_46, fun _ _ _ => rfl⟩) (kn_lf ⟨_, sl_1_47, fun _ _ _ => rfl⟩)))))) (kn_bi (kn_bi (kn_bi (kn_bi (kn_lf ⟨_, sl_1_50, fun _ _ _ => rfl⟩) (kn_bi (kn_lf ⟨_, sl_1_53, fun _ _ _ => rfl⟩) (kn_lf ⟨_, sl_1_56, fun _ _ _ => rfl⟩))) (kn_bi (kn_lf ⟨_, sl_1_57, fun _ _ _ => rfl⟩) (kn_bi (kn_lf ⟨_, sl_1_60, fun _ _ _ => rfl⟩) (kn_lf ⟨_, sl_1_61, fun _ _ _ => rfl⟩)))) (kn_bi (kn_bi (kn_lf ⟨_, sl_1_64, fun _ _ _ => rfl⟩) (kn_bi (kn_lf ⟨_, sl_1_67, fun _ _ _ => rfl⟩) (kn_lf ⟨_, sl_1_68, fun _ _ _ => rfl⟩))) (kn_bi (kn_bi (kn_lf ⟨_, sl_1_71, fun _ _ _ => rfl⟩) (kn_lf ⟨_, sl_1_72, fun _ _ _ => rfl⟩)) (kn_bi (kn_lf ⟨_, sl_1_73, fun _ _ _ => rfl⟩) (kn_lf ⟨_, sl_1_76, fun _ _ _ => rfl⟩))))) (kn_bi (kn_bi (kn_bi (kn_lf ⟨_, sl_1_77, fun _ _ _ => rfl⟩) (kn_bi (kn_lf ⟨_, sl_1_80, fun _ _ _ => rfl⟩) (kn_lf ⟨_, sl_1_83, fun _ _ _ => rfl⟩))) (kn_bi (kn_bi (kn_lf ⟨_, sl_1_86, fun _ _ _ => rfl⟩) (kn_lf ⟨_, sl_1_87, fun _ _ _ => rfl⟩)) (kn_bi (kn_lf ⟨_, sl_1_90, fun _ _ _ => rfl⟩) (kn_lf ⟨_, sl_1_91, fun _ _ _ => rfl⟩)))) (kn_bi (kn_bi (kn_lf ⟨_, sl_1_92, fun _ _ _ => rfl⟩) (kn_bi (kn_lf ⟨_, sl_1_95, fun _ _ _ => rfl⟩) (kn_lf ⟨_, sl_1_98, fun _ _ _ => rfl⟩))) (kn_bi (kn_bi (kn_lf ⟨_, sl_1_101, fun _ _ _ => rfl⟩) (kn_lf ⟨_, sl_1_102, fun _ _ _ => rfl⟩)) (kn_bi (kn_lf ⟨_, sl_1_103, fun _ _ _ => rfl⟩) (kn_lf ⟨_, sl_1_106, fun _ _ _ => rfl⟩)))))))
noncomputable def kt_2 : Nat → Option kg_F := (kb 63 (kb 33 (kb 15 (kb 7 (kb 4 (kb 1 (kl 0 (kp (am_aload 0 1) 6)) (kl 1 (ki [] 0 0 6))) (kb 5 (kl 4 (kp (am_aload 0 1) 6)) (kl 5 (kp (am_push (.int 31) 2) 6)))) (kb 12 (kb 9 (kl 7 (ka 1)) (kl 9 (kh (ag_do at_O (ad_putf 11 1 (.array (.long))) 3)))) (kb 13 (kl 12 (kp (am_aload 0 1) 6)) (kl 13 (kp (am_push (.int 90) 2) 6))))) (kb 23 (kb 20 (kb 17 (kl 15 (ka 1)) (kl 17 (kh (ag_do at_O (ad_putf 11 2 (.array (.long))) 3)))) (kb 21 (kl 20 (kp (am_aload 0 1) 6)) (kl 21 (kp (am_push (.int 90) 2) 6)))) (kb 28 (kb 25 (kl 23 (ka 1)) (kl 25 (kh (ag_do at_O (ad_putf 11 3 (.array (.long))) 3)))) (kb 29 (kl 28 (kp (am_aload 0 1) 6)) (kb 31 (kl 29 (kp (am_push (.int 90) 2) 6)) (kl 31 (ka 0))))))) (kb 50 (kb 41 (kb 37 (kb 36 (kl 33 (kh (ag_do at_O (ad_putf 11 4 (.array (.int))) 3))) (kl 36 (kp (am_aload 0 1) 6))) (kb 39 (kl 37 (kp (am_push (.int 90) 2) 6)) (kl 39 (ka 0)))) (kb 45 (kb 44 (kl 41 (kh (ag_do at_O (ad_putf 11 5 (.array (.int))) 3))) (kl 44 (kp (am_aload 0 1) 6))) (kb 46 (kl 45 (kp (am_push (.int (-1)) 1) 6)) (kb 49 (kl 46 (kh (ag_do at_O (ad_putf 11 15 (.int)) 3))) (kl 49 (kp (am_aload 0 1) 6)))))) (kb 56 (kb 54 (kb 51 (kl 50 (kp (am_aload 1 1) 6)) (kl 51 (kh (ag_do at_O (ad_putf 11 0 (.array (.byte))) 3)))) (kb 55 (kl 54 (kp (am_push (.int 0) 1) 6)) (kl 55 (kp (am_istore 2 1) 6)))) (kb 58 (kb 57 (kl 56 (kp (am_push (.int 0) 1) 6)) (kl 57 (kp (am_istore 3 1) 6))) (kb 59 (kl 58 (kp (am_push (.int 0) 1) 6)) (kb 61 (kl 59 (kp (am_istore 4 2) 6)) (kl 61 (kp (am_iload 4 2) 6)))))))) (kb 102 (kb 84 (kb 72 (kb 68 (kb 65 (kl 63 (kp (am_push (.ref 1000001) 2) 6)) (kl 65 (ki [] 3 0 7))) (kb 71 (kl 68 (kp (am_icmp .ge 62) 6)) (kl 71 (kp (am_iload 2 1) 6)))) (kb 77 (kb 74 (kl 72 (kp (am_push (.int 31) 2) 6)) (kl 74 (kp (am_icmp .ge 56) 6))) (kb 79 (kl 77 (kp (am_push (.ref 1000001) 2) 6)) (kb 81 (kl 79 (kp (am_iload 4 2) 6)) (kl 81 (ki [] 5 1 7)))))) (kb 93 (kb 88 (kb 86 (kl 84 (kp (am_istore 5 2) 6)) (kl 86 (kp (am_iload 5 2) 6))) (kb 90 (kl 88 (kp (am_push (.int 32) 2) 6)) (kl 90 (kp (am_icmp .ne 11) 6)))) (kb 97 (kb 96 (kl 93 (kp (am_iinc 2 1) 6)) (kl 96 (kp (am_push (.int 0) 1) 6))) (kb 98 (kl 97 (kp (am_istore 3 1) 6)) (kb 101 (kl 98 (kp (am_goto 26) 6)) (kl 101 (kp (am_aload 0 1) 6))))))) (kb 116 (kb 108 (kb 106 (kb 105 (kl 102 (kh (ag_do at_O (ad_getf 11 1) 3))) (kl 105 (kp (am_iload 2 1) 6))) (kb 107 (kl 106 (kp (am_dup2) 6)) (kl 107 (kh (ag_do at_O ad_lald 1))))) (kb 111 (kb 110 (kl 108 (kp (am_iload 5 2) 6)) (kl 110 (kp (am_i2l) 6))) (kb 113 (kl 111 (kp (am_push (.int 56) 2) 6)) (kb 115 (kl 113 (kp (am_push (.int 8) 2) 6)) (kl 115 (kp (am_iload 3 1) 6)))))) (kb 120 (kb 118 (kb 117 (kl 116 (kp (am_bini (fun x y => x * y)) 6)) (kl 117 (kp (am_bini (fun x y => x - y)) 6))) (kb 119 (kl 118 (kp (am_shl (fun x y => x <<< (y.toInt64 &&& 63))) 6)) (kl 119 (kp (am_binl (fun x y => x ||| y)) 6)))) (kb 124 (kb 121 (kl 120 (kh (ag_do at_O ad_last 1))) (kl 121 (kp (am_iinc 3 1) 6))) (kb 127 (kl 124 (kp (am_iinc 4 1) 6)) (kb 130 (kl 127 (kp (am_goto (-66)) 6)) (kl 130 (kr (am_return (Option.none : Option FieldType)))))))))))
theorem ke_2 (X : ag_X) (sio : Value) : ∀ pc F, kt_2 pc = some F → kg_P X (nm_E 0 (fun _ => 0) sio) pm_2 pc F := fun _ _ => (kn_bi (kn_bi (kn_bi (kn_bi (kn_bi (kn_bi (kn_lf ⟨_, sl_2_0, fun _ _ _ => rfl⟩) (kn_lf ⟨_, sl_2_1, fun _ _ _ => rfl⟩)) (kn_bi (kn_lf ⟨_, sl_2_4, fun _ _ _ => rfl⟩) (kn_lf ⟨_, sl_2_5, fun _ _ _ => rfl⟩))) (kn_bi (kn_bi (kn_lf ⟨_, sl_2_7, fun _ _ _ => rfl⟩) (kn_lf ⟨_, sl_2_9, fun _ _ _ => rfl⟩)) (kn_bi (kn_lf ⟨_, sl_2_12, fun _ _ _ => rfl⟩) (kn_lf ⟨_, sl_2_13, fun _ _ _ => rfl⟩)))) (kn_bi (kn_bi (kn_bi (kn_lf ⟨_, sl_2_15, fun _ _ _ => rfl⟩) (kn_lf ⟨_, sl_2_17, fun _ _ _ => rfl⟩)) (kn_bi (kn_lf ⟨_, sl_2_20, fun _ _ _ => rfl⟩) (kn_lf ⟨_, sl_2_21, fun _ _ _ => rfl⟩))) (kn_bi (kn_bi (kn_lf ⟨_, sl_2_23, fun _ _ _ => rfl⟩) (kn_lf ⟨_, sl_2_25, fun _ _ _ => rfl⟩)) (kn_bi (kn_lf ⟨_, sl_2_28, fun _ _ _ => rfl⟩) (kn_bi (kn_lf ⟨_, sl_2_29, fun _ _ _ => rfl⟩) (kn_lf ⟨_, sl_2_31, fun _ _ _ => rfl⟩)))))) (kn_bi (kn_bi (kn_bi (kn_bi (kn_lf ⟨_, sl_2_33, fun _ _ _ => rfl⟩) (kn_lf ⟨_, sl_2_36, fun _ _ _ => rfl⟩)) (kn_bi (kn_lf ⟨_, sl_2_37, fun _ _ _ => rfl⟩) (kn_lf ⟨_, sl_2_39, fun _ _ _ => rfl⟩))) (kn_bi (kn_bi (kn_lf ⟨_, sl_2_41, fun _ _ _ => rfl⟩) (kn_lf ⟨_, sl_2_44, fun _ _ _ => rfl⟩)) (kn_bi (kn_lf ⟨_, sl_2_45, fun _ _ _ => rfl⟩) (kn_bi (kn_lf ⟨_, sl_2_46, fun _ _ _ => rfl⟩) (kn_lf ⟨_, sl_2_49, fun _ _ _ => rfl⟩))))) (kn_bi (kn_bi (kn_bi (kn_lf ⟨_, sl_2_50, fun _ _ _ => rfl⟩) (kn_lf ⟨_, sl_2_51, fun _ _ _ => rfl⟩)) (kn_bi (kn_lf ⟨_, sl_2_54, fun _ _ _ => rfl⟩) (kn_lf ⟨_, sl_2_55, fun _ _ _ => rfl⟩))) (kn_bi (kn_bi (kn_lf ⟨_, sl_2_56, fun _ _ _ => rfl⟩) (kn_lf ⟨_, sl_2_57, fun _ _ _ => rfl⟩)) (kn_bi (kn_lf ⟨_, sl_2_58, fun _ _ _ => rfl⟩) (kn_bi (kn_lf ⟨_, sl_2_59, fun _ _ _ => rfl⟩) (kn_lf ⟨_, sl_2_61, fun _ _ _ => rfl⟩))))))) (kn_bi (kn_bi (kn_bi (kn_bi (kn_bi (kn_lf ⟨_, sl_2_63, fun _ _ _ => rfl⟩) (kn_lf ⟨_, sl_2_65, fun _ _ _ => rfl⟩)) (kn_bi (kn_lf ⟨_, sl_2_68, fun _ _ _ => rfl⟩) (kn_lf ⟨_, sl_2_71, fun _ _ _ => rfl⟩))) (kn_bi (kn_bi (kn_lf ⟨_, sl_2_72, fun _ _ _ => rfl⟩) (kn_lf ⟨_, sl_2_74, fun _ _ _ => rfl⟩)) (kn_bi (kn_lf ⟨_, sl_2_77, fun _ _ _ => rfl⟩) (kn_bi (kn_lf ⟨_, sl_2_79, fun _ _ _ => rfl⟩) (kn_lf ⟨_, sl_2_81, fun _ _ _ => rfl⟩))))) (kn_bi (kn_bi (kn_bi (kn_lf ⟨_, sl_2_84, fun _ _ _ => rfl⟩) (kn_lf ⟨_, sl_2_86, fun _ _ _ => rfl⟩)) (kn_bi (kn_lf ⟨_, sl_2_88, fun _ _ _ => rfl⟩) (kn_lf ⟨_, sl_2_90, fun _ _ _ => rfl⟩))) (kn_bi (kn_bi (kn_lf ⟨_, sl_2_93, fun _ _ _ => rfl⟩) (kn_lf ⟨_, sl_2_96, fun _ _ _ => rfl⟩)) (kn_bi (kn_lf ⟨_, sl_2_97, fun _ _ _ => rfl⟩) (kn_bi (kn_lf ⟨_, sl_2_98, fun _ _ _ => rfl⟩) (kn_lf ⟨_, sl_2_101, fun _ _ _ => rfl⟩)))))) (kn_bi (kn_bi (kn_bi (kn_bi (kn_lf ⟨_, sl_2_102, fun _ _ _ => rfl⟩) (kn_lf ⟨_, sl_2_105, fun _ _ _ => rfl⟩)) (kn_bi (kn_lf ⟨_, sl_2_106, fun _ _ _ => rfl⟩) (kn_lf ⟨_, sl_2_107, fun _ _ _ => rfl⟩))) (kn_bi (kn_bi (kn_lf ⟨_, sl_2_108, fun _ _ _ => rfl⟩) (kn_lf ⟨_, sl_2_110, fun _ _ _ => rfl⟩)) (kn_bi (kn_lf ⟨_, sl_2_111, fun _ _ _ => rfl⟩) (kn_bi (kn_lf ⟨_, sl_2_113, fun _ _ _ => rfl⟩) (kn_lf ⟨_, sl_2_115, fun _ _ _ => rfl⟩))))) (kn_bi (kn_bi (kn_bi (kn_lf ⟨_, sl_2_116, fun _ _ _ => rfl⟩) (kn_lf ⟨_, sl_2_117, fun _ _ _ => rfl⟩)) (kn_bi (kn_lf ⟨_, sl_2_118, fun _ _ _ => rfl⟩) (kn_lf ⟨_, sl_2_119, fun _ _ _ => rfl⟩))) (kn_bi (kn_bi (kn_lf ⟨_, sl_2_120, fun _ _ _ => rfl⟩) (kn_lf ⟨_, sl_2_121, fun _ _ _ => rfl⟩)) (kn_bi (kn_lf ⟨_, sl_2_124, fun _ _ _ => rfl⟩) (kn_bi (kn_lf ⟨_, sl_2_127, fun _ _ _ => rfl⟩) (kn_lf ⟨_, sl_2_130, fun _ _ _ => rfl⟩))))))))
noncomputable def kt_3 : Nat → Option kg_F := (kb 5 (kb 1 (kl 0 (kp (am_aload 0 1) 1)) (kb 4 (kl 1 (kx 1)) (kl 4 (kal)))) (kb 9 (kb 6 (kl 5 (kp (am_aload 0 1) 1)) (kl 6 (ki [] 4 0 7))) (kb 10 (kl 9 (kp (am_bini (fun x y => x >>> (y &&& 31))) 1)) (kl 10 (kr (am_ireturn (Option.some FieldType.int)))))))
theorem ke_3 (X : ag_X) (sio : Value) : ∀ pc F, kt_3 pc = some F → kg_P X (nm_E 0 (fun _ => 0) sio) pm_3 pc F := fun _ _ => (kn_bi (kn_bi (kn_lf ⟨_, sl_3_0, fun _ _ _ => rfl⟩) (kn_bi (kn_lf ⟨_, sl_3_1, fun _ _ _ => rfl⟩) (kn_lf ⟨_, sl_3_4, fun _ _ _ => rfl⟩))) (kn_bi (kn_bi (kn_lf ⟨_, sl_3_5, fun _ _ _ => rfl⟩) (kn_lf ⟨_, sl_3_6, fun _ _ _ => rfl⟩)) (kn_bi (kn_lf ⟨_, sl_3_9, fun _ _ _ => rfl⟩) (kn_lf ⟨_, sl_3_10, fun _ _ _ => rfl⟩))))
noncomputable def kt_4 : Nat → Option kg_F := (kb 7 (kb 3 (kl 0 (ks 0 1)) (kb 6 (kl 3 (kp (am_if .eq 10) 1)) (kl 6 (kp (am_aload 0 1) 1)))) (kb 10 (kl 7 (kx 2)) (kb 14 (kl 10 (kp (am_goto 4) 1)) (kl 14 (kr (am_ireturn (Option.some FieldType.byte)))))))
theorem ke_4 (X : ag_X) (sio : Value) : ∀ pc F, kt_4 pc = some F → kg_P X (nm_E 0 (fun _ => 0) sio) pm_4 pc F := fun _ _ => (kn_bi (kn_bi (kn_lf ⟨_, sl_4_0, fun _ _ _ => rfl⟩) (kn_bi (kn_lf ⟨_, sl_4_3, fun _ _ _ => rfl⟩) (kn_lf ⟨_, sl_4_6, fun _ _ _ => rfl⟩))) (kn_bi (kn_lf ⟨_, sl_4_7, fun _ _ _ => rfl⟩) (kn_bi (kn_lf ⟨_, sl_4_10, fun _ _ _ => rfl⟩) (kn_lf ⟨_, sl_4_14, fun _ _ _ => rfl⟩))))
noncomputable def kt_5 : Nat → Option kg_F := (kb 8 (kb 4 (kb 1 (kl 0 (kp (am_aload 0 1) 2)) (kl 1 (ki [] 6 0 7))) (kb 7 (kl 4 (kp (am_if .eq 12) 2)) (kl 7 (kp (am_aload 0 1) 2)))) (kb 12 (kb 11 (kl 8 (kx 1)) (kl 11 (kp (am_iload 1 1) 2))) (kb 15 (kl 12 (ki [] 7 2 1)) (kl 15 (kr (am_ireturn (Option.some FieldType.char)))))))
theorem ke_5 (X : ag_X) (sio : Value) : ∀ pc F, kt_5 pc = some F → kg_P X (nm_E 0 (fun _ => 0) sio) pm_5 pc F := fun _ _ => (kn_bi (kn_bi (kn_bi (kn_lf ⟨_, sl_5_0, fun _ _ _ => rfl⟩) (kn_lf ⟨_, sl_5_1, fun _ _ _ => rfl⟩)) (kn_bi (kn_lf ⟨_, sl_5_4, fun _ _ _ => rfl⟩) (kn_lf ⟨_, sl_5_7, fun _ _ _ => rfl⟩))) (kn_bi (kn_bi (kn_lf ⟨_, sl_5_8, fun _ _ _ => rfl⟩) (kn_lf ⟨_, sl_5_11, fun _ _ _ => rfl⟩)) (kn_bi (kn_lf ⟨_, sl_5_12, fun _ _ _ => rfl⟩) (kn_lf ⟨_, sl_5_15, fun _ _ _ => rfl⟩))))
noncomputable def kt_6 : Nat → Option kg_F := (kb 10 (kb 6 (kb 3 (kl 0 (ks 0 1)) (kl 3 (kp (am_if .eq 14) 1))) (kb 7 (kl 6 (kp (am_aload 0 1) 1)) (kl 7 (kx 2)))) (kb 14 (kb 13 (kl 10 (kp (am_if .ne 7) 1)) (kl 13 (kp (am_push (.int 1) 1) 1))) (kb 18 (kl 14 (kp (am_goto 4) 1)) (kl 18 (kr (am_ireturn (Option.some FieldType.boolean)))))))
theorem ke_6 (X : ag_X) (sio : Value) : ∀ pc F, kt_6 pc = some F → kg_P X (nm_E 0 (fun _ => 0) sio) pm_6 pc F := fun _ _ => (kn_bi (kn_bi (kn_bi (kn_lf ⟨_, sl_6_0, fun _ _ _ => rfl⟩) (kn_lf ⟨_, sl_6_3, fun _ _ _ => rfl⟩)) (kn_bi (kn_lf ⟨_, sl_6_6, fun _ _ _ => rfl⟩) (kn_lf ⟨_, sl_6_7, fun _ _ _ => rfl⟩))) (kn_bi (kn_bi (kn_lf ⟨_, sl_6_10, fun _ _ _ => rfl⟩) (kn_lf ⟨_, sl_6_13, fun _ _ _ => rfl⟩)) (kn_bi (kn_lf ⟨_, sl_6_14, fun _ _ _ => rfl⟩) (kn_lf ⟨_, sl_6_18, fun _ _ _ => rfl⟩))))
noncomputable def kt_7 : Nat → Option kg_F := (kb 7 (kb 2 (kb 1 (kl 0 (kp (am_iload 1 1) 2)) (kl 1 (kp (am_aload 0 1) 2))) (kb 3 (kl 2 (kal)) (kb 6 (kl 3 (ki [] 8 2 1)) (kl 6 (kp (am_aload 0 1) 2))))) (kb 12 (kb 8 (kl 7 (kp (am_iload 1 1) 2)) (kb 9 (kl 8 (kba)) (kl 9 (kp (am_push (.int 255) 3) 2)))) (kb 13 (kl 12 (kp (am_bini (fun x y => x &&& y)) 2)) (kb 14 (kl 13 (kp (am_uni (fun x => (x.toUInt32 % 65536).toInt32)) 2)) (kl 14 (kr (am_ireturn (Option.some FieldType.char))))))))
theorem ke_7 (X : ag_X) (sio : Value) : ∀ pc F, kt_7 pc = some F → kg_P X (nm_E 0 (fun _ => 0) sio) pm_7 pc F := fun _ _ => (kn_bi (kn_bi (kn_bi (kn_lf ⟨_, sl_7_0, fun _ _ _ => rfl⟩) (kn_lf ⟨_, sl_7_1, fun _ _ _ => rfl⟩)) (kn_bi (kn_lf ⟨_, sl_7_2, fun _ _ _ => rfl⟩) (kn_bi (kn_lf ⟨_, sl_7_3, fun _ _ _ => rfl⟩) (kn_lf ⟨_, sl_7_6, fun _ _ _ => rfl⟩)))) (kn_bi (kn_bi (kn_lf ⟨_, sl_7_7, fun _ _ _ => rfl⟩) (kn_bi (kn_lf ⟨_, sl_7_8, fun _ _ _ => rfl⟩) (kn_lf ⟨_, sl_7_9, fun _ _ _ => rfl⟩))) (kn_bi (kn_lf ⟨_, sl_7_12, fun _ _ _ => rfl⟩) (kn_bi (kn_lf ⟨_, sl_7_13, fun _ _ _ => rfl⟩) (kn_lf ⟨_, sl_7_14, fun _ _ _ => rfl⟩)))))
noncomputable def kt_8 : Nat → Option kg_F := (kb 5 (kb 1 (kl 0 (kp (am_iload 0 1) 2)) (kb 2 (kl 1 (kp (am_iload 1 1) 2)) (kl 2 (ks 1 2)))) (kb 8 (kl 5 (ki [] 9 3 1)) (kb 9 (kl 8 (kp (am_pop) 2)) (kl 9 (kr (am_return (Option.none : Option FieldType)))))))
theorem ke_8 (X : ag_X) (sio : Value) : ∀ pc F, kt_8 pc = some F → kg_P X (nm_E 0 (fun _ => 0) sio) pm_8 pc F := fun _ _ => (kn_bi (kn_bi (kn_lf ⟨_, sl_8_0, fun _ _ _ => rfl⟩) (kn_bi (kn_lf ⟨_, sl_8_1, fun _ _ _ => rfl⟩) (kn_lf ⟨_, sl_8_2, fun _ _ _ => rfl⟩))) (kn_bi (kn_lf ⟨_, sl_8_5, fun _ _ _ => rfl⟩) (kn_bi (kn_lf ⟨_, sl_8_8, fun _ _ _ => rfl⟩) (kn_lf ⟨_, sl_8_9, fun _ _ _ => rfl⟩))))
noncomputable def kt_9 : Nat → Option kg_F := (kb 5 (kb 1 (kl 0 (kp (am_iload 0 1) 3)) (kb 4 (kl 1 (kp (am_if .lt 8) 3)) (kl 4 (kp (am_iload 0 1) 3)))) (kb 16 (kb 6 (kl 5 (kp (am_iload 1 1) 3)) (kl 6 (kp (am_icmp .lt 10) 3))) (kb 17 (kl 16 (kp (am_iload 0 1) 3)) (kl 17 (kr (am_ireturn (Option.some FieldType.int)))))))
theorem ke_9 (X : ag_X) (sio : Value) : ∀ pc F, kt_9 pc = some F → kg_P X (nm_E 0 (fun _ => 0) sio) pm_9 pc F := fun _ _ => (kn_bi (kn_bi (kn_lf ⟨_, sl_9_0, fun _ _ _ => rfl⟩) (kn_bi (kn_lf ⟨_, sl_9_1, fun _ _ _ => rfl⟩) (kn_lf ⟨_, sl_9_4, fun _ _ _ => rfl⟩))) (kn_bi (kn_bi (kn_lf ⟨_, sl_9_5, fun _ _ _ => rfl⟩) (kn_lf ⟨_, sl_9_6, fun _ _ _ => rfl⟩)) (kn_bi (kn_lf ⟨_, sl_9_16, fun _ _ _ => rfl⟩) (kn_lf ⟨_, sl_9_17, fun _ _ _ => rfl⟩))))
noncomputable def kt_14 : Nat → Option kg_F := (kb 74 (kb 39 (kb 19 (kb 8 (kb 4 (kb 1 (kl 0 (kp (am_aload 0 1) 2)) (kl 1 (ki [] 0 0 6))) (kb 5 (kl 4 (kp (am_aload 0 1) 2)) (kl 5 (kp (am_push (.int 192) 3) 2)))) (kb 13 (kb 10 (kl 8 (ka 0)) (kl 10 (kh (ag_do at_O (ad_putf 6 0 (.array (.int))) 3)))) (kb 14 (kl 13 (kp (am_aload 0 1) 2)) (kb 17 (kl 14 (kp (am_push (.int 192) 3) 2)) (kl 17 (ka 1)))))) (kb 28 (kb 23 (kb 22 (kl 19 (kh (ag_do at_O (ad_putf 6 1 (.array (.long))) 3))) (kl 22 (kp (am_aload 0 1) 2))) (kb 26 (kl 23 (kp (am_push (.int 192) 3) 2)) (kl 26 (ka 1)))) (kb 32 (kb 31 (kl 28 (kh (ag_do at_O (ad_putf 6 2 (.array (.long))) 3))) (kl 31 (kp (am_aload 0 1) 2))) (kb 34 (kl 32 (kp (am_push (.int 12) 2) 2)) (kb 36 (kl 34 (ka 0)) (kl 36 (kh (ag_do at_O (ad_putf 6 3 (.array (.int))) 3)))))))) (kb 56 (kb 47 (kb 42 (kb 40 (kl 39 (kp (am_aload 0 1) 2)) (kl 40 (kp (am_push (.int 16) 2) 2))) (kb 44 (kl 42 (ka 0)) (kl 44 (kh (ag_do at_O (ad_putf 6 4 (.array (.int))) 3))))) (kb 50 (kb 48 (kl 47 (kp (am_aload 0 1) 2)) (kl 48 (kp (am_push (.int 8) 2) 2))) (kb 52 (kl 50 (ka 0)) (kb 55 (kl 52 (kh (ag_do at_O (ad_putf 6 5 (.array (.int))) 3))) (kl 55 (kp (am_aload 0 1) 2)))))) (kb 64 (kb 60 (kb 58 (kl 56 (kp (am_push (.int 8) 2) 2)) (kl 58 (ka 0))) (kb 63 (kl 60 (kh (ag_do at_O (ad_putf 6 6 (.array (.int))) 3))) (kl 63 (kp (am_aload 0 1) 2)))) (kb 68 (kb 66 (kl 64 (kp (am_push (.int 12) 2) 2)) (kl 66 (ka 0))) (kb 71 (kl 68 (kh (ag_do at_O (ad_putf 6 7 (.array (.int))) 3))) (kb 72 (kl 71 (kp (am_aload 0 1) 2)) (kl 72 (kp (am_push (.int 8) 2) 2)))))))) (kb 114 (kb 95 (kb 84 (kb 80 (kb 77 (kl 74 (kq 4)) (kl 77 (kh (ag_do at_O (ad_putf 6 8 (.array (.object "PacketWorks$Table"))) 3)))) (kb 81 (kl 80 (kp (am_aload 0 1) 2)) (kl 81 (km [] 3 0 0)))) (kb 88 (kb 85 (kl 84 (kp (am_dup) 2)) (kl 85 (ki [] 15 0 5))) (kb 91 (kl 88 (kh (ag_do at_O (ad_putf 6 9 (.object "PacketWorks$Nodes")) 3))) (kb 92 (kl 91 (kp (am_aload 0 1) 2)) (kl 92 (km [] 8 0 0)))))) (kb 103 (kb 99 (kb 96 (kl 95 (kp (am_dup) 2)) (kl 96 (ki [] 16 0 5))) (kb 102 (kl 99 (kh (ag_do at_O (ad_putf 6 10 (.object "PacketWorks$States")) 3))) (kl 102 (kp (am_aload 0 1) 2)))) (kb 107 (kb 106 (kl 103 (km [] 1 0 0)) (kl 106 (kp (am_dup) 2))) (kb 110 (kl 107 (ki [] 17 0 5)) (kb 113 (kl 110 (kh (ag_do at_O (ad_putf 6 11 (.object "PacketWorks$Actions")) 3))) (kl 113 (kp (am_aload 0 1) 2))))))) (kb 132 (kb 124 (kb 118 (kb 117 (kl 114 (km [] 9 0 0)) (kl 117 (kp (am_dup) 2))) (kb 121 (kl 118 (ki [] 18 0 5)) (kl 121 (kh (ag_do at_O (ad_putf 6 12 (.object "PacketWorks$Steps")) 3))))) (kb 126 (kb 125 (kl 124 (kp (am_push (.int 0) 1) 2)) (kl 125 (kp (am_istore 1 1) 2))) (kb 127 (kl 126 (kp (am_iload 1 1) 2)) (kb 129 (kl 127 (kp (am_push (.int 8) 2) 2)) (kl 129 (kp (am_icmp .ge 22) 2)))))) (kb 141 (kb 136 (kb 133 (kl 132 (kp (am_aload 0 1) 2)) (kl 133 (kh (ag_do at_O (ad_getf 6 8) 3)))) (kb 137 (kl 136 (kp (am_iload 1 1) 2)) (kb 140 (kl 137 (km [] 10 0 0)) (kl 140 (kp (am_dup) 2))))) (kb 145 (kb 144 (kl 141 (ki [] 19 0 5)) (kl 144 (kh (ag_aast at_O 10 4)))) (kb 148 (kl 145 (kp (am_iinc 1 1) 2)) (kb 151 (kl 148 (kp (am_goto (-22)) 2)) (kl 151 (kr (am_return (Option.none : Option FieldType)))))))))))
theorem ke_14 (X : ag_X) (sio : Value) : ∀ pc F, kt_14 pc = some F → kg_P X (nm_E 0 (fun _ => 0) sio) pm_14 pc F := fun _ _ => (kn_bi (kn_bi (kn_bi (kn_bi (kn_bi (kn_bi (kn_lf ⟨_, sl_14_0, fun _ _ _ => rfl⟩) (kn_lf ⟨_, sl_14_1, fun _ _ _ => rfl⟩)) (kn_bi (kn_lf ⟨_, sl_14_4, fun _ _ _ => rfl⟩) (kn_lf ⟨_, sl_14_5, fun _ _ _ => rfl⟩))) (kn_bi (kn_bi (kn_lf ⟨_, sl_14_8, fun _ _ _ => rfl⟩) (kn_lf ⟨_, sl_14_10, fun _ _ _ => rfl⟩)) (kn_bi (kn_lf ⟨_, sl_14_13, fun _ _ _ => rfl⟩) (kn_bi (kn_lf ⟨_, sl_14_14, fun _ _ _ => rfl⟩) (kn_lf ⟨_, sl_14_17, fun _ _ _ => rfl⟩))))) (kn_bi (kn_bi (kn_bi (kn_lf ⟨_, sl_14_19, fun _ _ _ => rfl⟩) (kn_lf ⟨_, sl_14_22, fun _ _ _ => rfl⟩)) (kn_bi (kn_lf ⟨_, sl_14_23, fun _ _ _ => rfl⟩) (kn_lf ⟨_, sl_14_26, fun _ _ _ => rfl⟩))) (kn_bi (kn_bi (kn_lf ⟨_, sl_14_28, fun _ _ _ => rfl⟩) (kn_lf ⟨_, sl_14_31, fun _ _ _ => rfl⟩)) (kn_bi (kn_lf ⟨_, sl_14_32, fun _ _ _ => rfl⟩) (kn_bi (kn_lf ⟨_, sl_14_34, fun _ _ _ => rfl⟩) (kn_lf ⟨_, sl_14_36, fun _ _ _ => rfl⟩)))))) (kn_bi (kn_bi (kn_bi (kn_bi (kn_lf ⟨_, sl_14_39, fun _ _ _ => rfl⟩) (kn_lf ⟨_, sl_14_40, fun _ _ _ => rfl⟩)) (kn_bi (kn_lf ⟨_, sl_14_42, fun _ _ _ => rfl⟩) (kn_lf ⟨_, sl_14_44, fun _ _ _ => rfl⟩))) (kn_bi (kn_bi (kn_lf ⟨_, sl_14_47, fun _ _ _ => rfl⟩) (kn_lf ⟨_, sl_14_48, fun _ _ _ => rfl⟩)) (kn_bi (kn_lf ⟨_, sl_14_50, fun _ _ _ => rfl⟩) (kn_bi (kn_lf ⟨_, sl_14_52, fun _ _ _ => rfl⟩) (kn_lf ⟨_, sl_14_55, fun _ _ _ => rfl⟩))))) (kn_bi (kn_bi (kn_bi (kn_lf ⟨_, sl_14_56, fun _ _ _ => rfl⟩) (kn_lf ⟨_, sl_14_58, fun _ _ _ => rfl⟩)) (kn_bi (kn_lf ⟨_, sl_14_60, fun _ _ _ => rfl⟩) (kn_lf ⟨_, sl_14_63, fun _ _ _ => rfl⟩))) (kn_bi (kn_bi (kn_lf ⟨_, sl_14_64, fun _ _ _ => rfl⟩) (kn_lf ⟨_, sl_14_66, fun _ _ _ => rfl⟩)) (kn_bi (kn_lf ⟨_, sl_14_68, fun _ _ _ => rfl⟩) (kn_bi (kn_lf ⟨_, sl_14_71, fun _ _ _ => rfl⟩) (kn_lf ⟨_, sl_14_72, fun _ _ _ => rfl⟩))))))) (kn_bi (kn_bi (kn_bi (kn_bi (kn_bi (kn_lf ⟨_, sl_14_74, fun _ _ _ => rfl⟩) (kn_lf ⟨_, sl_14_77, fun _ _ _ => rfl⟩)) (kn_bi (kn_lf ⟨_, sl_14_80, fun _ _ _ => rfl⟩) (kn_lf ⟨_, sl_14_81, fun _ _ _ => rfl⟩))) (kn_bi (kn_bi (kn_lf ⟨_, sl_14_84, fun _ _ _ => rfl⟩) (kn_lf ⟨_, sl_14_85, fun _ _ _ => rfl⟩)) (kn_bi (kn_lf ⟨_, sl_14_88, fun _ _ _ => rfl⟩) (kn_bi (kn_lf ⟨_, sl_14_91, fun _ _ _ => rfl⟩) (kn_lf ⟨_, sl_14_92, fun _ _ _ => rfl⟩))))) (kn_bi (kn_bi (kn_bi (kn_lf ⟨_, sl_14_95, fun _ _ _ => rfl⟩) (kn_lf ⟨_, sl_14_96, fun _ _ _ => rfl⟩)) (kn_bi (kn_lf ⟨_, sl_14_99, fun _ _ _ => rfl⟩) (kn_lf ⟨_, sl_14_102, fun _ _ _ => rfl⟩))) (kn_bi (kn_bi (kn_lf ⟨_, sl_14_103, fun _ _ _ => rfl⟩) (kn_lf ⟨_, sl_14_106, fun _ _ _ => rfl⟩)) (kn_bi (kn_lf ⟨_, sl_14_107, fun _ _ _ => rfl⟩) (kn_bi (kn_lf ⟨_, sl_14_110, fun _ _ _ => rfl⟩) (kn_lf ⟨_, sl_14_113, fun _ _ _ => rfl⟩)))))) (kn_bi (kn_bi (kn_bi (kn_bi (kn_lf ⟨_, sl_14_114, fun _ _ _ => rfl⟩) (kn_lf ⟨_, sl_14_117, fun _ _ _ => rfl⟩)) (kn_bi (kn_lf ⟨_, sl_14_118, fun _ _ _ => rfl⟩) (kn_lf ⟨_, sl_14_121, fun _ _ _ => rfl⟩))) (kn_bi (kn_bi (kn_lf ⟨_, sl_14_124, fun _ _ _ => rfl⟩) (kn_lf ⟨_, sl_14_125, fun _ _ _ => rfl⟩)) (kn_bi (kn_lf ⟨_, sl_14_126, fun _ _ _ => rfl⟩) (kn_bi (kn_lf ⟨_, sl_14_127, fun _ _ _ => rfl⟩) (kn_lf ⟨_, sl_14_129, fun _ _ _ => rfl⟩))))) (kn_bi (kn_bi (kn_bi (kn_lf ⟨_, sl_14_132, fun _ _ _ => rfl⟩) (kn_lf ⟨_, sl_14_133, fun _ _ _ => rfl⟩)) (kn_bi (kn_lf ⟨_, sl_14_136, fun _ _ _ => rfl⟩) (kn_bi (kn_lf ⟨_, sl_14_137, fun _ _ _ => rfl⟩) (kn_lf ⟨_, sl_14_140, fun _ _ _ => rfl⟩)))) (kn_bi (kn_bi (kn_lf ⟨_, sl_14_141, fun _ _ _ => rfl⟩) (kn_lf ⟨_, sl_14_144, fun _ _ _ => rfl⟩)) (kn_bi (kn_lf ⟨_, sl_14_145, fun _ _ _ => rfl⟩) (kn_bi (kn_lf ⟨_, sl_14_148, fun _ _ _ => rfl⟩) (kn_lf ⟨_, sl_14_151, fun _ _ _ => rfl⟩))))))))
noncomputable def kt_15 : Nat → Option kg_F := (kb 37 (kb 17 (kb 8 (kb 4 (kb 1 (kl 0 (kp (am_aload 0 1) 1)) (kl 1 (ki [] 0 0 6))) (kb 5 (kl 4 (kp (am_aload 0 1) 1)) (kl 5 (kp (am_push (.int 1090) 3) 1)))) (kb 13 (kb 10 (kl 8 (ka 0)) (kl 10 (kh (ag_do at_O (ad_putf 3 0 (.array (.int))) 3)))) (kb 14 (kl 13 (kp (am_aload 0 1) 1)) (kl 14 (kp (am_push (.int 1090) 3) 1))))) (kb 26 (kb 22 (kb 19 (kl 17 (ka 0)) (kl 19 (kh (ag_do at_O (ad_putf 3 1 (.array (.int))) 3)))) (kb 23 (kl 22 (kp (am_aload 0 1) 1)) (kl 23 (kp (am_push (.int 1090) 3) 1)))) (kb 31 (kb 28 (kl 26 (ka 0)) (kl 28 (kh (ag_do at_O (ad_putf 3 2 (.array (.int))) 3)))) (kb 32 (kl 31 (kp (am_aload 0 1) 1)) (kb 35 (kl 32 (kp (am_push (.int 1090) 3) 1)) (kl 35 (ka 0))))))) (kb 58 (kb 46 (kb 41 (kb 40 (kl 37 (kh (ag_do at_O (ad_putf 3 3 (.array (.int))) 3))) (kl 40 (kp (am_aload 0 1) 1))) (kb 44 (kl 41 (kp (am_push (.int 1090) 3) 1)) (kl 44 (ka 0)))) (kb 50 (kb 49 (kl 46 (kh (ag_do at_O (ad_putf 3 4 (.array (.int))) 3))) (kl 49 (kp (am_aload 0 1) 1))) (kb 53 (kl 50 (kp (am_push (.int 1090) 3) 1)) (kb 55 (kl 53 (ka 0)) (kl 55 (kh (ag_do at_O (ad_putf 3 5 (.array (.int))) 3))))))) (kb 67 (kb 62 (kb 59 (kl 58 (kp (am_aload 0 1) 1)) (kl 59 (kp (am_push (.int 1090) 3) 1))) (kb 64 (kl 62 (ka 1)) (kl 64 (kh (ag_do at_O (ad_putf 3 6 (.array (.long))) 3))))) (kb 71 (kb 68 (kl 67 (kp (am_aload 0 1) 1)) (kl 68 (kp (am_push (.int 1090) 3) 1))) (kb 73 (kl 71 (ka 1)) (kb 76 (kl 73 (kh (ag_do at_O (ad_putf 3 7 (.array (.long))) 3))) (kl 76 (kr (am_return (Option.none : Option FieldType))))))))))
theorem ke_15 (X : ag_X) (sio : Value) : ∀ pc F, kt_15 pc = some F → kg_P X (nm_E 0 (fun _ => 0) sio) pm_15 pc F := fun _ _ => (kn_bi (kn_bi (kn_bi (kn_bi (kn_bi (kn_lf ⟨_, sl_15_0, fun _ _ _ => rfl⟩) (kn_lf ⟨_, sl_15_1, fun _ _ _ => rfl⟩)) (kn_bi (kn_lf ⟨_, sl_15_4, fun _ _ _ => rfl⟩) (kn_lf ⟨_, sl_15_5, fun _ _ _ => rfl⟩))) (kn_bi (kn_bi (kn_lf ⟨_, sl_15_8, fun _ _ _ => rfl⟩) (kn_lf ⟨_, sl_15_10, fun _ _ _ => rfl⟩)) (kn_bi (kn_lf ⟨_, sl_15_13, fun _ _ _ => rfl⟩) (kn_lf ⟨_, sl_15_14, fun _ _ _ => rfl⟩)))) (kn_bi (kn_bi (kn_bi (kn_lf ⟨_, sl_15_17, fun _ _ _ => rfl⟩) (kn_lf ⟨_, sl_15_19, fun _ _ _ => rfl⟩)) (kn_bi (kn_lf ⟨_, sl_15_22, fun _ _ _ => rfl⟩) (kn_lf ⟨_, sl_15_23, fun _ _ _ => rfl⟩))) (kn_bi (kn_bi (kn_lf ⟨_, sl_15_26, fun _ _ _ => rfl⟩) (kn_lf ⟨_, sl_15_28, fun _ _ _ => rfl⟩)) (kn_bi (kn_lf ⟨_, sl_15_31, fun _ _ _ => rfl⟩) (kn_bi (kn_lf ⟨_, sl_15_32, fun _ _ _ => rfl⟩) (kn_lf ⟨_, sl_15_35, fun _ _ _ => rfl⟩)))))) (kn_bi (kn_bi (kn_bi (kn_bi (kn_lf ⟨_, sl_15_37, fun _ _ _ => rfl⟩) (kn_lf ⟨_, sl_15_40, fun _ _ _ => rfl⟩)) (kn_bi (kn_lf ⟨_, sl_15_41, fun _ _ _ => rfl⟩) (kn_lf ⟨_, sl_15_44, fun _ _ _ => rfl⟩))) (kn_bi (kn_bi (kn_lf ⟨_, sl_15_46, fun _ _ _ => rfl⟩) (kn_lf ⟨_, sl_15_49, fun _ _ _ => rfl⟩)) (kn_bi (kn_lf ⟨_, sl_15_50, fun _ _ _ => rfl⟩) (kn_bi (kn_lf ⟨_, sl_15_53, fun _ _ _ => rfl⟩) (kn_lf ⟨_, sl_15_55, fun _ _ _ => rfl⟩))))) (kn_bi (kn_bi (kn_bi (kn_lf ⟨_, sl_15_58, fun _ _ _ => rfl⟩) (kn_lf ⟨_, sl_15_59, fun _ _ _ => rfl⟩)) (kn_bi (kn_lf ⟨_, sl_15_62, fun _ _ _ => rfl⟩) (kn_lf ⟨_, sl_15_64, fun _ _ _ => rfl⟩))) (kn_bi (kn_bi (kn_lf ⟨_, sl_15_67, fun _ _ _ => rfl⟩) (kn_lf ⟨_, sl_15_68, fun _ _ _ => rfl⟩)) (kn_bi (kn_lf ⟨_, sl_15_71, fun _ _ _ => rfl⟩) (kn_bi (kn_lf ⟨_, sl_15_73, fun _ _ _ => rfl⟩) (kn_lf ⟨_, sl_15_76, fun _ _ _ => rfl⟩)))))))
noncomputable def kt_16 : Nat → Option kg_F := (kb 54 (kb 25 (kb 12 (kb 5 (kb 1 (kl 0 (kp (am_aload 0 1) 1)) (kb 4 (kl 1 (ki [] 0 0 6)) (kl 4 (kp (am_aload 0 1) 1)))) (kb 7 (kl 5 (kp (am_push (.int 16) 2) 1)) (kb 9 (kl 7 (ka 0)) (kl 9 (kh (ag_do at_O (ad_putf 8 0 (.array (.int))) 3)))))) (kb 17 (kb 13 (kl 12 (kp (am_aload 0 1) 1)) (kb 15 (kl 13 (kp (am_push (.int 96) 2) 1)) (kl 15 (ka 0)))) (kb 21 (kb 20 (kl 17 (kh (ag_do at_O (ad_putf 8 1 (.array (.int))) 3))) (kl 20 (kp (am_aload 0 1) 1))) (kb 23 (kl 21 (kp (am_push (.int 16) 2) 1)) (kl 23 (ka 0)))))) (kb 39 (kb 31 (kb 28 (kl 25 (kh (ag_do at_O (ad_putf 8 2 (.array (.int))) 3))) (kb 29 (kl 28 (kp (am_aload 0 1) 1)) (kl 29 (kp (am_push (.int 16) 2) 1)))) (kb 36 (kb 33 (kl 31 (ka 0)) (kl 33 (kh (ag_do at_O (ad_putf 8 3 (.array (.int))) 3)))) (kb 37 (kl 36 (kp (am_aload 0 1) 1)) (kl 37 (kp (am_push (.int 16) 2) 1))))) (kb 45 (kb 41 (kl 39 (ka 0)) (kb 44 (kl 41 (kh (ag_do at_O (ad_putf 8 4 (.array (.int))) 3))) (kl 44 (kp (am_aload 0 1) 1)))) (kb 50 (kb 48 (kl 45 (kp (am_push (.int 128) 3) 1)) (kl 48 (ka 1))) (kb 53 (kl 50 (kh (ag_do at_O (ad_putf 8 5 (.array (.long))) 3))) (kl 53 (kp (am_aload 0 1) 1))))))) (kb 84 (kb 71 (kb 62 (kb 57 (kl 54 (kp (am_push (.int 128) 3) 1)) (kb 59 (kl 57 (ka 1)) (kl 59 (kh (ag_do at_O (ad_putf 8 6 (.array (.long))) 3))))) (kb 66 (kb 63 (kl 62 (kp (am_aload 0 1) 1)) (kl 63 (kp (am_push (.int 128) 3) 1))) (kb 68 (kl 66 (ka 0)) (kl 68 (kh (ag_do at_O (ad_putf 8 7 (.array (.int))) 3)))))) (kb 76 (kb 72 (kl 71 (kp (am_aload 0 1) 1)) (kb 74 (kl 72 (kp (am_push (.int 16) 2) 1)) (kl 74 (ka 0)))) (kb 80 (kb 79 (kl 76 (kh (ag_do at_O (ad_putf 8 8 (.array (.int))) 3))) (kl 79 (kp (am_aload 0 1) 1))) (kb 82 (kl 80 (kp (am_push (.int 16) 2) 1)) (kl 82 (ka 0)))))) (kb 98 (kb 90 (kb 87 (kl 84 (kh (ag_do at_O (ad_putf 8 9 (.array (.int))) 3))) (kb 88 (kl 87 (kp (am_aload 0 1) 1)) (kl 88 (kp (am_push (.int 16) 2) 1)))) (kb 95 (kb 92 (kl 90 (ka 0)) (kl 92 (kh (ag_do at_O (ad_putf 8 10 (.array (.int))) 3)))) (kb 96 (kl 95 (kp (am_aload 0 1) 1)) (kl 96 (kp (am_push (.int 16) 2) 1))))) (kb 104 (kb 100 (kl 98 (ka 0)) (kb 103 (kl 100 (kh (ag_do at_O (ad_putf 8 11 (.array (.int))) 3))) (kl 103 (kp (am_aload 0 1) 1)))) (kb 108 (kb 106 (kl 104 (kp (am_push (.int 16) 2) 1)) (kl 106 (ka 0))) (kb 111 (kl 108 (kh (ag_do at_O (ad_putf 8 12 (.array (.int))) 3))) (kl 111 (kr (am_return (Option.none : Option FieldType))))))))))
theorem ke_16 (X : ag_X) (sio : Value) : ∀ pc F, kt_16 pc = some F → kg_P X (nm_E 0 (fun _ => 0) sio) pm_16 pc F := fun _ _ => (kn_bi (kn_bi (kn_bi (kn_bi (kn_bi (kn_lf ⟨_, sl_16_0, fun _ _ _ => rfl⟩) (kn_bi (kn_lf ⟨_, sl_16_1, fun _ _ _ => rfl⟩) (kn_lf ⟨_, sl_16_4, fun _ _ _ => rfl⟩))) (kn_bi (kn_lf ⟨_, sl_16_5, fun _ _ _ => rfl⟩) (kn_bi (kn_lf ⟨_, sl_16_7, fun _ _ _ => rfl⟩) (kn_lf ⟨_, sl_16_9, fun _ _ _ => rfl⟩)))) (kn_bi (kn_bi (kn_lf ⟨_, sl_16_12, fun _ _ _ => rfl⟩) (kn_bi (kn_lf ⟨_, sl_16_13, fun _ _ _ => rfl⟩) (kn_lf ⟨_, sl_16_15, fun _ _ _ => rfl⟩))) (kn_bi (kn_bi (kn_lf ⟨_, sl_16_17, fun _ _ _ => rfl⟩) (kn_lf ⟨_, sl_16_20, fun _ _ _ => rfl⟩)) (kn_bi (kn_lf ⟨_, sl_16_21, fun _ _ _ => rfl⟩) (kn_lf ⟨_, sl_16_23, fun _ _ _ => rfl⟩))))) (kn_bi (kn_bi (kn_bi (kn_lf ⟨_, sl_16_25, fun _ _ _ => rfl⟩) (kn_bi (kn_lf ⟨_, sl_16_28, fun _ _ _ => rfl⟩) (kn_lf ⟨_, sl_16_29, fun _ _ _ => rfl⟩))) (kn_bi (kn_bi (kn_lf ⟨_, sl_16_31, fun _ _ _ => rfl⟩) (kn_lf ⟨_, sl_16_33, fun _ _ _ => rfl⟩)) (kn_bi (kn_lf ⟨_, sl_16_36, fun _ _ _ => rfl⟩) (kn_lf ⟨_, sl_16_37, fun _ _ _ => rfl⟩)))) (kn_bi (kn_bi (kn_lf ⟨_, sl_16_39, fun _ _ _ => rfl⟩) (kn_bi (kn_lf ⟨_, sl_16_41, fun _ _ _ => rfl⟩) (kn_lf ⟨_, sl_16_44, fun _ _ _ => rfl⟩))) (kn_bi (kn_bi (kn_lf ⟨_, sl_16_45, fun _ _ _ => rfl⟩) (kn_lf ⟨_, sl_16_48, fun _ _ _ => rfl⟩)) (kn_bi (kn_lf ⟨_, sl_16_50, fun _ _ _ => rfl⟩) (kn_lf ⟨_, sl_16_53, fun _ _ _ => rfl⟩)))))) (kn_bi (kn_bi (kn_bi (kn_bi (kn_lf ⟨_, sl_16_54, fun _ _ _ => rfl⟩) (kn_bi (kn_lf ⟨_, sl_16_57, fun _ _ _ => rfl⟩) (kn_lf ⟨_, sl_16_59, fun _ _ _ => rfl⟩))) (kn_bi (kn_bi (kn_lf ⟨_, sl_16_62, fun _ _ _ => rfl⟩) (kn_lf ⟨_, sl_16_63, fun _ _ _ => rfl⟩)) (kn_bi (kn_lf ⟨_, sl_16_66, fun _ _ _ => rfl⟩) (kn_lf ⟨_, sl_16_68, fun _ _ _ => rfl⟩)))) (kn_bi (kn_bi (kn_lf ⟨_, sl_16_71, fun _ _ _ => rfl⟩) (kn_bi (kn_lf ⟨_, sl_16_72, fun _ _ _ => rfl⟩) (kn_lf ⟨_, sl_16_74, fun _ _ _ => rfl⟩))) (kn_bi (kn_bi (kn_lf ⟨_, sl_16_76, fun _ _ _ => rfl⟩) (kn_lf ⟨_, sl_16_79, fun _ _ _ => rfl⟩)) (kn_bi (kn_lf ⟨_, sl_16_80, fun _ _ _ => rfl⟩) (kn_lf ⟨_, sl_16_82, fun _ _ _ => rfl⟩))))) (kn_bi (kn_bi (kn_bi (kn_lf ⟨_, sl_16_84, fun _ _ _ => rfl⟩) (kn_bi (kn_lf ⟨_, sl_16_87, fun _ _ _ => rfl⟩) (kn_lf ⟨_, sl_16_88, fun _ _ _ => rfl⟩))) (kn_bi (kn_bi (kn_lf ⟨_, sl_16_90, fun _ _ _ => rfl⟩) (kn_lf ⟨_, sl_16_92, fun _ _ _ => rfl⟩)) (kn_bi (kn_lf ⟨_, sl_16_95, fun _ _ _ => rfl⟩) (kn_lf ⟨_, sl_16_96, fun _ _ _ => rfl⟩)))) (kn_bi (kn_bi (kn_lf ⟨_, sl_16_98, fun _ _ _ => rfl⟩) (kn_bi (kn_lf ⟨_, sl_16_100, fun _ _ _ => rfl⟩) (kn_lf ⟨_, sl_16_103, fun _ _ _ => rfl⟩))) (kn_bi (kn_bi (kn_lf ⟨_, sl_16_104, fun _ _ _ => rfl⟩) (kn_lf ⟨_, sl_16_106, fun _ _ _ => rfl⟩)) (kn_bi (kn_lf ⟨_, sl_16_108, fun _ _ _ => rfl⟩) (kn_lf ⟨_, sl_16_111, fun _ _ _ => rfl⟩)))))))
noncomputable def kt_17 : Nat → Option kg_F := (kb 53 (kb 25 (kb 12 (kb 5 (kb 1 (kl 0 (kp (am_aload 0 1) 1)) (kb 4 (kl 1 (ki [] 0 0 6)) (kl 4 (kp (am_aload 0 1) 1)))) (kb 7 (kl 5 (kp (am_push (.int 16) 2) 1)) (kb 9 (kl 7 (ka 0)) (kl 9 (kh (ag_do at_O (ad_putf 1 0 (.array (.int))) 3)))))) (kb 17 (kb 13 (kl 12 (kp (am_aload 0 1) 1)) (kb 15 (kl 13 (kp (am_push (.int 64) 2) 1)) (kl 15 (ka 0)))) (kb 21 (kb 20 (kl 17 (kh (ag_do at_O (ad_putf 1 1 (.array (.int))) 3))) (kl 20 (kp (am_aload 0 1) 1))) (kb 23 (kl 21 (kp (am_push (.int 64) 2) 1)) (kl 23 (ka 1)))))) (kb 39 (kb 31 (kb 28 (kl 25 (kh (ag_do at_O (ad_putf 1 2 (.array (.long))) 3))) (kb 29 (kl 28 (kp (am_aload 0 1) 1)) (kl 29 (kp (am_push (.int 64) 2) 1)))) (kb 36 (kb 33 (kl 31 (ka 1)) (kl 33 (kh (ag_do at_O (ad_putf 1 3 (.array (.long))) 3)))) (kb 37 (kl 36 (kp (am_aload 0 1) 1)) (kl 37 (kp (am_push (.int 16) 2) 1))))) (kb 45 (kb 41 (kl 39 (ka 0)) (kb 44 (kl 41 (kh (ag_do at_O (ad_putf 1 4 (.array (.int))) 3))) (kl 44 (kp (am_aload 0 1) 1)))) (kb 49 (kb 47 (kl 45 (kp (am_push (.int 16) 2) 1)) (kl 47 (ka 0))) (kb 52 (kl 49 (kh (ag_do at_O (ad_putf 1 5 (.array (.int))) 3))) (kl 52 (kp (am_aload 0 1) 1))))))) (kb 85 (kb 70 (kb 61 (kb 56 (kl 53 (kp (am_push (.int 240) 3) 1)) (kb 58 (kl 56 (ka 0)) (kl 58 (kh (ag_do at_O (ad_putf 1 6 (.array (.int))) 3))))) (kb 65 (kb 62 (kl 61 (kp (am_aload 0 1) 1)) (kl 62 (kp (am_push (.int 240) 3) 1))) (kb 67 (kl 65 (ka 0)) (kl 67 (kh (ag_do at_O (ad_putf 1 7 (.array (.int))) 3)))))) (kb 76 (kb 71 (kl 70 (kp (am_aload 0 1) 1)) (kb 74 (kl 71 (kp (am_push (.int 240) 3) 1)) (kl 74 (ka 0)))) (kb 80 (kb 79 (kl 76 (kh (ag_do at_O (ad_putf 1 8 (.array (.int))) 3))) (kl 79 (kp (am_aload 0 1) 1))) (kb 83 (kl 80 (kp (am_push (.int 240) 3) 1)) (kl 83 (ka 0)))))) (kb 101 (kb 92 (kb 88 (kl 85 (kh (ag_do at_O (ad_putf 1 9 (.array (.int))) 3))) (kb 89 (kl 88 (kp (am_aload 0 1) 1)) (kl 89 (kp (am_push (.int 240) 3) 1)))) (kb 97 (kb 94 (kl 92 (ka 0)) (kl 94 (kh (ag_do at_O (ad_putf 1 10 (.array (.int))) 3)))) (kb 98 (kl 97 (kp (am_aload 0 1) 1)) (kl 98 (kp (am_push (.int 240) 3) 1))))) (kb 107 (kb 103 (kl 101 (ka 0)) (kb 106 (kl 103 (kh (ag_do at_O (ad_putf 1 11 (.array (.int))) 3))) (kl 106 (kp (am_aload 0 1) 1)))) (kb 112 (kb 110 (kl 107 (kp (am_push (.int 240) 3) 1)) (kl 110 (ka 0))) (kb 115 (kl 112 (kh (ag_do at_O (ad_putf 1 12 (.array (.int))) 3))) (kl 115 (kr (am_return (Option.none : Option FieldType))))))))))
theorem ke_17 (X : ag_X) (sio : Value) : ∀ pc F, kt_17 pc = some F → kg_P X (nm_E 0 (fun _ => 0) sio) pm_17 pc F := fun _ _ => (kn_bi (kn_bi (kn_bi (kn_bi (kn_bi (kn_lf ⟨_, sl_17_0, fun _ _ _ => rfl⟩) (kn_bi (kn_lf ⟨_, sl_17_1, fun _ _ _ => rfl⟩) (kn_lf ⟨_, sl_17_4, fun _ _ _ => rfl⟩))) (kn_bi (kn_lf ⟨_, sl_17_5, fun _ _ _ => rfl⟩) (kn_bi (kn_lf ⟨_, sl_17_7, fun _ _ _ => rfl⟩) (kn_lf ⟨_, sl_17_9, fun _ _ _ => rfl⟩)))) (kn_bi (kn_bi (kn_lf ⟨_, sl_17_12, fun _ _ _ => rfl⟩) (kn_bi (kn_lf ⟨_, sl_17_13, fun _ _ _ => rfl⟩) (kn_lf ⟨_, sl_17_15, fun _ _ _ => rfl⟩))) (kn_bi (kn_bi (kn_lf ⟨_, sl_17_17, fun _ _ _ => rfl⟩) (kn_lf ⟨_, sl_17_20, fun _ _ _ => rfl⟩)) (kn_bi (kn_lf ⟨_, sl_17_21, fun _ _ _ => rfl⟩) (kn_lf ⟨_, sl_17_23, fun _ _ _ => rfl⟩))))) (kn_bi (kn_bi (kn_bi (kn_lf ⟨_, sl_17_25, fun _ _ _ => rfl⟩) (kn_bi (kn_lf ⟨_, sl_17_28, fun _ _ _ => rfl⟩) (kn_lf ⟨_, sl_17_29, fun _ _ _ => rfl⟩))) (kn_bi (kn_bi (kn_lf ⟨_, sl_17_31, fun _ _ _ => rfl⟩) (kn_lf ⟨_, sl_17_33, fun _ _ _ => rfl⟩)) (kn_bi (kn_lf ⟨_, sl_17_36, fun _ _ _ => rfl⟩) (kn_lf ⟨_, sl_17_37, fun _ _ _ => rfl⟩)))) (kn_bi (kn_bi (kn_lf ⟨_, sl_17_39, fun _ _ _ => rfl⟩) (kn_bi (kn_lf ⟨_, sl_17_41, fun _ _ _ => rfl⟩) (kn_lf ⟨_, sl_17_44, fun _ _ _ => rfl⟩))) (kn_bi (kn_bi (kn_lf ⟨_, sl_17_45, fun _ _ _ => rfl⟩) (kn_lf ⟨_, sl_17_47, fun _ _ _ => rfl⟩)) (kn_bi (kn_lf ⟨_, sl_17_49, fun _ _ _ => rfl⟩) (kn_lf ⟨_, sl_17_52, fun _ _ _ => rfl⟩)))))) (kn_bi (kn_bi (kn_bi (kn_bi (kn_lf ⟨_, sl_17_53, fun _ _ _ => rfl⟩) (kn_bi (kn_lf ⟨_, sl_17_56, fun _ _ _ => rfl⟩) (kn_lf ⟨_, sl_17_58, fun _ _ _ => rfl⟩))) (kn_bi (kn_bi (kn_lf ⟨_, sl_17_61, fun _ _ _ => rfl⟩) (kn_lf ⟨_, sl_17_62, fun _ _ _ => rfl⟩)) (kn_bi (kn_lf ⟨_, sl_17_65, fun _ _ _ => rfl⟩) (kn_lf ⟨_, sl_17_67, fun _ _ _ => rfl⟩)))) (kn_bi (kn_bi (kn_lf ⟨_, sl_17_70, fun _ _ _ => rfl⟩) (kn_bi (kn_lf ⟨_, sl_17_71, fun _ _ _ => rfl⟩) (kn_lf ⟨_, sl_17_74, fun _ _ _ => rfl⟩))) (kn_bi (kn_bi (kn_lf ⟨_, sl_17_76, fun _ _ _ => rfl⟩) (kn_lf ⟨_, sl_17_79, fun _ _ _ => rfl⟩)) (kn_bi (kn_lf ⟨_, sl_17_80, fun _ _ _ => rfl⟩) (kn_lf ⟨_, sl_17_83, fun _ _ _ => rfl⟩))))) (kn_bi (kn_bi (kn_bi (kn_lf ⟨_, sl_17_85, fun _ _ _ => rfl⟩) (kn_bi (kn_lf ⟨_, sl_17_88, fun _ _ _ => rfl⟩) (kn_lf ⟨_, sl_17_89, fun _ _ _ => rfl⟩))) (kn_bi (kn_bi (kn_lf ⟨_, sl_17_92, fun _ _ _ => rfl⟩) (kn_lf ⟨_, sl_17_94, fun _ _ _ => rfl⟩)) (kn_bi (kn_lf ⟨_, sl_17_97, fun _ _ _ => rfl⟩) (kn_lf ⟨_, sl_17_98, fun _ _ _ => rfl⟩)))) (kn_bi (kn_bi (kn_lf ⟨_, sl_17_101, fun _ _ _ => rfl⟩) (kn_bi (kn_lf ⟨_, sl_17_103, fun _ _ _ => rfl⟩) (kn_lf ⟨_, sl_17_106, fun _ _ _ => rfl⟩))) (kn_bi (kn_bi (kn_lf ⟨_, sl_17_107, fun _ _ _ => rfl⟩) (kn_lf ⟨_, sl_17_110, fun _ _ _ => rfl⟩)) (kn_bi (kn_lf ⟨_, sl_17_112, fun _ _ _ => rfl⟩) (kn_lf ⟨_, sl_17_115, fun _ _ _ => rfl⟩)))))))
noncomputable def kt_18 : Nat → Option kg_F := (kb 57 (kb 28 (kb 13 (kb 5 (kb 1 (kl 0 (kp (am_aload 0 1) 1)) (kb 4 (kl 1 (ki [] 0 0 6)) (kl 4 (kp (am_aload 0 1) 1)))) (kb 9 (kb 7 (kl 5 (kp (am_push (.int 48) 2) 1)) (kl 7 (ka 0))) (kb 12 (kl 9 (kh (ag_do at_O (ad_putf 9 0 (.array (.int))) 3))) (kl 12 (kp (am_aload 0 1) 1))))) (kb 20 (kb 15 (kl 13 (kp (am_push (.int 48) 2) 1)) (kb 17 (kl 15 (ka 0)) (kl 17 (kh (ag_do at_O (ad_putf 9 1 (.array (.int))) 3))))) (kb 23 (kb 21 (kl 20 (kp (am_aload 0 1) 1)) (kl 21 (kp (am_push (.int 48) 2) 1))) (kb 25 (kl 23 (ka 0)) (kl 25 (kh (ag_do at_O (ad_putf 9 2 (.array (.int))) 3))))))) (kb 41 (kb 33 (kb 29 (kl 28 (kp (am_aload 0 1) 1)) (kb 31 (kl 29 (kp (am_push (.int 48) 2) 1)) (kl 31 (ka 0)))) (kb 37 (kb 36 (kl 33 (kh (ag_do at_O (ad_putf 9 3 (.array (.int))) 3))) (kl 36 (kp (am_aload 0 1) 1))) (kb 39 (kl 37 (kp (am_push (.int 48) 2) 1)) (kl 39 (ka 0))))) (kb 49 (kb 45 (kb 44 (kl 41 (kh (ag_do at_O (ad_putf 9 4 (.array (.int))) 3))) (kl 44 (kp (am_aload 0 1) 1))) (kb 47 (kl 45 (kp (am_push (.int 48) 2) 1)) (kl 47 (ka 0)))) (kb 53 (kb 52 (kl 49 (kh (ag_do at_O (ad_putf 9 5 (.array (.int))) 3))) (kl 52 (kp (am_aload 0 1) 1))) (kb 55 (kl 53 (kp (am_push (.int 48) 2) 1)) (kl 55 (ka 0))))))) (kb 89 (kb 72 (kb 63 (kb 60 (kl 57 (kh (ag_do at_O (ad_putf 9 6 (.array (.int))) 3))) (kb 61 (kl 60 (kp (am_aload 0 1) 1)) (kl 61 (kp (am_push (.int 48) 2) 1)))) (kb 68 (kb 65 (kl 63 (ka 0)) (kl 65 (kh (ag_do at_O (ad_putf 9 7 (.array (.int))) 3)))) (kb 69 (kl 68 (kp (am_aload 0 1) 1)) (kl 69 (kp (am_push (.int 192) 3) 1))))) (kb 81 (kb 77 (kb 74 (kl 72 (ka 1)) (kl 74 (kh (ag_do at_O (ad_putf 9 8 (.array (.long))) 3)))) (kb 78 (kl 77 (kp (am_aload 0 1) 1)) (kl 78 (kp (am_push (.int 192) 3) 1)))) (kb 86 (kb 83 (kl 81 (ka 1)) (kl 83 (kh (ag_do at_O (ad_putf 9 9 (.array (.long))) 3)))) (kb 87 (kl 86 (kp (am_aload 0 1) 1)) (kl 87 (kp (am_push (.int 48) 2) 1)))))) (kb 103 (kb 95 (kb 91 (kl 89 (ka 0)) (kb 94 (kl 91 (kh (ag_do at_O (ad_putf 9 10 (.array (.int))) 3))) (kl 94 (kp (am_aload 0 1) 1)))) (kb 99 (kb 97 (kl 95 (kp (am_push (.int 12) 2) 1)) (kl 97 (ka 0))) (kb 102 (kl 99 (kh (ag_do at_O (ad_putf 9 11 (.array (.int))) 3))) (kl 102 (kp (am_aload 0 1) 1))))) (kb 111 (kb 107 (kb 105 (kl 103 (kp (am_push (.int 12) 2) 1)) (kl 105 (ka 0))) (kb 110 (kl 107 (kh (ag_do at_O (ad_putf 9 12 (.array (.int))) 3))) (kl 110 (kp (am_aload 0 1) 1)))) (kb 115 (kb 113 (kl 111 (kp (am_push (.int 12) 2) 1)) (kl 113 (ka 0))) (kb 118 (kl 115 (kh (ag_do at_O (ad_putf 9 13 (.array (.int))) 3))) (kl 118 (kr (am_return (Option.none : Option FieldType))))))))))
theorem ke_18 (X : ag_X) (sio : Value) : ∀ pc F, kt_18 pc = some F → kg_P X (nm_E 0 (fun _ => 0) sio) pm_18 pc F := fun _ _ => (kn_bi (kn_bi (kn_bi (kn_bi (kn_bi (kn_lf ⟨_, sl_18_0, fun _ _ _ => rfl⟩) (kn_bi (kn_lf ⟨_, sl_18_1, fun _ _ _ => rfl⟩) (kn_lf ⟨_, sl_18_4, fun _ _ _ => rfl⟩))) (kn_bi (kn_bi (kn_lf ⟨_, sl_18_5, fun _ _ _ => rfl⟩) (kn_lf ⟨_, sl_18_7, fun _ _ _ => rfl⟩)) (kn_bi (kn_lf ⟨_, sl_18_9, fun _ _ _ => rfl⟩) (kn_lf ⟨_, sl_18_12, fun _ _ _ => rfl⟩)))) (kn_bi (kn_bi (kn_lf ⟨_, sl_18_13, fun _ _ _ => rfl⟩) (kn_bi (kn_lf ⟨_, sl_18_15, fun _ _ _ => rfl⟩) (kn_lf ⟨_, sl_18_17, fun _ _ _ => rfl⟩))) (kn_bi (kn_bi (kn_lf ⟨_, sl_18_20, fun _ _ _ => rfl⟩) (kn_lf ⟨_, sl_18_21, fun _ _ _ => rfl⟩)) (kn_bi (kn_lf ⟨_, sl_18_23, fun _ _ _ => rfl⟩) (kn_lf ⟨_, sl_18_25, fun _ _ _ => rfl⟩))))) (kn_bi (kn_bi (kn_bi (kn_lf ⟨_, sl_18_28, fun _ _ _ => rfl⟩) (kn_bi (kn_lf ⟨_, sl_18_29, fun _ _ _ => rfl⟩) (kn_lf ⟨_, sl_18_31, fun _ _ _ => rfl⟩))) (kn_bi (kn_bi (kn_lf ⟨_, sl_18_33, fun _ _ _ => rfl⟩) (kn_lf ⟨_, sl_18_36, fun _ _ _ => rfl⟩)) (kn_bi (kn_lf ⟨_, sl_18_37, fun _ _ _ => rfl⟩) (kn_lf ⟨_, sl_18_39, fun _ _ _ => rfl⟩)))) (kn_bi (kn_bi (kn_bi (kn_lf ⟨_, sl_18_41, fun _ _ _ => rfl⟩) (kn_lf ⟨_, sl_18_44, fun _ _ _ => rfl⟩)) (kn_bi (kn_lf ⟨_, sl_18_45, fun _ _ _ => rfl⟩) (kn_lf ⟨_, sl_18_47, fun _ _ _ => rfl⟩))) (kn_bi (kn_bi (kn_lf ⟨_, sl_18_49, fun _ _ _ => rfl⟩) (kn_lf ⟨_, sl_18_52, fun _ _ _ => rfl⟩)) (kn_bi (kn_lf ⟨_, sl_18_53, fun _ _ _ => rfl⟩) (kn_lf ⟨_, sl_18_55, fun _ _ _ => rfl⟩)))))) (kn_bi (kn_bi (kn_bi (kn_bi (kn_lf ⟨_, sl_18_57, fun _ _ _ => rfl⟩) (kn_bi (kn_lf ⟨_, sl_18_60, fun _ _ _ => rfl⟩) (kn_lf ⟨_, sl_18_61, fun _ _ _ => rfl⟩))) (kn_bi (kn_bi (kn_lf ⟨_, sl_18_63, fun _ _ _ => rfl⟩) (kn_lf ⟨_, sl_18_65, fun _ _ _ => rfl⟩)) (kn_bi (kn_lf ⟨_, sl_18_68, fun _ _ _ => rfl⟩) (kn_lf ⟨_, sl_18_69, fun _ _ _ => rfl⟩)))) (kn_bi (kn_bi (kn_bi (kn_lf ⟨_, sl_18_72, fun _ _ _ => rfl⟩) (kn_lf ⟨_, sl_18_74, fun _ _ _ => rfl⟩)) (kn_bi (kn_lf ⟨_, sl_18_77, fun _ _ _ => rfl⟩) (kn_lf ⟨_, sl_18_78, fun _ _ _ => rfl⟩))) (kn_bi (kn_bi (kn_lf ⟨_, sl_18_81, fun _ _ _ => rfl⟩) (kn_lf ⟨_, sl_18_83, fun _ _ _ => rfl⟩)) (kn_bi (kn_lf ⟨_, sl_18_86, fun _ _ _ => rfl⟩) (kn_lf ⟨_, sl_18_87, fun _ _ _ => rfl⟩))))) (kn_bi (kn_bi (kn_bi (kn_lf ⟨_, sl_18_89, fun _ _ _ => rfl⟩) (kn_bi (kn_lf ⟨_, sl_18_91, fun _ _ _ => rfl⟩) (kn_lf ⟨_, sl_18_94, fun _ _ _ => rfl⟩))) (kn_bi (kn_bi (kn_lf ⟨_, sl_18_95, fun _ _ _ => rfl⟩) (kn_lf ⟨_, sl_18_97, fun _ _ _ => rfl⟩)) (kn_bi (kn_lf ⟨_, sl_18_99, fun _ _ _ => rfl⟩) (kn_lf ⟨_, sl_18_102, fun _ _ _ => rfl⟩)))) (kn_bi (kn_bi (kn_bi (kn_lf ⟨_, sl_18_103, fun _ _ _ => rfl⟩) (kn_lf ⟨_, sl_18_105, fun _ _ _ => rfl⟩)) (kn_bi (kn_lf ⟨_, sl_18_107, fun _ _ _ => rfl⟩) (kn_lf ⟨_, sl_18_110, fun _ _ _ => rfl⟩))) (kn_bi (kn_bi (kn_lf ⟨_, sl_18_111, fun _ _ _ => rfl⟩) (kn_lf ⟨_, sl_18_113, fun _ _ _ => rfl⟩)) (kn_bi (kn_lf ⟨_, sl_18_115, fun _ _ _ => rfl⟩) (kn_lf ⟨_, sl_18_118, fun _ _ _ => rfl⟩)))))))
noncomputable def kt_19 : Nat → Option kg_F := (kb 44 (kb 20 (kb 11 (kb 5 (kb 1 (kl 0 (kp (am_aload 0 1) 1)) (kb 4 (kl 1 (ki [] 0 0 6)) (kl 4 (kp (am_aload 0 1) 1)))) (kb 6 (kl 5 (kp (am_push (.int 4) 1) 1)) (kb 8 (kl 6 (ka 0)) (kl 8 (kh (ag_do at_O (ad_putf 10 0 (.array (.int))) 3)))))) (kb 15 (kb 12 (kl 11 (kp (am_aload 0 1) 1)) (kb 13 (kl 12 (kp (am_push (.int 4) 1) 1)) (kl 13 (ka 0)))) (kb 18 (kl 15 (kh (ag_do at_O (ad_putf 10 1 (.array (.int))) 3))) (kb 19 (kl 18 (kp (am_aload 0 1) 1)) (kl 19 (kp (am_push (.int 4) 1) 1)))))) (kb 32 (kb 26 (kb 22 (kl 20 (ka 0)) (kb 25 (kl 22 (kh (ag_do at_O (ad_putf 10 2 (.array (.int))) 3))) (kl 25 (kp (am_aload 0 1) 1)))) (kb 27 (kl 26 (kp (am_push (.int 4) 1) 1)) (kb 29 (kl 27 (ka 0)) (kl 29 (kh (ag_do at_O (ad_putf 10 3 (.array (.int))) 3)))))) (kb 37 (kb 33 (kl 32 (kp (am_aload 0 1) 1)) (kb 35 (kl 33 (kp (am_push (.int 8) 2) 1)) (kl 35 (ka 0)))) (kb 41 (kb 40 (kl 37 (kh (ag_do at_O (ad_putf 10 4 (.array (.int))) 3))) (kl 40 (kp (am_aload 0 1) 1))) (kb 42 (kl 41 (kp (am_push (.int 4) 1) 1)) (kl 42 (ka 1))))))) (kb 74 (kb 57 (kb 51 (kb 47 (kl 44 (kh (ag_do at_O (ad_putf 10 5 (.array (.long))) 3))) (kb 48 (kl 47 (kp (am_aload 0 1) 1)) (kl 48 (kp (am_push (.int 288) 3) 1)))) (kb 53 (kl 51 (ka 1)) (kb 56 (kl 53 (kh (ag_do at_O (ad_putf 10 6 (.array (.long))) 3))) (kl 56 (kp (am_aload 0 1) 1))))) (kb 65 (kb 60 (kl 57 (kp (am_push (.int 288) 3) 1)) (kb 62 (kl 60 (ka 1)) (kl 62 (kh (ag_do at_O (ad_putf 10 7 (.array (.long))) 3))))) (kb 69 (kb 66 (kl 65 (kp (am_aload 0 1) 1)) (kl 66 (kp (am_push (.int 288) 3) 1))) (kb 71 (kl 69 (ka 1)) (kl 71 (kh (ag_do at_O (ad_putf 10 8 (.array (.long))) 3))))))) (kb 85 (kb 79 (kb 75 (kl 74 (kp (am_aload 0 1) 1)) (kb 77 (kl 75 (kp (am_push (.int 72) 2) 1)) (kl 77 (ka 0)))) (kb 82 (kl 79 (kh (ag_do at_O (ad_putf 10 9 (.array (.int))) 3))) (kb 83 (kl 82 (kp (am_aload 0 1) 1)) (kl 83 (kp (am_push (.int 72) 2) 1))))) (kb 91 (kb 87 (kl 85 (ka 0)) (kb 90 (kl 87 (kh (ag_do at_O (ad_putf 10 10 (.array (.int))) 3))) (kl 90 (kp (am_aload 0 1) 1)))) (kb 95 (kb 93 (kl 91 (kp (am_push (.int 16) 2) 1)) (kl 93 (ka 0))) (kb 98 (kl 95 (kh (ag_do at_O (ad_putf 10 11 (.array (.int))) 3))) (kl 98 (kr (am_return (Option.none : Option FieldType))))))))))
theorem ke_19 (X : ag_X) (sio : Value) : ∀ pc F, kt_19 pc = some F → kg_P X (nm_E 0 (fun _ => 0) sio) pm_19 pc F := fun _ _ => (kn_bi (kn_bi (kn_bi (kn_bi (kn_bi (kn_lf ⟨_, sl_19_0, fun _ _ _ => rfl⟩) (kn_bi (kn_lf ⟨_, sl_19_1, fun _ _ _ => rfl⟩) (kn_lf ⟨_, sl_19_4, fun _ _ _ => rfl⟩))) (kn_bi (kn_lf ⟨_, sl_19_5, fun _ _ _ => rfl⟩) (kn_bi (kn_lf ⟨_, sl_19_6, fun _ _ _ => rfl⟩) (kn_lf ⟨_, sl_19_8, fun _ _ _ => rfl⟩)))) (kn_bi (kn_bi (kn_lf ⟨_, sl_19_11, fun _ _ _ => rfl⟩) (kn_bi (kn_lf ⟨_, sl_19_12, fun _ _ _ => rfl⟩) (kn_lf ⟨_, sl_19_13, fun _ _ _ => rfl⟩))) (kn_bi (kn_lf ⟨_, sl_19_15, fun _ _ _ => rfl⟩) (kn_bi (kn_lf ⟨_, sl_19_18, fun _ _ _ => rfl⟩) (kn_lf ⟨_, sl_19_19, fun _ _ _ => rfl⟩))))) (kn_bi (kn_bi (kn_bi (kn_lf ⟨_, sl_19_20, fun _ _ _ => rfl⟩) (kn_bi (kn_lf ⟨_, sl_19_22, fun _ _ _ => rfl⟩) (kn_lf ⟨_, sl_19_25, fun _ _ _ => rfl⟩))) (kn_bi (kn_lf ⟨_, sl_19_26, fun _ _ _ => rfl⟩) (kn_bi (kn_lf ⟨_, sl_19_27, fun _ _ _ => rfl⟩) (kn_lf ⟨_, sl_19_29, fun _ _ _ => rfl⟩)))) (kn_bi (kn_bi (kn_lf ⟨_, sl_19_32, fun _ _ _ => rfl⟩) (kn_bi (kn_lf ⟨_, sl_19_33, fun _ _ _ => rfl⟩) (kn_lf ⟨_, sl_19_35, fun _ _ _ => rfl⟩))) (kn_bi (kn_bi (kn_lf ⟨_, sl_19_37, fun _ _ _ => rfl⟩) (kn_lf ⟨_, sl_19_40, fun _ _ _ => rfl⟩)) (kn_bi (kn_lf ⟨_, sl_19_41, fun _ _ _ => rfl⟩) (kn_lf ⟨_, sl_19_42, fun _ _ _ => rfl⟩)))))) (kn_bi (kn_bi (kn_bi (kn_bi (kn_lf ⟨_, sl_19_44, fun _ _ _ => rfl⟩) (kn_bi (kn_lf ⟨_, sl_19_47, fun _ _ _ => rfl⟩) (kn_lf ⟨_, sl_19_48, fun _ _ _ => rfl⟩))) (kn_bi (kn_lf ⟨_, sl_19_51, fun _ _ _ => rfl⟩) (kn_bi (kn_lf ⟨_, sl_19_53, fun _ _ _ => rfl⟩) (kn_lf ⟨_, sl_19_56, fun _ _ _ => rfl⟩)))) (kn_bi (kn_bi (kn_lf ⟨_, sl_19_57, fun _ _ _ => rfl⟩) (kn_bi (kn_lf ⟨_, sl_19_60, fun _ _ _ => rfl⟩) (kn_lf ⟨_, sl_19_62, fun _ _ _ => rfl⟩))) (kn_bi (kn_bi (kn_lf ⟨_, sl_19_65, fun _ _ _ => rfl⟩) (kn_lf ⟨_, sl_19_66, fun _ _ _ => rfl⟩)) (kn_bi (kn_lf ⟨_, sl_19_69, fun _ _ _ => rfl⟩) (kn_lf ⟨_, sl_19_71, fun _ _ _ => rfl⟩))))) (kn_bi (kn_bi (kn_bi (kn_lf ⟨_, sl_19_74, fun _ _ _ => rfl⟩) (kn_bi (kn_lf ⟨_, sl_19_75, fun _ _ _ => rfl⟩) (kn_lf ⟨_, sl_19_77, fun _ _ _ => rfl⟩))) (kn_bi (kn_lf ⟨_, sl_19_79, fun _ _ _ => rfl⟩) (kn_bi (kn_lf ⟨_, sl_19_82, fun _ _ _ => rfl⟩) (kn_lf ⟨_, sl_19_83, fun _ _ _ => rfl⟩)))) (kn_bi (kn_bi (kn_lf ⟨_, sl_19_85, fun _ _ _ => rfl⟩) (kn_bi (kn_lf ⟨_, sl_19_87, fun _ _ _ => rfl⟩) (kn_lf ⟨_, sl_19_90, fun _ _ _ => rfl⟩))) (kn_bi (kn_bi (kn_lf ⟨_, sl_19_91, fun _ _ _ => rfl⟩) (kn_lf ⟨_, sl_19_93, fun _ _ _ => rfl⟩)) (kn_bi (kn_lf ⟨_, sl_19_95, fun _ _ _ => rfl⟩) (kn_lf ⟨_, sl_19_98, fun _ _ _ => rfl⟩)))))))
noncomputable def kt_20 : Nat → Option kg_F := (kb 34 (kb 17 (kb 7 (kb 4 (kb 1 (kl 0 (kp (am_aload 0 1) 3)) (kl 1 (ki [] 0 0 6))) (kb 5 (kl 4 (kp (am_aload 0 1) 3)) (kl 5 (kp (am_push (.int 9) 2) 3)))) (kb 12 (kb 9 (kl 7 (ka 0)) (kl 9 (kh (ag_do at_O (ad_putf 7 6 (.array (.int))) 3)))) (kb 13 (kl 12 (kp (am_aload 0 1) 3)) (kb 15 (kl 13 (kp (am_push (.int 9) 2) 3)) (kl 15 (ka 0)))))) (kb 25 (kb 21 (kb 20 (kl 17 (kh (ag_do at_O (ad_putf 7 7 (.array (.int))) 3))) (kl 20 (kp (am_aload 0 1) 3))) (kb 22 (kl 21 (kp (am_aload 1 1) 3)) (kl 22 (kh (ag_do at_O (ad_putf 7 0 (.object "PacketWorks$Text")) 3))))) (kb 27 (kb 26 (kl 25 (kp (am_aload 0 1) 3)) (kl 26 (kp (am_aload 2 1) 3))) (kb 30 (kl 27 (kh (ag_do at_O (ad_putf 7 1 (.object "PacketWorks$Program")) 3))) (kb 31 (kl 30 (kp (am_aload 0 1) 3)) (kl 31 (km [] 2 0 0))))))) (kb 51 (kb 40 (kb 36 (kb 35 (kl 34 (kp (am_dup) 3)) (kl 35 (kp (am_aload 1 1) 3))) (kb 37 (kl 36 (kp (am_aload 2 1) 3)) (kl 37 (ki [] 21 2 4)))) (kb 44 (kb 43 (kl 40 (kh (ag_do at_O (ad_putf 7 2 (.object "PacketWorks$Formulas")) 3))) (kl 43 (kp (am_aload 0 1) 3))) (kb 45 (kl 44 (kp (am_aload 2 1) 3)) (kb 48 (kl 45 (kh (ag_do at_O (ad_getf 6 10) 3))) (kl 48 (kh (ag_do at_O (ad_putf 7 3 (.object "PacketWorks$States")) 3))))))) (kb 59 (kb 53 (kb 52 (kl 51 (kp (am_aload 0 1) 3)) (kl 52 (kp (am_aload 2 1) 3))) (kb 56 (kl 53 (kh (ag_do at_O (ad_getf 6 11) 3))) (kl 56 (kh (ag_do at_O (ad_putf 7 4 (.object "PacketWorks$Actions")) 3))))) (kb 61 (kb 60 (kl 59 (kp (am_aload 0 1) 3)) (kl 60 (kp (am_aload 2 1) 3))) (kb 64 (kl 61 (kh (ag_do at_O (ad_getf 6 12) 3))) (kb 67 (kl 64 (kh (ag_do at_O (ad_putf 7 5 (.object "PacketWorks$Steps")) 3))) (kl 67 (kr (am_return (Option.none : Option FieldType))))))))))
theorem ke_20 (X : ag_X) (sio : Value) : ∀ pc F, kt_20 pc = some F → kg_P X (nm_E 0 (fun _ => 0) sio) pm_20 pc F := fun _ _ => (kn_bi (kn_bi (kn_bi (kn_bi (kn_bi (kn_lf ⟨_, sl_20_0, fun _ _ _ => rfl⟩) (kn_lf ⟨_, sl_20_1, fun _ _ _ => rfl⟩)) (kn_bi (kn_lf ⟨_, sl_20_4, fun _ _ _ => rfl⟩) (kn_lf ⟨_, sl_20_5, fun _ _ _ => rfl⟩))) (kn_bi (kn_bi (kn_lf ⟨_, sl_20_7, fun _ _ _ => rfl⟩) (kn_lf ⟨_, sl_20_9, fun _ _ _ => rfl⟩)) (kn_bi (kn_lf ⟨_, sl_20_12, fun _ _ _ => rfl⟩) (kn_bi (kn_lf ⟨_, sl_20_13, fun _ _ _ => rfl⟩) (kn_lf ⟨_, sl_20_15, fun _ _ _ => rfl⟩))))) (kn_bi (kn_bi (kn_bi (kn_lf ⟨_, sl_20_17, fun _ _ _ => rfl⟩) (kn_lf ⟨_, sl_20_20, fun _ _ _ => rfl⟩)) (kn_bi (kn_lf ⟨_, sl_20_21, fun _ _ _ => rfl⟩) (kn_lf ⟨_, sl_20_22, fun _ _ _ => rfl⟩))) (kn_bi (kn_bi (kn_lf ⟨_, sl_20_25, fun _ _ _ => rfl⟩) (kn_lf ⟨_, sl_20_26, fun _ _ _ => rfl⟩)) (kn_bi (kn_lf ⟨_, sl_20_27, fun _ _ _ => rfl⟩) (kn_bi (kn_lf ⟨_, sl_20_30, fun _ _ _ => rfl⟩) (kn_lf ⟨_, sl_20_31, fun _ _ _ => rfl⟩)))))) (kn_bi (kn_bi (kn_bi (kn_bi (kn_lf ⟨_, sl_20_34, fun _ _ _ => rfl⟩) (kn_lf ⟨_, sl_20_35, fun _ _ _ => rfl⟩)) (kn_bi (kn_lf ⟨_, sl_20_36, fun _ _ _ => rfl⟩) (kn_lf ⟨_, sl_20_37, fun _ _ _ => rfl⟩))) (kn_bi (kn_bi (kn_lf ⟨_, sl_20_40, fun _ _ _ => rfl⟩) (kn_lf ⟨_, sl_20_43, fun _ _ _ => rfl⟩)) (kn_bi (kn_lf ⟨_, sl_20_44, fun _ _ _ => rfl⟩) (kn_bi (kn_lf ⟨_, sl_20_45, fun _ _ _ => rfl⟩) (kn_lf ⟨_, sl_20_48, fun _ _ _ => rfl⟩))))) (kn_bi (kn_bi (kn_bi (kn_lf ⟨_, sl_20_51, fun _ _ _ => rfl⟩) (kn_lf ⟨_, sl_20_52, fun _ _ _ => rfl⟩)) (kn_bi (kn_lf ⟨_, sl_20_53, fun _ _ _ => rfl⟩) (kn_lf ⟨_, sl_20_56, fun _ _ _ => rfl⟩))) (kn_bi (kn_bi (kn_lf ⟨_, sl_20_59, fun _ _ _ => rfl⟩) (kn_lf ⟨_, sl_20_60, fun _ _ _ => rfl⟩)) (kn_bi (kn_lf ⟨_, sl_20_61, fun _ _ _ => rfl⟩) (kn_bi (kn_lf ⟨_, sl_20_64, fun _ _ _ => rfl⟩) (kn_lf ⟨_, sl_20_67, fun _ _ _ => rfl⟩)))))))
noncomputable def kt_21 : Nat → Option kg_F := (kb 26 (kb 13 (kb 5 (kb 1 (kl 0 (kp (am_aload 0 1) 3)) (kb 4 (kl 1 (ki [] 0 0 6)) (kl 4 (kp (am_aload 0 1) 3)))) (kb 8 (kl 5 (kp (am_push (.int 288) 3) 3)) (kb 10 (kl 8 (ka 0)) (kl 10 (kh (ag_do at_O (ad_putf 2 3 (.array (.int))) 3)))))) (kb 19 (kb 14 (kl 13 (kp (am_aload 0 1) 3)) (kb 17 (kl 14 (kp (am_push (.int 288) 3) 3)) (kl 17 (ka 0)))) (kb 22 (kl 19 (kh (ag_do at_O (ad_putf 2 4 (.array (.int))) 3))) (kb 23 (kl 22 (kp (am_aload 0 1) 3)) (kl 23 (kp (am_push (.int 576) 3) 3)))))) (kb 37 (kb 32 (kb 28 (kl 26 (ka 0)) (kb 31 (kl 28 (kh (ag_do at_O (ad_putf 2 5 (.array (.int))) 3))) (kl 31 (kp (am_aload 0 1) 3)))) (kb 33 (kl 32 (kp (am_aload 1 1) 3)) (kb 36 (kl 33 (kh (ag_do at_O (ad_putf 2 0 (.object "PacketWorks$Text")) 3))) (kl 36 (kp (am_aload 0 1) 3))))) (kb 42 (kb 38 (kl 37 (kp (am_aload 2 1) 3)) (kb 41 (kl 38 (kh (ag_do at_O (ad_putf 2 1 (.object "PacketWorks$Program")) 3))) (kl 41 (kp (am_aload 0 1) 3)))) (kb 46 (kb 43 (kl 42 (kp (am_aload 2 1) 3)) (kl 43 (kh (ag_do at_O (ad_getf 6 9) 3)))) (kb 49 (kl 46 (kh (ag_do at_O (ad_putf 2 2 (.object "PacketWorks$Nodes")) 3))) (kl 49 (kr (am_return (Option.none : Option FieldType)))))))))
theorem ke_21 (X : ag_X) (sio : Value) : ∀ pc F, kt_21 pc = some F → kg_P X (nm_E 0 (fun _ => 0) sio) pm_21 pc F := fun _ _ => (kn_bi (kn_bi (kn_bi (kn_bi (kn_lf ⟨_, sl_21_0, fun _ _ _ => rfl⟩) (kn_bi (kn_lf ⟨_, sl_21_1, fun _ _ _ => rfl⟩) (kn_lf ⟨_, sl_21_4, fun _ _ _ => rfl⟩))) (kn_bi (kn_lf ⟨_, sl_21_5, fun _ _ _ => rfl⟩) (kn_bi (kn_lf ⟨_, sl_21_8, fun _ _ _ => rfl⟩) (kn_lf ⟨_, sl_21_10, fun _ _ _ => rfl⟩)))) (kn_bi (kn_bi (kn_lf ⟨_, sl_21_13, fun _ _ _ => rfl⟩) (kn_bi (kn_lf ⟨_, sl_21_14, fun _ _ _ => rfl⟩) (kn_lf ⟨_, sl_21_17, fun _ _ _ => rfl⟩))) (kn_bi (kn_lf ⟨_, sl_21_19, fun _ _ _ => rfl⟩) (kn_bi (kn_lf ⟨_, sl_21_22, fun _ _ _ => rfl⟩) (kn_lf ⟨_, sl_21_23, fun _ _ _ => rfl⟩))))) (kn_bi (kn_bi (kn_bi (kn_lf ⟨_, sl_21_26, fun _ _ _ => rfl⟩) (kn_bi (kn_lf ⟨_, sl_21_28, fun _ _ _ => rfl⟩) (kn_lf ⟨_, sl_21_31, fun _ _ _ => rfl⟩))) (kn_bi (kn_lf ⟨_, sl_21_32, fun _ _ _ => rfl⟩) (kn_bi (kn_lf ⟨_, sl_21_33, fun _ _ _ => rfl⟩) (kn_lf ⟨_, sl_21_36, fun _ _ _ => rfl⟩)))) (kn_bi (kn_bi (kn_lf ⟨_, sl_21_37, fun _ _ _ => rfl⟩) (kn_bi (kn_lf ⟨_, sl_21_38, fun _ _ _ => rfl⟩) (kn_lf ⟨_, sl_21_41, fun _ _ _ => rfl⟩))) (kn_bi (kn_bi (kn_lf ⟨_, sl_21_42, fun _ _ _ => rfl⟩) (kn_lf ⟨_, sl_21_43, fun _ _ _ => rfl⟩)) (kn_bi (kn_lf ⟨_, sl_21_46, fun _ _ _ => rfl⟩) (kn_lf ⟨_, sl_21_49, fun _ _ _ => rfl⟩))))))
noncomputable def kt_22 : Nat → Option kg_F := (kb 20 (kb 8 (kb 4 (kb 1 (kl 0 (kp (am_aload 0 1) 2)) (kl 1 (ki [] 0 0 6))) (kb 5 (kl 4 (kp (am_aload 0 1) 2)) (kl 5 (kp (am_push (.int 128) 3) 2)))) (kb 14 (kb 11 (kl 8 (kq 5)) (kl 11 (kh (ag_do at_O (ad_putf 5 1 (.array (.object "PacketWorks$Operation"))) 3)))) (kb 15 (kl 14 (kp (am_aload 0 1) 2)) (kb 17 (kl 15 (kp (am_push (.int 12) 2) 2)) (kl 17 (kq 5)))))) (kb 29 (kb 24 (kb 23 (kl 20 (kh (ag_do at_O (ad_putf 5 2 (.array (.object "PacketWorks$Operation"))) 3))) (kl 23 (kp (am_aload 0 1) 2))) (kb 27 (kl 24 (kp (am_push (.int 512) 3) 2)) (kl 27 (ka 1)))) (kb 33 (kb 32 (kl 29 (kh (ag_do at_O (ad_putf 5 3 (.array (.long))) 3))) (kl 32 (kp (am_aload 0 1) 2))) (kb 34 (kl 33 (kp (am_aload 1 1) 2)) (kb 37 (kl 34 (kh (ag_do at_O (ad_putf 5 0 (.object "PacketWorks$Program")) 3))) (kl 37 (kr (am_return (Option.none : Option FieldType)))))))))
theorem ke_22 (X : ag_X) (sio : Value) : ∀ pc F, kt_22 pc = some F → kg_P X (nm_E 0 (fun _ => 0) sio) pm_22 pc F := fun _ _ => (kn_bi (kn_bi (kn_bi (kn_bi (kn_lf ⟨_, sl_22_0, fun _ _ _ => rfl⟩) (kn_lf ⟨_, sl_22_1, fun _ _ _ => rfl⟩)) (kn_bi (kn_lf ⟨_, sl_22_4, fun _ _ _ => rfl⟩) (kn_lf ⟨_, sl_22_5, fun _ _ _ => rfl⟩))) (kn_bi (kn_bi (kn_lf ⟨_, sl_22_8, fun _ _ _ => rfl⟩) (kn_lf ⟨_, sl_22_11, fun _ _ _ => rfl⟩)) (kn_bi (kn_lf ⟨_, sl_22_14, fun _ _ _ => rfl⟩) (kn_bi (kn_lf ⟨_, sl_22_15, fun _ _ _ => rfl⟩) (kn_lf ⟨_, sl_22_17, fun _ _ _ => rfl⟩))))) (kn_bi (kn_bi (kn_bi (kn_lf ⟨_, sl_22_20, fun _ _ _ => rfl⟩) (kn_lf ⟨_, sl_22_23, fun _ _ _ => rfl⟩)) (kn_bi (kn_lf ⟨_, sl_22_24, fun _ _ _ => rfl⟩) (kn_lf ⟨_, sl_22_27, fun _ _ _ => rfl⟩))) (kn_bi (kn_bi (kn_lf ⟨_, sl_22_29, fun _ _ _ => rfl⟩) (kn_lf ⟨_, sl_22_32, fun _ _ _ => rfl⟩)) (kn_bi (kn_lf ⟨_, sl_22_33, fun _ _ _ => rfl⟩) (kn_bi (kn_lf ⟨_, sl_22_34, fun _ _ _ => rfl⟩) (kn_lf ⟨_, sl_22_37, fun _ _ _ => rfl⟩))))))
noncomputable def kt_206 : Nat → Option kg_F := (kb 1079 (kb 515 (kb 255 (kb 126 (kb 62 (kb 31 (kb 17 (kb 10 (kb 4 (kb 1 (kl 0 (kp (am_aload 0 1) 1)) (kl 1 (ki [] 0 0 6))) (kb 5 (kl 4 (kp (am_aload 0 1) 1)) (kb 8 (kl 5 (kp (am_push (.int 178) 3) 1)) (kl 8 (ka 0))))) (kb 14 (kb 11 (kl 10 (kp (am_dup) 1)) (kb 12 (kl 11 (kp (am_push (.int 0) 1) 1)) (kl 12 (kp (am_push (.int 104) 2) 1)))) (kb 15 (kl 14 (kh (ag_do at_O ad_iast 1))) (kb 16 (kl 15 (kp (am_dup) 1)) (kl 16 (kp (am_push (.int 1) 1) 1)))))) (kb 24 (kb 20 (kb 19 (kl 17 (kp (am_push (.int 101) 2) 1)) (kl 19 (kh (ag_do at_O ad_iast 1)))) (kb 21 (kl 20 (kp (am_dup) 1)) (kb 22 (kl 21 (kp (am_push (.int 2) 1) 1)) (kl 22 (kp (am_push (.int 97) 2) 1))))) (kb 27 (kb 25 (kl 24 (kh (ag_do at_O ad_iast 1))) (kb 26 (kl 25 (kp (am_dup) 1)) (kl 26 (kp (am_push (.int 3) 1) 1)))) (kb 29 (kl 27 (kp (am_push (.int 100) 2) 1)) (kb 30 (kl 29 (kh (ag_do at_O ad_iast 1))) (kl 30 (kp (am_dup) 1))))))) (kb 45 (kb 37 (kb 34 (kb 32 (kl 31 (kp (am_push (.int 4) 1) 1)) (kl 32 (kp (am_push (.int 101) 2) 1))) (kb 35 (kl 34 (kh (ag_do at_O ad_iast 1))) (kb 36 (kl 35 (kp (am_dup) 1)) (kl 36 (kp (am_push (.int 5) 1) 1))))) (kb 41 (kb 39 (kl 37 (kp (am_push (.int 114) 2) 1)) (kb 40 (kl 39 (kh (ag_do at_O ad_iast 1))) (kl 40 (kp (am_dup) 1)))) (kb 43 (kl 41 (kp (am_push (.int 6) 2) 1)) (kb 44 (kl 43 (kp (am_push (.int 0) 1) 1)) (kl 44 (kh (ag_do at_O ad_iast 1))))))) (kb 52 (kb 48 (kb 46 (kl 45 (kp (am_dup) 1)) (kl 46 (kp (am_push (.int 7) 2) 1))) (kb 50 (kl 48 (kp (am_push (.int 117) 2) 1)) (kb 51 (kl 50 (kh (ag_do at_O ad_iast 1))) (kl 51 (kp (am_dup) 1))))) (kb 57 (kb 54 (kl 52 (kp (am_push (.int 8) 2) 1)) (kb 56 (kl 54 (kp (am_push (.int 115) 2) 1)) (kl 56 (kh (ag_do at_O ad_iast 1))))) (kb 58 (kl 57 (kp (am_dup) 1)) (kb 60 (kl 58 (kp (am_push (.int 9) 2) 1)) (kl 60 (kp (am_push (.int 101) 2) 1)))))))) (kb 93 (kb 77 (kb 68 (kb 64 (kb 63 (kl 62 (kh (ag_do at_O ad_iast 1))) (kl 63 (kp (am_dup) 1))) (kb 66 (kl 64 (kp (am_push (.int 10) 2) 1)) (kb 67 (kl 66 (kp (am_push (.int 0) 1) 1)) (kl 67 (kh (ag_do at_O ad_iast 1)))))) (kb 73 (kb 69 (kl 68 (kp (am_dup) 1)) (kb 71 (kl 69 (kp (am_push (.int 11) 2) 1)) (kl 71 (kp (am_push (.int 109) 2) 1)))) (kb 74 (kl 73 (kh (ag_do at_O ad_iast 1))) (kb 75 (kl 74 (kp (am_dup) 1)) (kl 75 (kp (am_push (.int 12) 2) 1)))))) (kb 85 (kb 80 (kb 79 (kl 77 (kp (am_push (.int 101) 2) 1)) (kl 79 (kh (ag_do at_O ad_iast 1)))) (kb 81 (kl 80 (kp (am_dup) 1)) (kb 83 (kl 81 (kp (am_push (.int 13) 2) 1)) (kl 83 (kp (am_push (.int 116) 2) 1))))) (kb 89 (kb 86 (kl 85 (kh (ag_do at_O ad_iast 1))) (kb 87 (kl 86 (kp (am_dup) 1)) (kl 87 (kp (am_push (.int 14) 2) 1)))) (kb 91 (kl 89 (kp (am_push (.int 97) 2) 1)) (kb 92 (kl 91 (kh (ag_do at_O ad_iast 1))) (kl 92 (kp (am_dup) 1))))))) (kb 109 (kb 100 (kb 96 (kb 95 (kl 93 (kp (am_push (.int 15) 2) 1)) (kl 95 (kp (am_push (.int 0) 1) 1))) (kb 97 (kl 96 (kh (ag_do at_O ad_iast 1))) (kb 98 (kl 97 (kp (am_dup) 1)) (kl 98 (kp (am_push (.int 16) 2) 1))))) (kb 104 (kb 102 (kl 100 (kp (am_push (.int 97) 2) 1)) (kb 103 (kl 102 (kh (ag_do at_O ad_iast 1))) (kl 103 (kp (am_dup) 1)))) (kb 106 (kl 104 (kp (am_push (.int 17) 2) 1)) (kb 108 (kl 106 (kp (am_push (.int 114) 2) 1)) (kl 108 (kh (ag_do at_O ad_iast 1))))))) (kb 116 (kb 112 (kb 110 (kl 109 (kp (am_dup) 1)) (kl 110 (kp (am_push (.int 18) 2) 1))) (kb 114 (kl 112 (kp (am_push (.int 114) 2) 1)) (kb 115 (kl 114 (kh (ag_do at_O ad_iast 1))) (kl 115 (kp (am_dup) 1))))) (kb 121 (kb 118 (kl 116 (kp (am_push (.int 19) 2) 1)) (kb 120 (kl 118 (kp (am_push (.int 97) 2) 1)) (kl 120 (kh (ag_do at_O ad_iast 1))))) (kb 122 (kl 121 (kp (am_dup) 1)) (kb 124 (kl 122 (kp (am_push (.int 20) 2) 1)) (kl 124 (kp (am_push (.int 121) 2) 1))))))))) (kb 190 (kb 157 (kb 141 (kb 132 (kb 128 (kb 127 (kl 126 (kh (ag_do at_O ad_iast 1))) (kl 127 (kp (am_dup) 1))) (kb 130 (kl 128 (kp (am_push (.int 21) 2) 1)) (kb 131 (kl 130 (kp (am_push (.int 0) 1) 1)) (kl 131 (kh (ag_do at_O ad_iast 1)))))) (kb 137 (kb 133 (kl 132 (kp (am_dup) 1)) (kb 135 (kl 133 (kp (am_push (.int 22) 2) 1)) (kl 135 (kp (am_push (.int 115) 2) 1)))) (kb 138 (kl 137 (kh (ag_do at_O ad_iast 1))) (kb 139 (kl 138 (kp (am_dup) 1)) (kl 139 (kp (am_push (.int 23) 2) 1)))))) (kb 149 (kb 144 (kb 143 (kl 141 (kp (am_push (.int 116) 2) 1)) (kl 143 (kh (ag_do at_O ad_iast 1)))) (kb 145 (kl 144 (kp (am_dup) 1)) (kb 147 (kl 145 (kp (am_push (.int 24) 2) 1)) (kl 147 (kp (am_push (.int 97) 2) 1))))) (kb 153 (kb 150 (kl 149 (kh (ag_do at_O ad_iast 1))) (kb 151 (kl 150 (kp (am_dup) 1)) (kl 151 (kp (am_push (.int 25) 2) 1)))) (kb 155 (kl 153 (kp (am_push (.int 116) 2) 1)) (kb 156 (kl 155 (kh (ag_do at_O ad_iast 1))) (kl 156 (kp (am_dup) 1))))))) (kb 173 (kb 165 (kb 161 (kb 159 (kl 157 (kp (am_push (.int 26) 2) 1)) (kl 159 (kp (am_push (.int 101) 2) 1))) (kb 162 (kl 161 (kh (ag_do at_O ad_iast 1))) (kb 163 (kl 162 (kp (am_dup) 1)) (kl 163 (kp (am_push (.int 27) 2) 1))))) (kb 168 (kb 166 (kl 165 (kp (am_push (.int 0) 1) 1)) (kb 167 (kl 166 (kh (ag_do at_O ad_iast 1))) (kl 167 (kp (am_dup) 1)))) (kb 170 (kl 168 (kp (am_push (.int 28) 2) 1)) (kb 172 (kl 170 (kp (am_push (.int 101) 2) 1)) (kl 172 (kh (ag_do at_O ad_iast 1))))))) (kb 180 (kb 176 (kb 174 (kl 173 (kp (am_dup) 1)) (kl 174 (kp (am_push (.int 29) 2) 1))) (kb 178 (kl 176 (kp (am_push (.int 120) 2) 1)) (kb 179 (kl 178 (kh (ag_do at_O ad_iast 1))) (kl 179 (kp (am_dup) 1))))) (kb 185 (kb 182 (kl 180 (kp (am_push (.int 30) 2) 1)) (kb 184 (kl 182 (kp (am_push (.int 116) 2) 1)) (kl 184 (kh (ag_do at_O ad_iast 1))))) (kb 186 (kl 185 (kp (am_dup) 1)) (kb 188 (kl 186 (kp (am_push (.int 31) 2) 1)) (kl 188 (kp (am_push (.int 114) 2) 1)))))))) (kb 221 (kb 206 (kb 197 (kb 192 (kb 191 (kl 190 (kh (ag_do at_O ad_iast 1))) (kl 191 (kp (am_dup) 1))) (kb 194 (kl 192 (kp (am_push (.int 32) 2) 1)) (kb 196 (kl 194 (kp (am_push (.int 97) 2) 1)) (kl 196 (kh (ag_do at_O ad_iast 1)))))) (kb 202 (kb 198 (kl 197 (kp (am_dup) 1)) (kb 200 (kl 198 (kp (am_push (.int 33) 2) 1)) (kl 200 (kp (am_push (.int 99) 2) 1)))) (kb 203 (kl 202 (kh (ag_do at_O ad_iast 1))) (kb 204 (kl 203 (kp (am_dup) 1)) (kl 204 (kp (am_push (.int 34) 2) 1)))))) (kb 213 (kb 209 (kb 208 (kl 206 (kp (am_push (.int 116) 2) 1)) (kl 208 (kh (ag_do at_O ad_iast 1)))) (kb 210 (kl 209 (kp (am_dup) 1)) (kb 212 (kl 210 (kp (am_push (.int 35) 2) 1)) (kl 212 (kp (am_push (.int 0) 1) 1))))) (kb 217 (kb 214 (kl 213 (kh (ag_do at_O ad_iast 1))) (kb 215 (kl 214 (kp (am_dup) 1)) (kl 215 (kp (am_push (.int 36) 2) 1)))) (kb 219 (kl 217 (kp (am_push (.int 103) 2) 1)) (kb 220 (kl 219 (kh (ag_do at_O ad_iast 1))) (kl 220 (kp (am_dup) 1))))))) (kb 238 (kb 229 (kb 225 (kb 223 (kl 221 (kp (am_push (.int 37) 2) 1)) (kl 223 (kp (am_push (.int 111) 2) 1))) (kb 226 (kl 225 (kh (ag_do at_O ad_iast 1))) (kb 227 (kl 226 (kp (am_dup) 1)) (kl 227 (kp (am_push (.int 38) 2) 1))))) (kb 233 (kb 231 (kl 229 (kp (am_push (.int 116) 2) 1)) (kb 232 (kl 231 (kh (ag_do at_O ad_iast 1))) (kl 232 (kp (am_dup) 1)))) (kb 235 (kl 233 (kp (am_push (.int 39) 2) 1)) (kb 237 (kl 235 (kp (am_push (.int 111) 2) 1)) (kl 237 (kh (ag_do at_O ad_iast 1))))))) (kb 246 (kb 242 (kb 239 (kl 238 (kp (am_dup) 1)) (kb 241 (kl 239 (kp (am_push (.int 40) 2) 1)) (kl 241 (kp (am_push (.int 0) 1) 1)))) (kb 243 (kl 242 (kh (ag_do at_O ad_iast 1))) (kb 244 (kl 243 (kp (am_dup) 1)) (kl 244 (kp (am_push (.int 41) 2) 1))))) (kb 250 (kb 248 (kl 246 (kp (am_push (.int 115) 2) 1)) (kb 249 (kl 248 (kh (ag_do at_O ad_iast 1))) (kl 249 (kp (am_dup) 1)))) (kb 252 (kl 250 (kp (am_push (.int 42) 2) 1)) (kb 254 (kl 252 (kp (am_push (.int 101) 2) 1)) (kl 254 (kh (ag_do at_O ad_iast 1))))))))))) (kb 385 (kb 320 (kb 287 (kb 272 (kb 262 (kb 258 (kb 256 (kl 255 (kp (am_dup) 1)) (kl 256 (kp (am_push (.int 43) 2) 1))) (kb 260 (kl 258 (kp (am_push (.int 108) 2) 1)) (kb 261 (kl 260 (kh (ag_do at_O ad_iast 1))) (kl 261 (kp (am_dup) 1))))) (kb 267 (kb 264 (kl 262 (kp (am_push (.int 44) 2) 1)) (kb 266 (kl 264 (kp (am_push (.int 101) 2) 1)) (kl 266 (kh (ag_do at_O ad_iast 1))))) (kb 268 (kl 267 (kp (am_dup) 1)) (kb 270 (kl 268 (kp (am_push (.int 45) 2) 1)) (kl 270 (kp (am_push (.int 99) 2) 1)))))) (kb 279 (kb 274 (kb 273 (kl 272 (kh (ag_do at_O ad_iast 1))) (kl 273 (kp (am_dup) 1))) (kb 276 (kl 274 (kp (am_push (.int 46) 2) 1)) (kb 278 (kl 276 (kp (am_push (.int 116) 2) 1)) (kl 278 (kh (ag_do at_O ad_iast 1)))))) (kb 283 (kb 280 (kl 279 (kp (am_dup) 1)) (kb 282 (kl 280 (kp (am_push (.int 47) 2) 1)) (kl 282 (kp (am_push (.int 0) 1) 1)))) (kb 284 (kl 283 (kh (ag_do at_O ad_iast 1))) (kb 285 (kl 284 (kp (am_dup) 1)) (kl 285 (kp (am_push (.int 48) 2) 1))))))) (kb 303 (kb 295 (kb 290 (kb 289 (kl 287 (kp (am_push (.int 100) 2) 1)) (kl 289 (kh (ag_do at_O ad_iast 1)))) (kb 291 (kl 290 (kp (am_dup) 1)) (kb 293 (kl 291 (kp (am_push (.int 49) 2) 1)) (kl 293 (kp (am_push (.int 101) 2) 1))))) (kb 299 (kb 296 (kl 295 (kh (ag_do at_O ad_iast 1))) (kb 297 (kl 296 (kp (am_dup) 1)) (kl 297 (kp (am_push (.int 50) 2) 1)))) (kb 301 (kl 299 (kp (am_push (.int 102) 2) 1)) (kb 302 (kl 301 (kh (ag_do at_O ad_iast 1))) (kl 302 (kp (am_dup) 1)))))) (kb 311 (kb 307 (kb 305 (kl 303 (kp (am_push (.int 51) 2) 1)) (kl 305 (kp (am_push (.int 97) 2) 1))) (kb 308 (kl 307 (kh (ag_do at_O ad_iast 1))) (kb 309 (kl 308 (kp (am_dup) 1)) (kl 309 (kp (am_push (.int 52) 2) 1))))) (kb 315 (kb 313 (kl 311 (kp (am_push (.int 117) 2) 1)) (kb 314 (kl 313 (kh (ag_do at_O ad_iast 1))) (kl 314 (kp (am_dup) 1)))) (kb 317 (kl 315 (kp (am_push (.int 53) 2) 1)) (kb 319 (kl 317 (kp (am_push (.int 108) 2) 1)) (kl 319 (kh (ag_do at_O ad_iast 1))))))))) (kb 352 (kb 336 (kb 327 (kb 323 (kb 321 (kl 320 (kp (am_dup) 1)) (kl 321 (kp (am_push (.int 54) 2) 1))) (kb 325 (kl 323 (kp (am_push (.int 116) 2) 1)) (kb 326 (kl 325 (kh (ag_do at_O ad_iast 1))) (kl 326 (kp (am_dup) 1))))) (kb 331 (kb 329 (kl 327 (kp (am_push (.int 55) 2) 1)) (kb 330 (kl 329 (kp (am_push (.int 0) 1) 1)) (kl 330 (kh (ag_do at_O ad_iast 1))))) (kb 332 (kl 331 (kp (am_dup) 1)) (kb 334 (kl 332 (kp (am_push (.int 56) 2) 1)) (kl 334 (kp (am_push (.int 97) 2) 1)))))) (kb 343 (kb 338 (kb 337 (kl 336 (kh (ag_do at_O ad_iast 1))) (kl 337 (kp (am_dup) 1))) (kb 340 (kl 338 (kp (am_push (.int 57) 2) 1)) (kb 342 (kl 340 (kp (am_push (.int 99) 2) 1)) (kl 342 (kh (ag_do at_O ad_iast 1)))))) (kb 348 (kb 344 (kl 343 (kp (am_dup) 1)) (kb 346 (kl 344 (kp (am_push (.int 58) 2) 1)) (kl 346 (kp (am_push (.int 116) 2) 1)))) (kb 349 (kl 348 (kh (ag_do at_O ad_iast 1))) (kb 350 (kl 349 (kp (am_dup) 1)) (kl 350 (kp (am_push (.int 59) 2) 1))))))) (kb 368 (kb 360 (kb 355 (kb 354 (kl 352 (kp (am_push (.int 105) 2) 1)) (kl 354 (kh (ag_do at_O ad_iast 1)))) (kb 356 (kl 355 (kp (am_dup) 1)) (kb 358 (kl 356 (kp (am_push (.int 60) 2) 1)) (kl 358 (kp (am_push (.int 111) 2) 1))))) (kb 364 (kb 361 (kl 360 (kh (ag_do at_O ad_iast 1))) (kb 362 (kl 361 (kp (am_dup) 1)) (kl 362 (kp (am_push (.int 61) 2) 1)))) (kb 366 (kl 364 (kp (am_push (.int 110) 2) 1)) (kb 367 (kl 366 (kh (ag_do at_O ad_iast 1))) (kl 367 (kp (am_dup) 1)))))) (kb 377 (kb 372 (kb 370 (kl 368 (kp (am_push (.int 62) 2) 1)) (kb 371 (kl 370 (kp (am_push (.int 0) 1) 1)) (kl 371 (kh (ag_do at_O ad_iast 1))))) (kb 373 (kl 372 (kp (am_dup) 1)) (kb 375 (kl 373 (kp (am_push (.int 63) 2) 1)) (kl 375 (kp (am_push (.int 116) 2) 1))))) (kb 381 (kb 378 (kl 377 (kh (ag_do at_O ad_iast 1))) (kb 379 (kl 378 (kp (am_dup) 1)) (kl 379 (kp (am_push (.int 64) 2) 1)))) (kb 383 (kl 381 (kp (am_push (.int 97) 2) 1)) (kb 384 (kl 383 (kh (ag_do at_O ad_iast 1))) (kl 384 (kp (am_dup) 1))))))))) (kb 449 (kb 418 (kb 402 (kb 393 (kb 389 (kb 387 (kl 385 (kp (am_push (.int 65) 2) 1)) (kl 387 (kp (am_push (.int 98) 2) 1))) (kb 390 (kl 389 (kh (ag_do at_O ad_iast 1))) (kb 391 (kl 390 (kp (am_dup) 1)) (kl 391 (kp (am_push (.int 66) 2) 1))))) (kb 397 (kb 395 (kl 393 (kp (am_push (.int 108) 2) 1)) (kb 396 (kl 395 (kh (ag_do at_O ad_iast 1))) (kl 396 (kp (am_dup) 1)))) (kb 399 (kl 397 (kp (am_push (.int 67) 2) 1)) (kb 401 (kl 399 (kp (am_push (.int 101) 2) 1)) (kl 401 (kh (ag_do at_O ad_iast 1))))))) (kb 408 (kb 405 (kb 403 (kl 402 (kp (am_dup) 1)) (kl 403 (kp (am_push (.int 68) 2) 1))) (kb 406 (kl 405 (kp (am_push (.int 0) 1) 1)) (kb 407 (kl 406 (kh (ag_do at_O ad_iast 1))) (kl 407 (kp (am_dup) 1))))) (kb 413 (kb 410 (kl 408 (kp (am_push (.int 69) 2) 1)) (kb 412 (kl 410 (kp (am_push (.int 107) 2) 1)) (kl 412 (kh (ag_do at_O ad_iast 1))))) (kb 414 (kl 413 (kp (am_dup) 1)) (kb 416 (kl 414 (kp (am_push (.int 70) 2) 1)) (kl 416 (kp (am_push (.int 101) 2) 1))))))) (kb 433 (kb 425 (kb 420 (kb 419 (kl 418 (kh (ag_do at_O ad_iast 1))) (kl 419 (kp (am_dup) 1))) (kb 422 (kl 420 (kp (am_push (.int 71) 2) 1)) (kb 424 (kl 422 (kp (am_push (.int 121) 2) 1)) (kl 424 (kh (ag_do at_O ad_iast 1)))))) (kb 429 (kb 426 (kl 425 (kp (am_dup) 1)) (kb 428 (kl 426 (kp (am_push (.int 72) 2) 1)) (kl 428 (kp (am_push (.int 0) 1) 1)))) (kb 430 (kl 429 (kh (ag_do at_O ad_iast 1))) (kb 431 (kl 430 (kp (am_dup) 1)) (kl 431 (kp (am_push (.int 73) 2) 1)))))) (kb 441 (kb 436 (kb 435 (kl 433 (kp (am_push (.int 101) 2) 1)) (kl 435 (kh (ag_do at_O ad_iast 1)))) (kb 437 (kl 436 (kp (am_dup) 1)) (kb 439 (kl 437 (kp (am_push (.int 74) 2) 1)) (kl 439 (kp (am_push (.int 120) 2) 1))))) (kb 445 (kb 442 (kl 441 (kh (ag_do at_O ad_iast 1))) (kb 443 (kl 442 (kp (am_dup) 1)) (kl 443 (kp (am_push (.int 75) 2) 1)))) (kb 447 (kl 445 (kp (am_push (.int 97) 2) 1)) (kb 448 (kl 447 (kh (ag_do at_O ad_iast 1))) (kl 448 (kp (am_dup) 1)))))))) (kb 482 (kb 465 (kb 457 (kb 453 (kb 451 (kl 449 (kp (am_push (.int 76) 2) 1)) (kl 451 (kp (am_push (.int 99) 2) 1))) (kb 454 (kl 453 (kh (ag_do at_O ad_iast 1))) (kb 455 (kl 454 (kp (am_dup) 1)) (kl 455 (kp (am_push (.int 77) 2) 1))))) (kb 461 (kb 459 (kl 457 (kp (am_push (.int 116) 2) 1)) (kb 460 (kl 459 (kh (ag_do at_O ad_iast 1))) (kl 460 (kp (am_dup) 1)))) (kb 463 (kl 461 (kp (am_push (.int 78) 2) 1)) (kb 464 (kl 463 (kp (am_push (.int 0) 1) 1)) (kl 464 (kh (ag_do at_O ad_iast 1))))))) (kb 472 (kb 468 (kb 466 (kl 465 (kp (am_dup) 1)) (kl 466 (kp (am_push (.int 79) 2) 1))) (kb 470 (kl 468 (kp (am_push (.int 112) 2) 1)) (kb 471 (kl 470 (kh (ag_do at_O ad_iast 1))) (kl 471 (kp (am_dup) 1))))) (kb 477 (kb 474 (kl 472 (kp (am_push (.int 80) 2) 1)) (kb 476 (kl 474 (kp (am_push (.int 114) 2) 1)) (kl 476 (kh (ag_do at_O ad_iast 1))))) (kb 478 (kl 477 (kp (am_dup) 1)) (kb 480 (kl 478 (kp (am_push (.int 81) 2) 1)) (kl 480 (kp (am_push (.int 101) 2) 1))))))) (kb 498 (kb 489 (kb 484 (kb 483 (kl 482 (kh (ag_do at_O ad_iast 1))) (kl 483 (kp (am_dup) 1))) (kb 486 (kl 484 (kp (am_push (.int 82) 2) 1)) (kb 488 (kl 486 (kp (am_push (.int 102) 2) 1)) (kl 488 (kh (ag_do at_O ad_iast 1)))))) (kb 494 (kb 490 (kl 489 (kp (am_dup) 1)) (kb 492 (kl 490 (kp (am_push (.int 83) 2) 1)) (kl 492 (kp (am_push (.int 105) 2) 1)))) (kb 495 (kl 494 (kh (ag_do at_O ad_iast 1))) (kb 496 (kl 495 (kp (am_dup) 1)) (kl 496 (kp (am_push (.int 84) 2) 1)))))) (kb 506 (kb 502 (kb 500 (kl 498 (kp (am_push (.int 120) 2) 1)) (kb 501 (kl 500 (kh (ag_do at_O ad_iast 1))) (kl 501 (kp (am_dup) 1)))) (kb 504 (kl 502 (kp (am_push (.int 85) 2) 1)) (kb 505 (kl 504 (kp (am_push (.int 0) 1) 1)) (kl 505 (kh (ag_do at_O ad_iast 1)))))) (kb 511 (kb 507 (kl 506 (kp (am_dup) 1)) (kb 509 (kl 507 (kp (am_push (.int 86) 2) 1)) (kl 509 (kp (am_push (.int 109) 2) 1)))) (kb 512 (kl 511 (kh (ag_do at_O ad_iast 1))) (kb 513 (kl 512 (kp (am_dup) 1)) (kl 513 (kp (am_push (.int 87) 2) 1))))))))))) (kb 778 (kb 644 (kb 580 (kb 547 (kb 531 (kb 523 (kb 518 (kb 517 (kl 515 (kp (am_push (.int 97) 2) 1)) (kl 517 (kh (ag_do at_O ad_iast 1)))) (kb 519 (kl 518 (kp (am_dup) 1)) (kb 521 (kl 519 (kp (am_push (.int 88) 2) 1)) (kl 521 (kp (am_push (.int 115) 2) 1))))) (kb 527 (kb 524 (kl 523 (kh (ag_do at_O ad_iast 1))) (kb 525 (kl 524 (kp (am_dup) 1)) (kl 525 (kp (am_push (.int 89) 2) 1)))) (kb 529 (kl 527 (kp (am_push (.int 107) 2) 1)) (kb 530 (kl 529 (kh (ag_do at_O ad_iast 1))) (kl 530 (kp (am_dup) 1)))))) (kb 539 (kb 535 (kb 533 (kl 531 (kp (am_push (.int 90) 2) 1)) (kl 533 (kp (am_push (.int 101) 2) 1))) (kb 536 (kl 535 (kh (ag_do at_O ad_iast 1))) (kb 537 (kl 536 (kp (am_dup) 1)) (kl 537 (kp (am_push (.int 91) 2) 1))))) (kb 543 (kb 541 (kl 539 (kp (am_push (.int 100) 2) 1)) (kb 542 (kl 541 (kh (ag_do at_O ad_iast 1))) (kl 542 (kp (am_dup) 1)))) (kb 545 (kl 543 (kp (am_push (.int 92) 2) 1)) (kb 546 (kl 545 (kp (am_push (.int 0) 1) 1)) (kl 546 (kh (ag_do at_O ad_iast 1)))))))) (kb 564 (kb 554 (kb 550 (kb 548 (kl 547 (kp (am_dup) 1)) (kl 548 (kp (am_push (.int 93) 2) 1))) (kb 552 (kl 550 (kp (am_push (.int 97) 2) 1)) (kb 553 (kl 552 (kh (ag_do at_O ad_iast 1))) (kl 553 (kp (am_dup) 1))))) (kb 559 (kb 556 (kl 554 (kp (am_push (.int 94) 2) 1)) (kb 558 (kl 556 (kp (am_push (.int 99) 2) 1)) (kl 558 (kh (ag_do at_O ad_iast 1))))) (kb 560 (kl 559 (kp (am_dup) 1)) (kb 562 (kl 560 (kp (am_push (.int 95) 2) 1)) (kl 562 (kp (am_push (.int 116) 2) 1)))))) (kb 571 (kb 566 (kb 565 (kl 564 (kh (ag_do at_O ad_iast 1))) (kl 565 (kp (am_dup) 1))) (kb 568 (kl 566 (kp (am_push (.int 96) 2) 1)) (kb 570 (kl 568 (kp (am_push (.int 105) 2) 1)) (kl 570 (kh (ag_do at_O ad_iast 1)))))) (kb 576 (kb 572 (kl 571 (kp (am_dup) 1)) (kb 574 (kl 572 (kp (am_push (.int 97) 2) 1)) (kl 574 (kp (am_push (.int 111) 2) 1)))) (kb 577 (kl 576 (kh (ag_do at_O ad_iast 1))) (kb 578 (kl 577 (kp (am_dup) 1)) (kl 578 (kp (am_push (.int 98) 2) 1)))))))) (kb 612 (kb 595 (kb 588 (kb 583 (kb 582 (kl 580 (kp (am_push (.int 110) 2) 1)) (kl 582 (kh (ag_do at_O ad_iast 1)))) (kb 584 (kl 583 (kp (am_dup) 1)) (kb 586 (kl 584 (kp (am_push (.int 99) 2) 1)) (kl 586 (kp (am_push (.int 115) 2) 1))))) (kb 592 (kb 589 (kl 588 (kh (ag_do at_O ad_iast 1))) (kb 590 (kl 589 (kp (am_dup) 1)) (kl 590 (kp (am_push (.int 100) 2) 1)))) (kb 593 (kl 592 (kp (am_push (.int 0) 1) 1)) (kb 594 (kl 593 (kh (ag_do at_O ad_iast 1))) (kl 594 (kp (am_dup) 1)))))) (kb 603 (kb 599 (kb 597 (kl 595 (kp (am_push (.int 101) 2) 1)) (kl 597 (kp (am_push (.int 114) 2) 1))) (kb 600 (kl 599 (kh (ag_do at_O ad_iast 1))) (kb 601 (kl 600 (kp (am_dup) 1)) (kl 601 (kp (am_push (.int 102) 2) 1))))) (kb 607 (kb 605 (kl 603 (kp (am_push (.int 111) 2) 1)) (kb 606 (kl 605 (kh (ag_do at_O ad_iast 1))) (kl 606 (kp (am_dup) 1)))) (kb 609 (kl 607 (kp (am_push (.int 103) 2) 1)) (kb 611 (kl 609 (kp (am_push (.int 111) 2) 1)) (kl 611 (kh (ag_do at_O ad_iast 1)))))))) (kb 628 (kb 619 (kb 615 (kb 613 (kl 612 (kp (am_dup) 1)) (kl 613 (kp (am_push (.int 104) 2) 1))) (kb 617 (kl 615 (kp (am_push (.int 109) 2) 1)) (kb 618 (kl 617 (kh (ag_do at_O ad_iast 1))) (kl 618 (kp (am_dup) 1))))) (kb 623 (kb 621 (kl 619 (kp (am_push (.int 105) 2) 1)) (kb 622 (kl 621 (kp (am_push (.int 0) 1) 1)) (kl 622 (kh (ag_do at_O ad_iast 1))))) (kb 624 (kl 623 (kp (am_dup) 1)) (kb 626 (kl 624 (kp (am_push (.int 106) 2) 1)) (kl 626 (kp (am_push (.int 119) 2) 1)))))) (kb 635 (kb 630 (kb 629 (kl 628 (kh (ag_do at_O ad_iast 1))) (kl 629 (kp (am_dup) 1))) (kb 632 (kl 630 (kp (am_push (.int 107) 2) 1)) (kb 634 (kl 632 (kp (am_push (.int 97) 2) 1)) (kl 634 (kh (ag_do at_O ad_iast 1)))))) (kb 640 (kb 636 (kl 635 (kp (am_dup) 1)) (kb 638 (kl 636 (kp (am_push (.int 108) 2) 1)) (kl 638 (kp (am_push (.int 121) 2) 1)))) (kb 641 (kl 640 (kh (ag_do at_O ad_iast 1))) (kb 642 (kl 641 (kp (am_dup) 1)) (kl 642 (kp (am_push (.int 109) 2) 1))))))))) (kb 708 (kb 676 (kb 659 (kb 651 (kb 647 (kb 646 (kl 644 (kp (am_push (.int 115) 2) 1)) (kl 646 (kh (ag_do at_O ad_iast 1)))) (kb 648 (kl 647 (kp (am_dup) 1)) (kb 650 (kl 648 (kp (am_push (.int 110) 2) 1)) (kl 650 (kp (am_push (.int 0) 1) 1))))) (kb 655 (kb 652 (kl 651 (kh (ag_do at_O ad_iast 1))) (kb 653 (kl 652 (kp (am_dup) 1)) (kl 653 (kp (am_push (.int 111) 2) 1)))) (kb 657 (kl 655 (kp (am_push (.int 115) 2) 1)) (kb 658 (kl 657 (kh (ag_do at_O ad_iast 1))) (kl 658 (kp (am_dup) 1)))))) (kb 667 (kb 663 (kb 661 (kl 659 (kp (am_push (.int 112) 2) 1)) (kl 661 (kp (am_push (.int 116) 2) 1))) (kb 664 (kl 663 (kh (ag_do at_O ad_iast 1))) (kb 665 (kl 664 (kp (am_dup) 1)) (kl 665 (kp (am_push (.int 113) 2) 1))))) (kb 671 (kb 669 (kl 667 (kp (am_push (.int 97) 2) 1)) (kb 670 (kl 669 (kh (ag_do at_O ad_iast 1))) (kl 670 (kp (am_dup) 1)))) (kb 673 (kl 671 (kp (am_push (.int 114) 2) 1)) (kb 675 (kl 673 (kp (am_push (.int 115) 2) 1)) (kl 675 (kh (ag_do at_O ad_iast 1)))))))) (kb 692 (kb 683 (kb 679 (kb 677 (kl 676 (kp (am_dup) 1)) (kl 677 (kp (am_push (.int 115) 2) 1))) (kb 681 (kl 679 (kp (am_push (.int 104) 2) 1)) (kb 682 (kl 681 (kh (ag_do at_O ad_iast 1))) (kl 682 (kp (am_dup) 1))))) (kb 687 (kb 685 (kl 683 (kp (am_push (.int 116) 2) 1)) (kb 686 (kl 685 (kp (am_push (.int 0) 1) 1)) (kl 686 (kh (ag_do at_O ad_iast 1))))) (kb 688 (kl 687 (kp (am_dup) 1)) (kb 690 (kl 688 (kp (am_push (.int 117) 2) 1)) (kl 690 (kp (am_push (.int 99) 2) 1)))))) (kb 699 (kb 694 (kb 693 (kl 692 (kh (ag_do at_O ad_iast 1))) (kl 693 (kp (am_dup) 1))) (kb 696 (kl 694 (kp (am_push (.int 118) 2) 1)) (kb 698 (kl 696 (kp (am_push (.int 111) 2) 1)) (kl 698 (kh (ag_do at_O ad_iast 1)))))) (kb 704 (kb 700 (kl 699 (kp (am_dup) 1)) (kb 702 (kl 700 (kp (am_push (.int 119) 2) 1)) (kl 702 (kp (am_push (.int 110) 2) 1)))) (kb 705 (kl 704 (kh (ag_do at_O ad_iast 1))) (kb 706 (kl 705 (kp (am_dup) 1)) (kl 706 (kp (am_push (.int 120) 2) 1)))))))) (kb 740 (kb 724 (kb 716 (kb 711 (kb 710 (kl 708 (kp (am_push (.int 116) 2) 1)) (kl 710 (kh (ag_do at_O ad_iast 1)))) (kb 712 (kl 711 (kp (am_dup) 1)) (kb 714 (kl 712 (kp (am_push (.int 121) 2) 1)) (kl 714 (kp (am_push (.int 114) 2) 1))))) (kb 720 (kb 717 (kl 716 (kh (ag_do at_O ad_iast 1))) (kb 718 (kl 717 (kp (am_dup) 1)) (kl 718 (kp (am_push (.int 122) 2) 1)))) (kb 722 (kl 720 (kp (am_push (.int 111) 2) 1)) (kb 723 (kl 722 (kh (ag_do at_O ad_iast 1))) (kl 723 (kp (am_dup) 1)))))) (kb 732 (kb 728 (kb 726 (kl 724 (kp (am_push (.int 123) 2) 1)) (kl 726 (kp (am_push (.int 108) 2) 1))) (kb 729 (kl 728 (kh (ag_do at_O ad_iast 1))) (kb 730 (kl 729 (kp (am_dup) 1)) (kl 730 (kp (am_push (.int 124) 2) 1))))) (kb 735 (kb 733 (kl 732 (kp (am_push (.int 0) 1) 1)) (kb 734 (kl 733 (kh (ag_do at_O ad_iast 1))) (kl 734 (kp (am_dup) 1)))) (kb 737 (kl 735 (kp (am_push (.int 125) 2) 1)) (kb 739 (kl 737 (kp (am_push (.int 97) 2) 1)) (kl 739 (kh (ag_do at_O ad_iast 1)))))))) (kb 758 (kb 747 (kb 743 (kb 741 (kl 740 (kp (am_dup) 1)) (kl 741 (kp (am_push (.int 126) 2) 1))) (kb 745 (kl 743 (kp (am_push (.int 112) 2) 1)) (kb 746 (kl 745 (kh (ag_do at_O ad_iast 1))) (kl 746 (kp (am_dup) 1))))) (kb 752 (kb 749 (kl 747 (kp (am_push (.int 127) 2) 1)) (kb 751 (kl 749 (kp (am_push (.int 112) 2) 1)) (kl 751 (kh (ag_do at_O ad_iast 1))))) (kb 753 (kl 752 (kp (am_dup) 1)) (kb 756 (kl 753 (kp (am_push (.int 128) 3) 1)) (kl 756 (kp (am_push (.int 108) 2) 1)))))) (kb 767 (kb 763 (kb 759 (kl 758 (kh (ag_do at_O ad_iast 1))) (kb 760 (kl 759 (kp (am_dup) 1)) (kl 760 (kp (am_push (.int 129) 3) 1)))) (kb 765 (kl 763 (kp (am_push (.int 121) 2) 1)) (kb 766 (kl 765 (kh (ag_do at_O ad_iast 1))) (kl 766 (kp (am_dup) 1))))) (kb 772 (kb 770 (kl 767 (kp (am_push (.int 130) 3) 1)) (kb 771 (kl 770 (kp (am_push (.int 0) 1) 1)) (kl 771 (kh (ag_do at_O ad_iast 1))))) (kb 773 (kl 772 (kp (am_dup) 1)) (kb 776 (kl 773 (kp (am_push (.int 131) 3) 1)) (kl 776 (kp (am_push (.int 105) 2) 1)))))))))) (kb 928 (kb 853 (kb 814 (kb 796 (kb 786 (kb 780 (kb 779 (kl 778 (kh (ag_do at_O ad_iast 1))) (kl 779 (kp (am_dup) 1))) (kb 783 (kl 780 (kp (am_push (.int 132) 3) 1)) (kb 785 (kl 783 (kp (am_push (.int 102) 2) 1)) (kl 785 (kh (ag_do at_O ad_iast 1)))))) (kb 791 (kb 787 (kl 786 (kp (am_dup) 1)) (kb 790 (kl 787 (kp (am_push (.int 133) 3) 1)) (kl 790 (kp (am_push (.int 0) 1) 1)))) (kb 792 (kl 791 (kh (ag_do at_O ad_iast 1))) (kb 793 (kl 792 (kp (am_dup) 1)) (kl 793 (kp (am_push (.int 134) 3) 1)))))) (kb 805 (kb 799 (kb 798 (kl 796 (kp (am_push (.int 101) 2) 1)) (kl 798 (kh (ag_do at_O ad_iast 1)))) (kb 800 (kl 799 (kp (am_dup) 1)) (kb 803 (kl 800 (kp (am_push (.int 135) 3) 1)) (kl 803 (kp (am_push (.int 108) 2) 1))))) (kb 810 (kb 806 (kl 805 (kh (ag_do at_O ad_iast 1))) (kb 807 (kl 806 (kp (am_dup) 1)) (kl 807 (kp (am_push (.int 136) 3) 1)))) (kb 812 (kl 810 (kp (am_push (.int 115) 2) 1)) (kb 813 (kl 812 (kh (ag_do at_O ad_iast 1))) (kl 813 (kp (am_dup) 1))))))) (kb 833 (kb 824 (kb 819 (kb 817 (kl 814 (kp (am_push (.int 137) 3) 1)) (kl 817 (kp (am_push (.int 101) 2) 1))) (kb 820 (kl 819 (kh (ag_do at_O ad_iast 1))) (kb 821 (kl 820 (kp (am_dup) 1)) (kl 821 (kp (am_push (.int 138) 3) 1))))) (kb 827 (kb 825 (kl 824 (kp (am_push (.int 0) 1) 1)) (kb 826 (kl 825 (kh (ag_do at_O ad_iast 1))) (kl 826 (kp (am_dup) 1)))) (kb 830 (kl 827 (kp (am_push (.int 139) 3) 1)) (kb 832 (kl 830 (kp (am_push (.int 101) 2) 1)) (kl 832 (kh (ag_do at_O ad_iast 1))))))) (kb 841 (kb 837 (kb 834 (kl 833 (kp (am_dup) 1)) (kl 834 (kp (am_push (.int 140) 3) 1))) (kb 839 (kl 837 (kp (am_push (.int 109) 2) 1)) (kb 840 (kl 839 (kh (ag_do at_O ad_iast 1))) (kl 840 (kp (am_dup) 1))))) (kb 847 (kb 844 (kl 841 (kp (am_push (.int 141) 3) 1)) (kb 846 (kl 844 (kp (am_push (.int 105) 2) 1)) (kl 846 (kh (ag_do at_O ad_iast 1))))) (kb 848 (kl 847 (kp (am_dup) 1)) (kb 851 (kl 848 (kp (am_push (.int 142) 3) 1)) (kl 851 (kp (am_push (.int 116) 2) 1)))))))) (kb 888 (kb 871 (kb 860 (kb 855 (kb 854 (kl 853 (kh (ag_do at_O ad_iast 1))) (kl 854 (kp (am_dup) 1))) (kb 858 (kl 855 (kp (am_push (.int 143) 3) 1)) (kb 859 (kl 858 (kp (am_push (.int 0) 1) 1)) (kl 859 (kh (ag_do at_O ad_iast 1)))))) (kb 866 (kb 861 (kl 860 (kp (am_dup) 1)) (kb 864 (kl 861 (kp (am_push (.int 144) 3) 1)) (kl 864 (kp (am_push (.int 97) 2) 1)))) (kb 867 (kl 866 (kh (ag_do at_O ad_iast 1))) (kb 868 (kl 867 (kp (am_dup) 1)) (kl 868 (kp (am_push (.int 145) 3) 1)))))) (kb 880 (kb 874 (kb 873 (kl 871 (kp (am_push (.int 100) 2) 1)) (kl 873 (kh (ag_do at_O ad_iast 1)))) (kb 875 (kl 874 (kp (am_dup) 1)) (kb 878 (kl 875 (kp (am_push (.int 146) 3) 1)) (kl 878 (kp (am_push (.int 100) 2) 1))))) (kb 885 (kb 881 (kl 880 (kh (ag_do at_O ad_iast 1))) (kb 882 (kl 881 (kp (am_dup) 1)) (kl 882 (kp (am_push (.int 147) 3) 1)))) (kb 886 (kl 885 (kp (am_push (.int 0) 1) 1)) (kb 887 (kl 886 (kh (ag_do at_O ad_iast 1))) (kl 887 (kp (am_dup) 1))))))) (kb 908 (kb 898 (kb 893 (kb 891 (kl 888 (kp (am_push (.int 148) 3) 1)) (kl 891 (kp (am_push (.int 116) 2) 1))) (kb 894 (kl 893 (kh (ag_do at_O ad_iast 1))) (kb 895 (kl 894 (kp (am_dup) 1)) (kl 895 (kp (am_push (.int 149) 3) 1))))) (kb 902 (kb 900 (kl 898 (kp (am_push (.int 97) 2) 1)) (kb 901 (kl 900 (kh (ag_do at_O ad_iast 1))) (kl 901 (kp (am_dup) 1)))) (kb 905 (kl 902 (kp (am_push (.int 150) 3) 1)) (kb 907 (kl 905 (kp (am_push (.int 107) 2) 1)) (kl 907 (kh (ag_do at_O ad_iast 1))))))) (kb 919 (kb 914 (kb 909 (kl 908 (kp (am_dup) 1)) (kb 912 (kl 909 (kp (am_push (.int 151) 3) 1)) (kl 912 (kp (am_push (.int 101) 2) 1)))) (kb 915 (kl 914 (kh (ag_do at_O ad_iast 1))) (kb 916 (kl 915 (kp (am_dup) 1)) (kl 916 (kp (am_push (.int 152) 3) 1))))) (kb 922 (kb 920 (kl 919 (kp (am_push (.int 0) 1) 1)) (kb 921 (kl 920 (kh (ag_do at_O ad_iast 1))) (kl 921 (kp (am_dup) 1)))) (kb 925 (kl 922 (kp (am_push (.int 153) 3) 1)) (kb 927 (kl 925 (kp (am_push (.int 100) 2) 1)) (kl 927 (kh (ag_do at_O ad_iast 1)))))))))) (kb 1003 (kb 966 (kb 948 (kb 936 (kb 932 (kb 929 (kl 928 (kp (am_dup) 1)) (kl 929 (kp (am_push (.int 154) 3) 1))) (kb 934 (kl 932 (kp (am_push (.int 114) 2) 1)) (kb 935 (kl 934 (kh (ag_do at_O ad_iast 1))) (kl 935 (kp (am_dup) 1))))) (kb 942 (kb 939 (kl 936 (kp (am_push (.int 155) 3) 1)) (kb 941 (kl 939 (kp (am_push (.int 111) 2) 1)) (kl 941 (kh (ag_do at_O ad_iast 1))))) (kb 943 (kl 942 (kp (am_dup) 1)) (kb 946 (kl 943 (kp (am_push (.int 156) 3) 1)) (kl 946 (kp (am_push (.int 112) 2) 1)))))) (kb 955 (kb 950 (kb 949 (kl 948 (kh (ag_do at_O ad_iast 1))) (kl 949 (kp (am_dup) 1))) (kb 953 (kl 950 (kp (am_push (.int 157) 3) 1)) (kb 954 (kl 953 (kp (am_push (.int 0) 1) 1)) (kl 954 (kh (ag_do at_O ad_iast 1)))))) (kb 961 (kb 956 (kl 955 (kp (am_dup) 1)) (kb 959 (kl 956 (kp (am_push (.int 158) 3) 1)) (kl 959 (kp (am_push (.int 108) 2) 1)))) (kb 962 (kl 961 (kh (ag_do at_O ad_iast 1))) (kb 963 (kl 962 (kp (am_dup) 1)) (kl 963 (kp (am_push (.int 159) 3) 1))))))) (kb 984 (kb 975 (kb 969 (kb 968 (kl 966 (kp (am_push (.int 111) 2) 1)) (kl 968 (kh (ag_do at_O ad_iast 1)))) (kb 970 (kl 969 (kp (am_dup) 1)) (kb 973 (kl 970 (kp (am_push (.int 160) 3) 1)) (kl 973 (kp (am_push (.int 97) 2) 1))))) (kb 980 (kb 976 (kl 975 (kh (ag_do at_O ad_iast 1))) (kb 977 (kl 976 (kp (am_dup) 1)) (kl 977 (kp (am_push (.int 161) 3) 1)))) (kb 982 (kl 980 (kp (am_push (.int 100) 2) 1)) (kb 983 (kl 982 (kh (ag_do at_O ad_iast 1))) (kl 983 (kp (am_dup) 1)))))) (kb 993 (kb 988 (kb 987 (kl 984 (kp (am_push (.int 162) 3) 1)) (kl 987 (kp (am_push (.int 0) 1) 1))) (kb 989 (kl 988 (kh (ag_do at_O ad_iast 1))) (kb 990 (kl 989 (kp (am_dup) 1)) (kl 990 (kp (am_push (.int 163) 3) 1))))) (kb 997 (kb 995 (kl 993 (kp (am_push (.int 115) 2) 1)) (kb 996 (kl 995 (kh (ag_do at_O ad_iast 1))) (kl 996 (kp (am_dup) 1)))) (kb 1000 (kl 997 (kp (am_push (.int 164) 3) 1)) (kb 1002 (kl 1000 (kp (am_push (.int 116) 2) 1)) (kl 1002 (kh (ag_do at_O ad_iast 1))))))))) (kb 1041 (kb 1023 (kb 1011 (kb 1007 (kb 1004 (kl 1003 (kp (am_dup) 1)) (kl 1004 (kp (am_push (.int 165) 3) 1))) (kb 1009 (kl 1007 (kp (am_push (.int 111) 2) 1)) (kb 1010 (kl 1009 (kh (ag_do at_O ad_iast 1))) (kl 1010 (kp (am_dup) 1))))) (kb 1017 (kb 1014 (kl 1011 (kp (am_push (.int 166) 3) 1)) (kb 1016 (kl 1014 (kp (am_push (.int 114) 2) 1)) (kl 1016 (kh (ag_do at_O ad_iast 1))))) (kb 1018 (kl 1017 (kp (am_dup) 1)) (kb 1021 (kl 1018 (kp (am_push (.int 167) 3) 1)) (kl 1021 (kp (am_push (.int 101) 2) 1)))))) (kb 1030 (kb 1025 (kb 1024 (kl 1023 (kh (ag_do at_O ad_iast 1))) (kl 1024 (kp (am_dup) 1))) (kb 1028 (kl 1025 (kp (am_push (.int 168) 3) 1)) (kb 1029 (kl 1028 (kp (am_push (.int 0) 1) 1)) (kl 1029 (kh (ag_do at_O ad_iast 1)))))) (kb 1036 (kb 1031 (kl 1030 (kp (am_dup) 1)) (kb 1034 (kl 1031 (kp (am_push (.int 169) 3) 1)) (kl 1034 (kp (am_push (.int 118) 2) 1)))) (kb 1037 (kl 1036 (kh (ag_do at_O ad_iast 1))) (kb 1038 (kl 1037 (kp (am_dup) 1)) (kl 1038 (kp (am_push (.int 170) 3) 1))))))) (kb 1059 (kb 1050 (kb 1044 (kb 1043 (kl 1041 (kp (am_push (.int 97) 2) 1)) (kl 1043 (kh (ag_do at_O ad_iast 1)))) (kb 1045 (kl 1044 (kp (am_dup) 1)) (kb 1048 (kl 1045 (kp (am_push (.int 171) 3) 1)) (kl 1048 (kp (am_push (.int 108) 2) 1))))) (kb 1055 (kb 1051 (kl 1050 (kh (ag_do at_O ad_iast 1))) (kb 1052 (kl 1051 (kp (am_dup) 1)) (kl 1052 (kp (am_push (.int 172) 3) 1)))) (kb 1057 (kl 1055 (kp (am_push (.int 105) 2) 1)) (kb 1058 (kl 1057 (kh (ag_do at_O ad_iast 1))) (kl 1058 (kp (am_dup) 1)))))) (kb 1070 (kb 1065 (kb 1062 (kl 1059 (kp (am_push (.int 173) 3) 1)) (kb 1064 (kl 1062 (kp (am_push (.int 100) 2) 1)) (kl 1064 (kh (ag_do at_O ad_iast 1))))) (kb 1066 (kl 1065 (kp (am_dup) 1)) (kb 1069 (kl 1066 (kp (am_push (.int 174) 3) 1)) (kl 1069 (kp (am_push (.int 0) 1) 1))))) (kb 1075 (kb 1071 (kl 1070 (kh (ag_do at_O ad_iast 1))) (kb 1072 (kl 1071 (kp (am_dup) 1)) (kl 1072 (kp (am_push (.int 175) 3) 1)))) (kb 1077 (kl 1075 (kp (am_push (.int 97) 2) 1)) (kb 1078 (kl 1077 (kh (ag_do at_O ad_iast 1))) (kl 1078 (kp (am_dup) 1)))))))))))) (kb 1708 (kb 1355 (kb 1224 (kb 1164 (kb 1122 (kb 1099 (kb 1089 (kb 1084 (kb 1082 (kl 1079 (kp (am_push (.int 176) 3) 1)) (kl 1082 (kp (am_push (.int 115) 2) 1))) (kb 1085 (kl 1084 (kh (ag_do at_O ad_iast 1))) (kb 1086 (kl 1085 (kp (am_dup) 1)) (kl 1086 (kp (am_push (.int 177) 3) 1))))) (kb 1094 (kb 1090 (kl 1089 (kp (am_push (.int 0) 1) 1)) (kb 1091 (kl 1090 (kh (ag_do at_O ad_iast 1))) (kl 1091 (kh (ag_do at_O (ad_putf 12 0 (.array (.int))) 3))))) (kb 1095 (kl 1094 (kp (am_aload 0 1) 1)) (kb 1097 (kl 1095 (kp (am_push (.int 20) 2) 1)) (kl 1097 (ka 0)))))) (kb 1111 (kb 1103 (kb 1102 (kl 1099 (kh (ag_do at_O (ad_putf 12 2 (.array (.int))) 3))) (kl 1102 (kp (am_aload 0 1) 1))) (kb 1106 (kl 1103 (kp (am_push (.int 4000) 3) 1)) (kb 1108 (kl 1106 (ka 0)) (kl 1108 (kh (ag_do at_O (ad_putf 12 3 (.array (.int))) 3)))))) (kb 1117 (kb 1112 (kl 1111 (kp (am_aload 0 1) 1)) (kb 1115 (kl 1112 (kp (am_push (.int 4000) 3) 1)) (kl 1115 (ka 0)))) (kb 1120 (kl 1117 (kh (ag_do at_O (ad_putf 12 4 (.array (.int))) 3))) (kb 1121 (kl 1120 (kp (am_aload 0 1) 1)) (kl 1121 (kp (am_push (.int (-1)) 1) 1))))))) (kb 1144 (kb 1133 (kb 1126 (kb 1125 (kl 1122 (kh (ag_do at_O (ad_putf 12 11 (.int)) 3))) (kl 1125 (kp (am_aload 0 1) 1))) (kb 1128 (kl 1126 (kp (am_push (.int 120) 2) 1)) (kb 1130 (kl 1128 (ka 0)) (kl 1130 (kh (ag_do at_O (ad_putf 12 14 (.array (.int))) 3)))))) (kb 1138 (kb 1134 (kl 1133 (kp (am_aload 0 1) 1)) (kb 1136 (kl 1134 (kp (am_push (.int 120) 2) 1)) (kl 1136 (ka 0)))) (kb 1141 (kl 1138 (kh (ag_do at_O (ad_putf 12 15 (.array (.int))) 3))) (kb 1142 (kl 1141 (kp (am_aload 0 1) 1)) (kl 1142 (kp (am_push (.int 120) 2) 1)))))) (kb 1154 (kb 1149 (kb 1146 (kl 1144 (ka 0)) (kl 1146 (kh (ag_do at_O (ad_putf 12 16 (.array (.int))) 3)))) (kb 1150 (kl 1149 (kp (am_aload 0 1) 1)) (kb 1152 (kl 1150 (kp (am_push (.int 120) 2) 1)) (kl 1152 (ka 0))))) (kb 1160 (kb 1157 (kl 1154 (kh (ag_do at_O (ad_putf 12 17 (.array (.int))) 3))) (kb 1158 (kl 1157 (kp (am_aload 0 1) 1)) (kl 1158 (kp (am_push (.int 38) 2) 1)))) (kb 1162 (kl 1160 (ka 0)) (kb 1163 (kl 1162 (kp (am_dup) 1)) (kl 1163 (kp (am_push (.int 0) 1) 1)))))))) (kb 1192 (kb 1178 (kb 1171 (kb 1167 (kb 1166 (kl 1164 (kp (am_push (.int 105) 2) 1)) (kl 1166 (kh (ag_do at_O ad_iast 1)))) (kb 1168 (kl 1167 (kp (am_dup) 1)) (kb 1169 (kl 1168 (kp (am_push (.int 1) 1) 1)) (kl 1169 (kp (am_push (.int 110) 2) 1))))) (kb 1174 (kb 1172 (kl 1171 (kh (ag_do at_O ad_iast 1))) (kb 1173 (kl 1172 (kp (am_dup) 1)) (kl 1173 (kp (am_push (.int 2) 1) 1)))) (kb 1176 (kl 1174 (kp (am_push (.int 95) 2) 1)) (kb 1177 (kl 1176 (kh (ag_do at_O ad_iast 1))) (kl 1177 (kp (am_dup) 1)))))) (kb 1184 (kb 1181 (kb 1179 (kl 1178 (kp (am_push (.int 3) 1) 1)) (kl 1179 (kp (am_push (.int 112) 2) 1))) (kb 1182 (kl 1181 (kh (ag_do at_O ad_iast 1))) (kb 1183 (kl 1182 (kp (am_dup) 1)) (kl 1183 (kp (am_push (.int 4) 1) 1))))) (kb 1188 (kb 1186 (kl 1184 (kp (am_push (.int 111) 2) 1)) (kb 1187 (kl 1186 (kh (ag_do at_O ad_iast 1))) (kl 1187 (kp (am_dup) 1)))) (kb 1189 (kl 1188 (kp (am_push (.int 5) 1) 1)) (kb 1191 (kl 1189 (kp (am_push (.int 114) 2) 1)) (kl 1191 (kh (ag_do at_O ad_iast 1)))))))) (kb 1208 (kb 1199 (kb 1195 (kb 1193 (kl 1192 (kp (am_dup) 1)) (kl 1193 (kp (am_push (.int 6) 2) 1))) (kb 1197 (kl 1195 (kp (am_push (.int 116) 2) 1)) (kb 1198 (kl 1197 (kh (ag_do at_O ad_iast 1))) (kl 1198 (kp (am_dup) 1))))) (kb 1203 (kb 1201 (kl 1199 (kp (am_push (.int 7) 2) 1)) (kb 1202 (kl 1201 (kp (am_push (.int 0) 1) 1)) (kl 1202 (kh (ag_do at_O ad_iast 1))))) (kb 1204 (kl 1203 (kp (am_dup) 1)) (kb 1206 (kl 1204 (kp (am_push (.int 8) 2) 1)) (kl 1206 (kp (am_push (.int 108) 2) 1)))))) (kb 1215 (kb 1210 (kb 1209 (kl 1208 (kh (ag_do at_O ad_iast 1))) (kl 1209 (kp (am_dup) 1))) (kb 1212 (kl 1210 (kp (am_push (.int 9) 2) 1)) (kb 1214 (kl 1212 (kp (am_push (.int 101) 2) 1)) (kl 1214 (kh (ag_do at_O ad_iast 1)))))) (kb 1220 (kb 1216 (kl 1215 (kp (am_dup) 1)) (kb 1218 (kl 1216 (kp (am_push (.int 10) 2) 1)) (kl 1218 (kp (am_push (.int 110) 2) 1)))) (kb 1221 (kl 1220 (kh (ag_do at_O ad_iast 1))) (kb 1222 (kl 1221 (kp (am_dup) 1)) (kl 1222 (kp (am_push (.int 11) 2) 1))))))))) (kb 1289 (kb 1256 (kb 1240 (kb 1232 (kb 1227 (kb 1226 (kl 1224 (kp (am_push (.int 103) 2) 1)) (kl 1226 (kh (ag_do at_O ad_iast 1)))) (kb 1228 (kl 1227 (kp (am_dup) 1)) (kb 1230 (kl 1228 (kp (am_push (.int 12) 2) 1)) (kl 1230 (kp (am_push (.int 116) 2) 1))))) (kb 1236 (kb 1233 (kl 1232 (kh (ag_do at_O ad_iast 1))) (kb 1234 (kl 1233 (kp (am_dup) 1)) (kl 1234 (kp (am_push (.int 13) 2) 1)))) (kb 1238 (kl 1236 (kp (am_push (.int 104) 2) 1)) (kb 1239 (kl 1238 (kh (ag_do at_O ad_iast 1))) (kl 1239 (kp (am_dup) 1)))))) (kb 1247 (kb 1243 (kb 1242 (kl 1240 (kp (am_push (.int 14) 2) 1)) (kl 1242 (kp (am_push (.int 0) 1) 1))) (kb 1244 (kl 1243 (kh (ag_do at_O ad_iast 1))) (kb 1245 (kl 1244 (kp (am_dup) 1)) (kl 1245 (kp (am_push (.int 15) 2) 1))))) (kb 1251 (kb 1249 (kl 1247 (kp (am_push (.int 111) 2) 1)) (kb 1250 (kl 1249 (kh (ag_do at_O ad_iast 1))) (kl 1250 (kp (am_dup) 1)))) (kb 1253 (kl 1251 (kp (am_push (.int 16) 2) 1)) (kb 1255 (kl 1253 (kp (am_push (.int 117) 2) 1)) (kl 1255 (kh (ag_do at_O ad_iast 1)))))))) (kb 1273 (kb 1263 (kb 1259 (kb 1257 (kl 1256 (kp (am_dup) 1)) (kl 1257 (kp (am_push (.int 17) 2) 1))) (kb 1261 (kl 1259 (kp (am_push (.int 116) 2) 1)) (kb 1262 (kl 1261 (kh (ag_do at_O ad_iast 1))) (kl 1262 (kp (am_dup) 1))))) (kb 1268 (kb 1265 (kl 1263 (kp (am_push (.int 18) 2) 1)) (kb 1267 (kl 1265 (kp (am_push (.int 95) 2) 1)) (kl 1267 (kh (ag_do at_O ad_iast 1))))) (kb 1269 (kl 1268 (kp (am_dup) 1)) (kb 1271 (kl 1269 (kp (am_push (.int 19) 2) 1)) (kl 1271 (kp (am_push (.int 112) 2) 1)))))) (kb 1280 (kb 1275 (kb 1274 (kl 1273 (kh (ag_do at_O ad_iast 1))) (kl 1274 (kp (am_dup) 1))) (kb 1277 (kl 1275 (kp (am_push (.int 20) 2) 1)) (kb 1279 (kl 1277 (kp (am_push (.int 111) 2) 1)) (kl 1279 (kh (ag_do at_O ad_iast 1)))))) (kb 1285 (kb 1281 (kl 1280 (kp (am_dup) 1)) (kb 1283 (kl 1281 (kp (am_push (.int 21) 2) 1)) (kl 1283 (kp (am_push (.int 114) 2) 1)))) (kb 1286 (kl 1285 (kh (ag_do at_O ad_iast 1))) (kb 1287 (kl 1286 (kp (am_dup) 1)) (kl 1287 (kp (am_push (.int 22) 2) 1)))))))) (kb 1321 (kb 1304 (kb 1296 (kb 1292 (kb 1291 (kl 1289 (kp (am_push (.int 116) 2) 1)) (kl 1291 (kh (ag_do at_O ad_iast 1)))) (kb 1293 (kl 1292 (kp (am_dup) 1)) (kb 1295 (kl 1293 (kp (am_push (.int 23) 2) 1)) (kl 1295 (kp (am_push (.int 0) 1) 1))))) (kb 1300 (kb 1297 (kl 1296 (kh (ag_do at_O ad_iast 1))) (kb 1298 (kl 1297 (kp (am_dup) 1)) (kl 1298 (kp (am_push (.int 24) 2) 1)))) (kb 1302 (kl 1300 (kp (am_push (.int 97) 2) 1)) (kb 1303 (kl 1302 (kh (ag_do at_O ad_iast 1))) (kl 1303 (kp (am_dup) 1)))))) (kb 1312 (kb 1308 (kb 1306 (kl 1304 (kp (am_push (.int 25) 2) 1)) (kl 1306 (kp (am_push (.int 99) 2) 1))) (kb 1309 (kl 1308 (kh (ag_do at_O ad_iast 1))) (kb 1310 (kl 1309 (kp (am_dup) 1)) (kl 1310 (kp (am_push (.int 26) 2) 1))))) (kb 1316 (kb 1314 (kl 1312 (kp (am_push (.int 99) 2) 1)) (kb 1315 (kl 1314 (kh (ag_do at_O ad_iast 1))) (kl 1315 (kp (am_dup) 1)))) (kb 1318 (kl 1316 (kp (am_push (.int 27) 2) 1)) (kb 1320 (kl 1318 (kp (am_push (.int 101) 2) 1)) (kl 1320 (kh (ag_do at_O ad_iast 1)))))))) (kb 1337 (kb 1328 (kb 1324 (kb 1322 (kl 1321 (kp (am_dup) 1)) (kl 1322 (kp (am_push (.int 28) 2) 1))) (kb 1326 (kl 1324 (kp (am_push (.int 112) 2) 1)) (kb 1327 (kl 1326 (kh (ag_do at_O ad_iast 1))) (kl 1327 (kp (am_dup) 1))))) (kb 1333 (kb 1330 (kl 1328 (kp (am_push (.int 29) 2) 1)) (kb 1332 (kl 1330 (kp (am_push (.int 116) 2) 1)) (kl 1332 (kh (ag_do at_O ad_iast 1))))) (kb 1334 (kl 1333 (kp (am_dup) 1)) (kb 1336 (kl 1334 (kp (am_push (.int 30) 2) 1)) (kl 1336 (kp (am_push (.int 0) 1) 1)))))) (kb 1345 (kb 1341 (kb 1338 (kl 1337 (kh (ag_do at_O ad_iast 1))) (kb 1339 (kl 1338 (kp (am_dup) 1)) (kl 1339 (kp (am_push (.int 31) 2) 1)))) (kb 1343 (kl 1341 (kp (am_push (.int 114) 2) 1)) (kb 1344 (kl 1343 (kh (ag_do at_O ad_iast 1))) (kl 1344 (kp (am_dup) 1))))) (kb 1350 (kb 1347 (kl 1345 (kp (am_push (.int 32) 2) 1)) (kb 1349 (kl 1347 (kp (am_push (.int 101) 2) 1)) (kl 1349 (kh (ag_do at_O ad_iast 1))))) (kb 1351 (kl 1350 (kp (am_dup) 1)) (kb 1353 (kl 1351 (kp (am_push (.int 33) 2) 1)) (kl 1353 (kp (am_push (.int 106) 2) 1)))))))))) (kb 1527 (kb 1436 (kb 1390 (kb 1371 (kb 1362 (kb 1357 (kb 1356 (kl 1355 (kh (ag_do at_O ad_iast 1))) (kl 1356 (kp (am_dup) 1))) (kb 1359 (kl 1357 (kp (am_push (.int 34) 2) 1)) (kb 1361 (kl 1359 (kp (am_push (.int 101) 2) 1)) (kl 1361 (kh (ag_do at_O ad_iast 1)))))) (kb 1367 (kb 1363 (kl 1362 (kp (am_dup) 1)) (kb 1365 (kl 1363 (kp (am_push (.int 35) 2) 1)) (kl 1365 (kp (am_push (.int 99) 2) 1)))) (kb 1368 (kl 1367 (kh (ag_do at_O ad_iast 1))) (kb 1369 (kl 1368 (kp (am_dup) 1)) (kl 1369 (kp (am_push (.int 36) 2) 1)))))) (kb 1378 (kb 1374 (kb 1373 (kl 1371 (kp (am_push (.int 116) 2) 1)) (kl 1373 (kh (ag_do at_O ad_iast 1)))) (kb 1375 (kl 1374 (kp (am_dup) 1)) (kb 1377 (kl 1375 (kp (am_push (.int 37) 2) 1)) (kl 1377 (kp (am_push (.int 0) 1) 1))))) (kb 1383 (kb 1379 (kl 1378 (kh (ag_do at_O ad_iast 1))) (kb 1382 (kl 1379 (kh (ag_do at_O (ad_putf 12 18 (.array (.int))) 3))) (kl 1382 (kp (am_aload 0 1) 1)))) (kb 1385 (kl 1383 (kp (am_push (.int 12) 2) 1)) (kb 1387 (kl 1385 (ka 0)) (kl 1387 (kh (ag_do at_O (ad_putf 12 29 (.array (.int))) 3)))))))) (kb 1413 (kb 1399 (kb 1393 (kb 1391 (kl 1390 (kp (am_aload 0 1) 1)) (kl 1391 (kp (am_push (.int 12) 2) 1))) (kb 1395 (kl 1393 (ka 0)) (kb 1398 (kl 1395 (kh (ag_do at_O (ad_putf 12 30 (.array (.int))) 3))) (kl 1398 (kp (am_aload 0 1) 1))))) (kb 1407 (kb 1402 (kl 1399 (kp (am_push (.int 192) 3) 1)) (kb 1404 (kl 1402 (ka 0)) (kl 1404 (kh (ag_do at_O (ad_putf 12 31 (.array (.int))) 3))))) (kb 1408 (kl 1407 (kp (am_aload 0 1) 1)) (kb 1411 (kl 1408 (kp (am_push (.int 192) 3) 1)) (kl 1411 (ka 0)))))) (kb 1425 (kb 1417 (kb 1416 (kl 1413 (kh (ag_do at_O (ad_putf 12 32 (.array (.int))) 3))) (kl 1416 (kp (am_aload 0 1) 1))) (kb 1420 (kl 1417 (kp (am_push (.int 192) 3) 1)) (kb 1422 (kl 1420 (ka 0)) (kl 1422 (kh (ag_do at_O (ad_putf 12 33 (.array (.int))) 3)))))) (kb 1430 (kb 1426 (kl 1425 (kp (am_aload 0 1) 1)) (kb 1428 (kl 1426 (kp (am_push (.int 12) 2) 1)) (kl 1428 (ka 0)))) (kb 1433 (kl 1430 (kh (ag_do at_O (ad_putf 12 34 (.array (.int))) 3))) (kb 1434 (kl 1433 (kp (am_aload 0 1) 1)) (kl 1434 (kp (am_push (.int 16) 2) 1)))))))) (kb 1481 (kb 1458 (kb 1446 (kb 1441 (kb 1438 (kl 1436 (ka 0)) (kl 1438 (kh (ag_do at_O (ad_putf 12 35 (.array (.int))) 3)))) (kb 1442 (kl 1441 (kp (am_aload 0 1) 1)) (kb 1444 (kl 1442 (kp (am_push (.int 8) 2) 1)) (kl 1444 (ka 0))))) (kb 1452 (kb 1449 (kl 1446 (kh (ag_do at_O (ad_putf 12 36 (.array (.int))) 3))) (kb 1450 (kl 1449 (kp (am_aload 0 1) 1)) (kl 1450 (kp (am_push (.int 16) 2) 1)))) (kb 1454 (kl 1452 (ka 0)) (kb 1457 (kl 1454 (kh (ag_do at_O (ad_putf 12 37 (.array (.int))) 3))) (kl 1457 (kp (am_aload 0 1) 1)))))) (kb 1468 (kb 1462 (kb 1460 (kl 1458 (kp (am_push (.int 16) 2) 1)) (kl 1460 (ka 0))) (kb 1465 (kl 1462 (kh (ag_do at_O (ad_putf 12 38 (.array (.int))) 3))) (kb 1466 (kl 1465 (kp (am_aload 0 1) 1)) (kl 1466 (kp (am_push (.int 16) 2) 1))))) (kb 1474 (kb 1470 (kl 1468 (ka 0)) (kb 1473 (kl 1470 (kh (ag_do at_O (ad_putf 12 39 (.array (.int))) 3))) (kl 1473 (kp (am_aload 0 1) 1)))) (kb 1476 (kl 1474 (kp (am_push (.int 16) 2) 1)) (kb 1478 (kl 1476 (ka 0)) (kl 1478 (kh (ag_do at_O (ad_putf 12 40 (.array (.int))) 3)))))))) (kb 1502 (kb 1490 (kb 1484 (kb 1482 (kl 1481 (kp (am_aload 0 1) 1)) (kl 1482 (kp (am_push (.int 16) 2) 1))) (kb 1486 (kl 1484 (ka 0)) (kb 1489 (kl 1486 (kh (ag_do at_O (ad_putf 12 41 (.array (.int))) 3))) (kl 1489 (kp (am_aload 0 1) 1))))) (kb 1497 (kb 1492 (kl 1490 (kp (am_push (.int 16) 2) 1)) (kb 1494 (kl 1492 (ka 0)) (kl 1494 (kh (ag_do at_O (ad_putf 12 42 (.array (.int))) 3))))) (kb 1498 (kl 1497 (kp (am_aload 0 1) 1)) (kb 1500 (kl 1498 (kp (am_push (.int 16) 2) 1)) (kl 1500 (ka 0)))))) (kb 1514 (kb 1508 (kb 1505 (kl 1502 (kh (ag_do at_O (ad_putf 12 43 (.array (.int))) 3))) (kb 1506 (kl 1505 (kp (am_aload 0 1) 1)) (kl 1506 (kp (am_push (.int 16) 2) 1)))) (kb 1510 (kl 1508 (ka 0)) (kb 1513 (kl 1510 (kh (ag_do at_O (ad_putf 12 44 (.array (.int))) 3))) (kl 1513 (kp (am_aload 0 1) 1))))) (kb 1522 (kb 1517 (kl 1514 (kp (am_push (.int 128) 3) 1)) (kb 1519 (kl 1517 (ka 0)) (kl 1519 (kh (ag_do at_O (ad_putf 12 45 (.array (.int))) 3))))) (kb 1523 (kl 1522 (kp (am_aload 0 1) 1)) (kb 1525 (kl 1523 (kp (am_push (.int 16) 2) 1)) (kl 1525 (ka 0))))))))) (kb 1615 (kb 1571 (kb 1549 (kb 1538 (kb 1531 (kb 1530 (kl 1527 (kh (ag_do at_O (ad_putf 12 46 (.array (.int))) 3))) (kl 1530 (kp (am_aload 0 1) 1))) (kb 1533 (kl 1531 (kp (am_push (.int 64) 2) 1)) (kb 1535 (kl 1533 (ka 0)) (kl 1535 (kh (ag_do at_O (ad_putf 12 47 (.array (.int))) 3)))))) (kb 1543 (kb 1539 (kl 1538 (kp (am_aload 0 1) 1)) (kb 1541 (kl 1539 (kp (am_push (.int 64) 2) 1)) (kl 1541 (ka 0)))) (kb 1546 (kl 1543 (kh (ag_do at_O (ad_putf 12 48 (.array (.int))) 3))) (kb 1547 (kl 1546 (kp (am_aload 0 1) 1)) (kl 1547 (kp (am_push (.int 64) 2) 1)))))) (kb 1559 (kb 1554 (kb 1551 (kl 1549 (ka 0)) (kl 1551 (kh (ag_do at_O (ad_putf 12 49 (.array (.int))) 3)))) (kb 1555 (kl 1554 (kp (am_aload 0 1) 1)) (kb 1557 (kl 1555 (kp (am_push (.int 16) 2) 1)) (kl 1557 (ka 0))))) (kb 1565 (kb 1562 (kl 1559 (kh (ag_do at_O (ad_putf 12 50 (.array (.int))) 3))) (kb 1563 (kl 1562 (kp (am_aload 0 1) 1)) (kl 1563 (kp (am_push (.int 8) 2) 1)))) (kb 1567 (kl 1565 (ka 0)) (kb 1570 (kl 1567 (kh (ag_do at_O (ad_putf 12 51 (.array (.int))) 3))) (kl 1570 (kp (am_aload 0 1) 1))))))) (kb 1594 (kb 1581 (kb 1575 (kb 1573 (kl 1571 (kp (am_push (.int 8) 2) 1)) (kl 1573 (ka 0))) (kb 1578 (kl 1575 (kh (ag_do at_O (ad_putf 12 52 (.array (.int))) 3))) (kb 1579 (kl 1578 (kp (am_aload 0 1) 1)) (kl 1579 (kp (am_push (.int 8) 2) 1))))) (kb 1587 (kb 1583 (kl 1581 (ka 0)) (kb 1586 (kl 1583 (kh (ag_do at_O (ad_putf 12 53 (.array (.int))) 3))) (kl 1586 (kp (am_aload 0 1) 1)))) (kb 1589 (kl 1587 (kp (am_push (.int 8) 2) 1)) (kb 1591 (kl 1589 (ka 0)) (kl 1591 (kh (ag_do at_O (ad_putf 12 54 (.array (.int))) 3))))))) (kb 1603 (kb 1597 (kb 1595 (kl 1594 (kp (am_aload 0 1) 1)) (kl 1595 (kp (am_push (.int 8) 2) 1))) (kb 1599 (kl 1597 (ka 0)) (kb 1602 (kl 1599 (kh (ag_do at_O (ad_putf 12 55 (.array (.int))) 3))) (kl 1602 (kp (am_aload 0 1) 1))))) (kb 1610 (kb 1605 (kl 1603 (kp (am_push (.int 8) 2) 1)) (kb 1607 (kl 1605 (ka 0)) (kl 1607 (kh (ag_do at_O (ad_putf 12 56 (.array (.int))) 3))))) (kb 1611 (kl 1610 (kp (am_aload 0 1) 1)) (kb 1613 (kl 1611 (kp (am_push (.int 8) 2) 1)) (kl 1613 (ka 0)))))))) (kb 1659 (kb 1637 (kb 1626 (kb 1619 (kb 1618 (kl 1615 (kh (ag_do at_O (ad_putf 12 57 (.array (.int))) 3))) (kl 1618 (kp (am_aload 0 1) 1))) (kb 1621 (kl 1619 (kp (am_push (.int 8) 2) 1)) (kb 1623 (kl 1621 (ka 3)) (kl 1623 (kh (ag_do at_O (ad_putf 12 58 (.array (.boolean))) 3)))))) (kb 1631 (kb 1627 (kl 1626 (kp (am_aload 0 1) 1)) (kb 1629 (kl 1627 (kp (am_push (.int 8) 2) 1)) (kl 1629 (ka 3)))) (kb 1634 (kl 1631 (kh (ag_do at_O (ad_putf 12 59 (.array (.boolean))) 3))) (kb 1635 (kl 1634 (kp (am_aload 0 1) 1)) (kl 1635 (kp (am_push (.int 48) 2) 1)))))) (kb 1647 (kb 1642 (kb 1639 (kl 1637 (ka 0)) (kl 1639 (kh (ag_do at_O (ad_putf 12 60 (.array (.int))) 3)))) (kb 1643 (kl 1642 (kp (am_aload 0 1) 1)) (kb 1645 (kl 1643 (kp (am_push (.int 48) 2) 1)) (kl 1645 (ka 0))))) (kb 1653 (kb 1650 (kl 1647 (kh (ag_do at_O (ad_putf 12 61 (.array (.int))) 3))) (kb 1651 (kl 1650 (kp (am_aload 0 1) 1)) (kl 1651 (kp (am_push (.int 48) 2) 1)))) (kb 1655 (kl 1653 (ka 0)) (kb 1658 (kl 1655 (kh (ag_do at_O (ad_putf 12 62 (.array (.int))) 3))) (kl 1658 (kp (am_aload 0 1) 1))))))) (kb 1681 (kb 1668 (kb 1663 (kb 1661 (kl 1659 (kp (am_push (.int 48) 2) 1)) (kl 1661 (ka 0))) (kb 1666 (kl 1663 (kh (ag_do at_O (ad_putf 12 63 (.array (.int))) 3))) (kb 1667 (kl 1666 (kp (am_aload 0 1) 1)) (kl 1667 (kp (am_push (.int (-1)) 1) 1))))) (kb 1675 (kb 1671 (kl 1668 (kh (ag_do at_O (ad_putf 12 64 (.int)) 3))) (kb 1672 (kl 1671 (kp (am_aload 0 1) 1)) (kl 1672 (kp (am_push (.int 800) 3) 1)))) (kb 1677 (kl 1675 (ka 0)) (kb 1680 (kl 1677 (kh (ag_do at_O (ad_putf 12 65 (.array (.int))) 3))) (kl 1680 (kp (am_aload 0 1) 1)))))) (kb 1695 (kb 1689 (kb 1684 (kl 1681 (kp (am_push (.int 800) 3) 1)) (kb 1686 (kl 1684 (ka 0)) (kl 1686 (kh (ag_do at_O (ad_putf 12 66 (.array (.int))) 3))))) (kb 1690 (kl 1689 (kp (am_aload 0 1) 1)) (kb 1693 (kl 1690 (kp (am_push (.int 800) 3) 1)) (kl 1693 (ka 0))))) (kb 1702 (kb 1698 (kl 1695 (kh (ag_do at_O (ad_putf 12 67 (.array (.int))) 3))) (kb 1699 (kl 1698 (kp (am_aload 0 1) 1)) (kl 1699 (kp (am_push (.int 800) 3) 1)))) (kb 1704 (kl 1702 (ka 1)) (kb 1707 (kl 1704 (kh (ag_do at_O (ad_putf 12 68 (.array (.long))) 3))) (kl 1707 (kp (am_aload 0 1) 1))))))))))) (kb 2077 (kb 1890 (kb 1801 (kb 1754 (kb 1731 (kb 1718 (kb 1712 (kb 1710 (kl 1708 (kp (am_push (.int 60) 2) 1)) (kl 1710 (ka 0))) (kb 1715 (kl 1712 (kh (ag_do at_O (ad_putf 12 76 (.array (.int))) 3))) (kb 1716 (kl 1715 (kp (am_aload 0 1) 1)) (kl 1716 (kp (am_push (.int 60) 2) 1))))) (kb 1724 (kb 1720 (kl 1718 (ka 0)) (kb 1723 (kl 1720 (kh (ag_do at_O (ad_putf 12 77 (.array (.int))) 3))) (kl 1723 (kp (am_aload 0 1) 1)))) (kb 1726 (kl 1724 (kp (am_push (.int 60) 2) 1)) (kb 1728 (kl 1726 (ka 0)) (kl 1728 (kh (ag_do at_O (ad_putf 12 78 (.array (.int))) 3))))))) (kb 1740 (kb 1734 (kb 1732 (kl 1731 (kp (am_aload 0 1) 1)) (kl 1732 (kp (am_push (.int 60) 2) 1))) (kb 1736 (kl 1734 (ka 0)) (kb 1739 (kl 1736 (kh (ag_do at_O (ad_putf 12 79 (.array (.int))) 3))) (kl 1739 (kp (am_aload 0 1) 1))))) (kb 1748 (kb 1743 (kl 1740 (kp (am_push (.int 540) 3) 1)) (kb 1745 (kl 1743 (ka 0)) (kl 1745 (kh (ag_do at_O (ad_putf 12 80 (.array (.int))) 3))))) (kb 1749 (kl 1748 (kp (am_aload 0 1) 1)) (kb 1752 (kl 1749 (kp (am_push (.int 540) 3) 1)) (kl 1752 (ka 0))))))) (kb 1779 (kb 1766 (kb 1758 (kb 1757 (kl 1754 (kh (ag_do at_O (ad_putf 12 81 (.array (.int))) 3))) (kl 1757 (kp (am_aload 0 1) 1))) (kb 1761 (kl 1758 (kp (am_push (.int 540) 3) 1)) (kb 1763 (kl 1761 (ka 0)) (kl 1763 (kh (ag_do at_O (ad_putf 12 82 (.array (.int))) 3)))))) (kb 1772 (kb 1767 (kl 1766 (kp (am_aload 0 1) 1)) (kb 1770 (kl 1767 (kp (am_push (.int 540) 3) 1)) (kl 1770 (ka 3)))) (kb 1775 (kl 1772 (kh (ag_do at_O (ad_putf 12 83 (.array (.boolean))) 3))) (kb 1776 (kl 1775 (kp (am_aload 0 1) 1)) (kl 1776 (kp (am_push (.int 540) 3) 1)))))) (kb 1789 (kb 1784 (kb 1781 (kl 1779 (ka 1)) (kl 1781 (kh (ag_do at_O (ad_putf 12 84 (.array (.long))) 3)))) (kb 1785 (kl 1784 (kp (am_aload 0 1) 1)) (kb 1787 (kl 1785 (kp (am_push (.int 60) 2) 1)) (kl 1787 (ka 0))))) (kb 1795 (kb 1792 (kl 1789 (kh (ag_do at_O (ad_putf 12 85 (.array (.int))) 3))) (kb 1793 (kl 1792 (kp (am_aload 0 1) 1)) (kl 1793 (kp (am_push (.int 60) 2) 1)))) (kb 1797 (kl 1795 (ka 0)) (kb 1800 (kl 1797 (kh (ag_do at_O (ad_putf 12 86 (.array (.int))) 3))) (kl 1800 (kp (am_aload 0 1) 1)))))))) (kb 1845 (kb 1824 (kb 1811 (kb 1805 (kb 1803 (kl 1801 (kp (am_push (.int 60) 2) 1)) (kl 1803 (ka 0))) (kb 1808 (kl 1805 (kh (ag_do at_O (ad_putf 12 87 (.array (.int))) 3))) (kb 1809 (kl 1808 (kp (am_aload 0 1) 1)) (kl 1809 (kp (am_push (.int 60) 2) 1))))) (kb 1817 (kb 1813 (kl 1811 (ka 0)) (kb 1816 (kl 1813 (kh (ag_do at_O (ad_putf 12 88 (.array (.int))) 3))) (kl 1816 (kp (am_aload 0 1) 1)))) (kb 1819 (kl 1817 (kp (am_push (.int 60) 2) 1)) (kb 1821 (kl 1819 (ka 3)) (kl 1821 (kh (ag_do at_O (ad_putf 12 89 (.array (.boolean))) 3))))))) (kb 1833 (kb 1827 (kb 1825 (kl 1824 (kp (am_aload 0 1) 1)) (kl 1825 (kp (am_push (.int 60) 2) 1))) (kb 1829 (kl 1827 (ka 3)) (kb 1832 (kl 1829 (kh (ag_do at_O (ad_putf 12 90 (.array (.boolean))) 3))) (kl 1832 (kp (am_aload 0 1) 1))))) (kb 1840 (kb 1835 (kl 1833 (kp (am_push (.int 60) 2) 1)) (kb 1837 (kl 1835 (ka 1)) (kl 1837 (kh (ag_do at_O (ad_putf 12 91 (.array (.long))) 3))))) (kb 1841 (kl 1840 (kp (am_aload 0 1) 1)) (kb 1843 (kl 1841 (kp (am_push (.int 60) 2) 1)) (kl 1843 (ka 1))))))) (kb 1867 (kb 1856 (kb 1849 (kb 1848 (kl 1845 (kh (ag_do at_O (ad_putf 12 92 (.array (.long))) 3))) (kl 1848 (kp (am_aload 0 1) 1))) (kb 1851 (kl 1849 (kp (am_push (.int 8) 2) 1)) (kb 1853 (kl 1851 (ka 0)) (kl 1853 (kh (ag_do at_O (ad_putf 12 93 (.array (.int))) 3)))))) (kb 1861 (kb 1857 (kl 1856 (kp (am_aload 0 1) 1)) (kb 1859 (kl 1857 (kp (am_push (.int 96) 2) 1)) (kl 1859 (ka 0)))) (kb 1864 (kl 1861 (kh (ag_do at_O (ad_putf 12 94 (.array (.int))) 3))) (kb 1865 (kl 1864 (kp (am_aload 0 1) 1)) (kl 1865 (kp (am_push (.int 16) 2) 1)))))) (kb 1877 (kb 1872 (kb 1869 (kl 1867 (ka 0)) (kl 1869 (kh (ag_do at_O (ad_putf 12 95 (.array (.int))) 3)))) (kb 1873 (kl 1872 (kp (am_aload 0 1) 1)) (kb 1875 (kl 1873 (kp (am_push (.int 16) 2) 1)) (kl 1875 (ka 0))))) (kb 1884 (kb 1880 (kl 1877 (kh (ag_do at_O (ad_putf 12 96 (.array (.int))) 3))) (kb 1881 (kl 1880 (kp (am_aload 0 1) 1)) (kl 1881 (kp (am_push (.int 128) 3) 1)))) (kb 1886 (kl 1884 (ka 1)) (kb 1889 (kl 1886 (kh (ag_do at_O (ad_putf 12 97 (.array (.long))) 3))) (kl 1889 (kp (am_aload 0 1) 1))))))))) (kb 1987 (kb 1940 (kb 1916 (kb 1902 (kb 1895 (kb 1893 (kl 1890 (kp (am_push (.int 128) 3) 1)) (kl 1893 (ka 1))) (kb 1898 (kl 1895 (kh (ag_do at_O (ad_putf 12 98 (.array (.long))) 3))) (kb 1899 (kl 1898 (kp (am_aload 0 1) 1)) (kl 1899 (kp (am_push (.int 240) 3) 1))))) (kb 1908 (kb 1904 (kl 1902 (ka 0)) (kb 1907 (kl 1904 (kh (ag_do at_O (ad_putf 12 101 (.array (.int))) 3))) (kl 1907 (kp (am_aload 0 1) 1)))) (kb 1911 (kl 1908 (kp (am_push (.int 240) 3) 1)) (kb 1913 (kl 1911 (ka 0)) (kl 1913 (kh (ag_do at_O (ad_putf 12 102 (.array (.int))) 3))))))) (kb 1926 (kb 1920 (kb 1917 (kl 1916 (kp (am_aload 0 1) 1)) (kl 1917 (kp (am_push (.int 240) 3) 1))) (kb 1922 (kl 1920 (ka 0)) (kb 1925 (kl 1922 (kh (ag_do at_O (ad_putf 12 103 (.array (.int))) 3))) (kl 1925 (kp (am_aload 0 1) 1))))) (kb 1934 (kb 1929 (kl 1926 (kp (am_push (.int 240) 3) 1)) (kb 1931 (kl 1929 (ka 0)) (kl 1931 (kh (ag_do at_O (ad_putf 12 104 (.array (.int))) 3))))) (kb 1935 (kl 1934 (kp (am_aload 0 1) 1)) (kb 1938 (kl 1935 (kp (am_push (.int 240) 3) 1)) (kl 1938 (ka 0))))))) (kb 1965 (kb 1952 (kb 1944 (kb 1943 (kl 1940 (kh (ag_do at_O (ad_putf 12 105 (.array (.int))) 3))) (kl 1943 (kp (am_aload 0 1) 1))) (kb 1947 (kl 1944 (kp (am_push (.int 240) 3) 1)) (kb 1949 (kl 1947 (ka 0)) (kl 1949 (kh (ag_do at_O (ad_putf 12 106 (.array (.int))) 3)))))) (kb 1958 (kb 1953 (kl 1952 (kp (am_aload 0 1) 1)) (kb 1956 (kl 1953 (kp (am_push (.int 240) 3) 1)) (kl 1956 (ka 0)))) (kb 1961 (kl 1958 (kh (ag_do at_O (ad_putf 12 107 (.array (.int))) 3))) (kb 1962 (kl 1961 (kp (am_aload 0 1) 1)) (kl 1962 (kp (am_push (.int 240) 3) 1)))))) (kb 1975 (kb 1970 (kb 1967 (kl 1965 (ka 0)) (kl 1967 (kh (ag_do at_O (ad_putf 12 108 (.array (.int))) 3)))) (kb 1971 (kl 1970 (kp (am_aload 0 1) 1)) (kb 1973 (kl 1971 (kp (am_push (.int 16) 2) 1)) (kl 1973 (ka 0))))) (kb 1981 (kb 1978 (kl 1975 (kh (ag_do at_O (ad_putf 12 109 (.array (.int))) 3))) (kb 1979 (kl 1978 (kp (am_aload 0 1) 1)) (kl 1979 (kp (am_push (.int 32) 2) 1)))) (kb 1983 (kl 1981 (ka 0)) (kb 1986 (kl 1983 (kh (ag_do at_O (ad_putf 12 110 (.array (.int))) 3))) (kl 1986 (kp (am_aload 0 1) 1)))))))) (kb 2031 (kb 2010 (kb 1997 (kb 1991 (kb 1989 (kl 1987 (kp (am_push (.int 32) 2) 1)) (kl 1989 (ka 0))) (kb 1994 (kl 1991 (kh (ag_do at_O (ad_putf 12 111 (.array (.int))) 3))) (kb 1995 (kl 1994 (kp (am_aload 0 1) 1)) (kl 1995 (kp (am_push (.int 32) 2) 1))))) (kb 2003 (kb 1999 (kl 1997 (ka 0)) (kb 2002 (kl 1999 (kh (ag_do at_O (ad_putf 12 112 (.array (.int))) 3))) (kl 2002 (kp (am_aload 0 1) 1)))) (kb 2005 (kl 2003 (kp (am_push (.int 32) 2) 1)) (kb 2007 (kl 2005 (ka 0)) (kl 2007 (kh (ag_do at_O (ad_putf 12 113 (.array (.int))) 3))))))) (kb 2019 (kb 2013 (kb 2011 (kl 2010 (kp (am_aload 0 1) 1)) (kl 2011 (kp (am_push (.int 64) 2) 1))) (kb 2015 (kl 2013 (ka 0)) (kb 2018 (kl 2015 (kh (ag_do at_O (ad_putf 12 114 (.array (.int))) 3))) (kl 2018 (kp (am_aload 0 1) 1))))) (kb 2026 (kb 2021 (kl 2019 (kp (am_push (.int 32) 2) 1)) (kb 2023 (kl 2021 (ka 1)) (kl 2023 (kh (ag_do at_O (ad_putf 12 115 (.array (.long))) 3))))) (kb 2027 (kl 2026 (kp (am_aload 0 1) 1)) (kb 2029 (kl 2027 (kp (am_push (.int 16) 2) 1)) (kl 2029 (ka 3))))))) (kb 2053 (kb 2042 (kb 2035 (kb 2034 (kl 2031 (kh (ag_do at_O (ad_putf 12 116 (.array (.boolean))) 3))) (kl 2034 (kp (am_aload 0 1) 1))) (kb 2037 (kl 2035 (kp (am_push (.int 8) 2) 1)) (kb 2039 (kl 2037 (ka 0)) (kl 2039 (kh (ag_do at_O (ad_putf 12 117 (.array (.int))) 3)))))) (kb 2047 (kb 2043 (kl 2042 (kp (am_aload 0 1) 1)) (kb 2045 (kl 2043 (kp (am_push (.int 8) 2) 1)) (kl 2045 (ka 0)))) (kb 2050 (kl 2047 (kh (ag_do at_O (ad_putf 12 118 (.array (.int))) 3))) (kb 2051 (kl 2050 (kp (am_aload 0 1) 1)) (kl 2051 (kp (am_push (.int 48) 2) 1)))))) (kb 2066 (kb 2059 (kb 2055 (kl 2053 (ka 0)) (kb 2058 (kl 2055 (kh (ag_do at_O (ad_putf 12 120 (.array (.int))) 3))) (kl 2058 (kp (am_aload 0 1) 1)))) (kb 2061 (kl 2059 (kp (am_push (.int 48) 2) 1)) (kb 2063 (kl 2061 (ka 0)) (kl 2063 (kh (ag_do at_O (ad_putf 12 121 (.array (.int))) 3)))))) (kb 2071 (kb 2067 (kl 2066 (kp (am_aload 0 1) 1)) (kb 2069 (kl 2067 (kp (am_push (.int 48) 2) 1)) (kl 2069 (ka 0)))) (kb 2074 (kl 2071 (kh (ag_do at_O (ad_putf 12 122 (.array (.int))) 3))) (kb 2075 (kl 2074 (kp (am_aload 0 1) 1)) (kl 2075 (kp (am_push (.int 12) 2) 1)))))))))) (kb 2261 (kb 2168 (kb 2120 (kb 2099 (kb 2087 (kb 2082 (kb 2079 (kl 2077 (ka 3)) (kl 2079 (kh (ag_do at_O (ad_putf 12 123 (.array (.boolean))) 3)))) (kb 2083 (kl 2082 (kp (am_aload 0 1) 1)) (kb 2085 (kl 2083 (kp (am_push (.int 12) 2) 1)) (kl 2085 (ka 0))))) (kb 2093 (kb 2090 (kl 2087 (kh (ag_do at_O (ad_putf 12 124 (.array (.int))) 3))) (kb 2091 (kl 2090 (kp (am_aload 0 1) 1)) (kl 2091 (kp (am_push (.int 16) 2) 1)))) (kb 2095 (kl 2093 (ka 3)) (kb 2098 (kl 2095 (kh (ag_do at_O (ad_putf 12 126 (.array (.boolean))) 3))) (kl 2098 (kp (am_aload 0 1) 1)))))) (kb 2108 (kb 2103 (kb 2100 (kl 2099 (kp (am_push (.int (-1)) 1) 1)) (kl 2100 (kh (ag_do at_O (ad_putf 12 130 (.int)) 3)))) (kb 2104 (kl 2103 (kp (am_aload 0 1) 1)) (kb 2106 (kl 2104 (kp (am_push (.int 48) 2) 1)) (kl 2106 (ka 0))))) (kb 2114 (kb 2111 (kl 2108 (kh (ag_do at_O (ad_putf 12 131 (.array (.int))) 3))) (kb 2112 (kl 2111 (kp (am_aload 0 1) 1)) (kl 2112 (kp (am_push (.int 12) 2) 1)))) (kb 2116 (kl 2114 (ka 0)) (kb 2119 (kl 2116 (kh (ag_do at_O (ad_putf 12 132 (.array (.int))) 3))) (kl 2119 (kp (am_aload 0 1) 1))))))) (kb 2144 (kb 2130 (kb 2124 (kb 2122 (kl 2120 (kp (am_push (.int 12) 2) 1)) (kl 2122 (ka 1))) (kb 2127 (kl 2124 (kh (ag_do at_O (ad_putf 12 133 (.array (.long))) 3))) (kb 2128 (kl 2127 (kp (am_aload 0 1) 1)) (kl 2128 (kp (am_push (.int 12) 2) 1))))) (kb 2136 (kb 2132 (kl 2130 (ka 1)) (kb 2135 (kl 2132 (kh (ag_do at_O (ad_putf 12 134 (.array (.long))) 3))) (kl 2135 (kp (am_aload 0 1) 1)))) (kb 2139 (kl 2136 (kp (am_push (.int 10608) 3) 1)) (kb 2141 (kl 2139 (ka 3)) (kl 2141 (kh (ag_do at_O (ad_putf 12 135 (.array (.boolean))) 3))))))) (kb 2154 (kb 2148 (kb 2145 (kl 2144 (kp (am_aload 0 1) 1)) (kl 2145 (kp (am_push (.int 10608) 3) 1))) (kb 2150 (kl 2148 (ka 3)) (kb 2153 (kl 2150 (kh (ag_do at_O (ad_putf 12 136 (.array (.boolean))) 3))) (kl 2153 (kp (am_aload 0 1) 1))))) (kb 2162 (kb 2157 (kl 2154 (kp (am_push (.int 384) 3) 1)) (kb 2159 (kl 2157 (ka 3)) (kl 2159 (kh (ag_do at_O (ad_putf 12 137 (.array (.boolean))) 3))))) (kb 2163 (kl 2162 (kp (am_aload 0 1) 1)) (kb 2166 (kl 2163 (kp (am_push (.int 512) 3) 1)) (kl 2166 (ka 1)))))))) (kb 2216 (kb 2192 (kb 2179 (kb 2172 (kb 2171 (kl 2168 (kh (ag_do at_O (ad_putf 12 138 (.array (.long))) 3))) (kl 2171 (kp (am_aload 0 1) 1))) (kb 2174 (kl 2172 (kp (am_push (.int 8) 2) 1)) (kb 2176 (kl 2174 (ka 0)) (kl 2176 (kh (ag_do at_O (ad_putf 12 139 (.array (.int))) 3)))))) (kb 2185 (kb 2180 (kl 2179 (kp (am_aload 0 1) 1)) (kb 2183 (kl 2180 (kp (am_push (.int 768) 3) 1)) (kl 2183 (ka 0)))) (kb 2188 (kl 2185 (kh (ag_do at_O (ad_putf 12 140 (.array (.int))) 3))) (kb 2189 (kl 2188 (kp (am_aload 0 1) 1)) (kl 2189 (kp (am_push (.int 768) 3) 1)))))) (kb 2203 (kb 2197 (kb 2194 (kl 2192 (ka 0)) (kl 2194 (kh (ag_do at_O (ad_putf 12 141 (.array (.int))) 3)))) (kb 2198 (kl 2197 (kp (am_aload 0 1) 1)) (kb 2201 (kl 2198 (kp (am_push (.int 3072) 3) 1)) (kl 2201 (ka 1))))) (kb 2210 (kb 2206 (kl 2203 (kh (ag_do at_O (ad_putf 12 142 (.array (.long))) 3))) (kb 2207 (kl 2206 (kp (am_aload 0 1) 1)) (kl 2207 (kp (am_push (.int 3072) 3) 1)))) (kb 2212 (kl 2210 (ka 1)) (kb 2215 (kl 2212 (kh (ag_do at_O (ad_putf 12 143 (.array (.long))) 3))) (kl 2215 (kp (am_aload 0 1) 1))))))) (kb 2238 (kb 2226 (kb 2221 (kb 2219 (kl 2216 (kp (am_push (.int 3072) 3) 1)) (kl 2219 (ka 1))) (kb 2224 (kl 2221 (kh (ag_do at_O (ad_putf 12 144 (.array (.long))) 3))) (kb 2225 (kl 2224 (kp (am_aload 0 1) 1)) (kl 2225 (kp (am_push (.int 4) 1) 1))))) (kb 2232 (kb 2228 (kl 2226 (ka 1)) (kb 2231 (kl 2228 (kh (ag_do at_O (ad_putf 12 145 (.array (.long))) 3))) (kl 2231 (kp (am_aload 0 1) 1)))) (kb 2233 (kl 2232 (kp (am_push (.int 4) 1) 1)) (kb 2235 (kl 2233 (ka 1)) (kl 2235 (kh (ag_do at_O (ad_putf 12 146 (.array (.long))) 3))))))) (kb 2248 (kb 2242 (kb 2239 (kl 2238 (kp (am_aload 0 1) 1)) (kb 2240 (kl 2239 (kp (am_push (.int 4) 1) 1)) (kl 2240 (ka 1)))) (kb 2245 (kl 2242 (kh (ag_do at_O (ad_putf 12 147 (.array (.long))) 3))) (kb 2246 (kl 2245 (kp (am_aload 0 1) 1)) (kl 2246 (kp (am_push (.int 41) 2) 1))))) (kb 2254 (kb 2250 (kl 2248 (ka 0)) (kb 2253 (kl 2250 (kh (ag_do at_O (ad_putf 12 153 (.array (.int))) 3))) (kl 2253 (kp (am_aload 0 1) 1)))) (kb 2256 (kl 2254 (kp (am_push (.int 41) 2) 1)) (kb 2258 (kl 2256 (ka 0)) (kl 2258 (kh (ag_do at_O (ad_putf 12 154 (.array (.int))) 3)))))))))) (kb 2356 (kb 2306 (kb 2282 (kb 2270 (kb 2264 (kb 2262 (kl 2261 (kp (am_aload 0 1) 1)) (kl 2262 (kp (am_push (.int 41) 2) 1))) (kb 2266 (kl 2264 (ka 0)) (kb 2269 (kl 2266 (kh (ag_do at_O (ad_putf 12 155 (.array (.int))) 3))) (kl 2269 (kp (am_aload 0 1) 1))))) (kb 2277 (kb 2272 (kl 2270 (kp (am_push (.int 41) 2) 1)) (kb 2274 (kl 2272 (ka 0)) (kl 2274 (kh (ag_do at_O (ad_putf 12 156 (.array (.int))) 3))))) (kb 2278 (kl 2277 (kp (am_aload 0 1) 1)) (kb 2280 (kl 2278 (kp (am_push (.int 41) 2) 1)) (kl 2280 (ka 0)))))) (kb 2293 (kb 2286 (kb 2285 (kl 2282 (kh (ag_do at_O (ad_putf 12 157 (.array (.int))) 3))) (kl 2285 (kp (am_aload 0 1) 1))) (kb 2288 (kl 2286 (kp (am_push (.int 41) 2) 1)) (kb 2290 (kl 2288 (ka 0)) (kl 2290 (kh (ag_do at_O (ad_putf 12 158 (.array (.int))) 3)))))) (kb 2299 (kb 2294 (kl 2293 (kp (am_aload 0 1) 1)) (kb 2297 (kl 2294 (kp (am_push (.int 5248) 3) 1)) (kl 2297 (ka 0)))) (kb 2302 (kl 2299 (kh (ag_do at_O (ad_putf 12 159 (.array (.int))) 3))) (kb 2303 (kl 2302 (kp (am_aload 0 1) 1)) (kl 2303 (kp (am_push (.int 164) 3) 1))))))) (kb 2330 (kb 2317 (kb 2311 (kb 2308 (kl 2306 (ka 1)) (kl 2308 (kh (ag_do at_O (ad_putf 12 160 (.array (.long))) 3)))) (kb 2312 (kl 2311 (kp (am_aload 0 1) 1)) (kb 2315 (kl 2312 (kp (am_push (.int 164) 3) 1)) (kl 2315 (ka 1))))) (kb 2324 (kb 2320 (kl 2317 (kh (ag_do at_O (ad_putf 12 161 (.array (.long))) 3))) (kb 2321 (kl 2320 (kp (am_aload 0 1) 1)) (kl 2321 (kp (am_push (.int 164) 3) 1)))) (kb 2326 (kl 2324 (ka 1)) (kb 2329 (kl 2326 (kh (ag_do at_O (ad_putf 12 162 (.array (.long))) 3))) (kl 2329 (kp (am_aload 0 1) 1)))))) (kb 2342 (kb 2335 (kb 2333 (kl 2330 (kp (am_push (.int 128) 3) 1)) (kl 2333 (ka 0))) (kb 2338 (kl 2335 (kh (ag_do at_O (ad_putf 12 163 (.array (.int))) 3))) (kb 2339 (kl 2338 (kp (am_aload 0 1) 1)) (kl 2339 (kp (am_push (.int 128) 3) 1))))) (kb 2348 (kb 2344 (kl 2342 (ka 0)) (kb 2347 (kl 2344 (kh (ag_do at_O (ad_putf 12 164 (.array (.int))) 3))) (kl 2347 (kp (am_aload 0 1) 1)))) (kb 2351 (kl 2348 (kp (am_push (.int 128) 3) 1)) (kb 2353 (kl 2351 (ka 0)) (kl 2353 (kh (ag_do at_O (ad_putf 12 165 (.array (.int))) 3))))))))) (kb 2404 (kb 2380 (kb 2366 (kb 2360 (kb 2357 (kl 2356 (kp (am_aload 0 1) 1)) (kl 2357 (kp (am_push (.int 128) 3) 1))) (kb 2362 (kl 2360 (ka 0)) (kb 2365 (kl 2362 (kh (ag_do at_O (ad_putf 12 166 (.array (.int))) 3))) (kl 2365 (kp (am_aload 0 1) 1))))) (kb 2374 (kb 2369 (kl 2366 (kp (am_push (.int 128) 3) 1)) (kb 2371 (kl 2369 (ka 0)) (kl 2371 (kh (ag_do at_O (ad_putf 12 167 (.array (.int))) 3))))) (kb 2375 (kl 2374 (kp (am_aload 0 1) 1)) (kb 2378 (kl 2375 (kp (am_push (.int (Int32.ofNat 114688)) 3) 1)) (kl 2378 (ka 0)))))) (kb 2392 (kb 2384 (kb 2383 (kl 2380 (kh (ag_do at_O (ad_putf 12 168 (.array (.int))) 3))) (kl 2383 (kp (am_aload 0 1) 1))) (kb 2387 (kl 2384 (kp (am_push (.int 6144) 3) 1)) (kb 2389 (kl 2387 (ka 0)) (kl 2389 (kh (ag_do at_O (ad_putf 12 169 (.array (.int))) 3)))))) (kb 2397 (kb 2393 (kl 2392 (kp (am_aload 0 1) 1)) (kb 2395 (kl 2393 (kp (am_push (.int 16) 2) 1)) (kl 2395 (ka 0)))) (kb 2400 (kl 2397 (kh (ag_do at_O (ad_putf 12 170 (.array (.int))) 3))) (kb 2401 (kl 2400 (kp (am_aload 0 1) 1)) (kl 2401 (kp (am_push (.int 192) 3) 1))))))) (kb 2427 (kb 2414 (kb 2409 (kb 2406 (kl 2404 (ka 1)) (kl 2406 (kh (ag_do at_O (ad_putf 12 171 (.array (.long))) 3)))) (kb 2410 (kl 2409 (kp (am_aload 0 1) 1)) (kb 2412 (kl 2410 (kp (am_push (.int 16) 2) 1)) (kl 2412 (ka 1))))) (kb 2421 (kb 2417 (kl 2414 (kh (ag_do at_O (ad_putf 12 172 (.array (.long))) 3))) (kb 2418 (kl 2417 (kp (am_aload 0 1) 1)) (kl 2418 (kp (am_push (.int 800) 3) 1)))) (kb 2423 (kl 2421 (ka 1)) (kb 2426 (kl 2423 (kh (ag_do at_O (ad_putf 12 173 (.array (.long))) 3))) (kl 2426 (kp (am_aload 0 1) 1)))))) (kb 2438 (kb 2433 (kb 2428 (kl 2427 (kp (am_push (.int 4) 1) 1)) (kb 2430 (kl 2428 (ka 1)) (kl 2430 (kh (ag_do at_O (ad_putf 12 174 (.array (.long))) 3))))) (kb 2434 (kl 2433 (kp (am_aload 0 1) 1)) (kb 2436 (kl 2434 (kp (am_push (.int 12) 2) 1)) (kl 2436 (ka 3))))) (kb 2443 (kb 2441 (kl 2438 (kh (ag_do at_O (ad_putf 12 175 (.array (.boolean))) 3))) (kb 2442 (kl 2441 (kp (am_aload 0 1) 1)) (kl 2442 (kp (am_push (.int 4) 1) 1)))) (kb 2445 (kl 2443 (ka 1)) (kb 2448 (kl 2445 (kh (ag_do at_O (ad_putf 12 178 (.array (.long))) 3))) (kl 2448 (kr (am_return (Option.none : Option FieldType)))))))))))))))
theorem ke_206 (X : ag_X) (sio : Value) : ∀ pc F, kt_206 pc = some F → kg_P X (nm_E 0 (fun _ => 0) sio) pm_206 pc F := fun _ _ => (kn_bi (kn_bi (kn_bi (kn_bi (kn_bi (kn_bi (kn_bi (kn_bi (kn_bi (kn_bi (kn_lf ⟨_, sl_206_0, fun _ _ _ => rfl⟩) (kn_lf ⟨_, sl_206_1, fun _ _ _ => rfl⟩)) (kn_bi (kn_lf ⟨_, sl_206_4, fun _ _ _ => rfl⟩) (kn_bi (kn_lf ⟨_, sl_206_5, fun _ _ _ => rfl⟩) (kn_lf ⟨_, sl_206_8, fun _ _ _ => rfl⟩)))) (kn_bi (kn_bi (kn_lf ⟨_, sl_206_10, fun _ _ _ => rfl⟩) (kn_bi (kn_lf ⟨_, sl_206_11, fun _ _ _ => rfl⟩) (kn_lf ⟨_, sl_206_12, fun _ _ _ => rfl⟩))) (kn_bi (kn_lf ⟨_, sl_206_14, fun _ _ _ => rfl⟩) (kn_bi (kn_lf ⟨_, sl_206_15, fun _ _ _ => rfl⟩) (kn_lf ⟨_, sl_206_16, fun _ _ _ => rfl⟩))))) (kn_bi (kn_bi (kn_bi (kn_lf ⟨_, sl_206_17, fun _ _ _ => rfl⟩) (kn_lf ⟨_, sl_206_19, fun _ _ _ => rfl⟩)) (kn_bi (kn_lf ⟨_, sl_206_20, fun _ _ _ => rfl⟩) (kn_bi (kn_lf ⟨_, sl_206_21, fun _ _ _ => rfl⟩) (kn_lf ⟨_, sl_206_22, fun _ _ _ => rfl⟩)))) (kn_bi (kn_bi (kn_lf ⟨_, sl_206_24, fun _ _ _ => rfl⟩) (kn_bi (kn_lf ⟨_, sl_206_25, fun _ _ _ => rfl⟩) (kn_lf ⟨_, sl_206_26, fun _ _ _ => rfl⟩))) (kn_bi (kn_lf ⟨_, sl_206_27, fun _ _ _ => rfl⟩) (kn_bi (kn_lf ⟨_, sl_206_29, fun _ _ _ => rfl⟩) (kn_lf ⟨_, sl_206_30, fun _ _ _ => rfl⟩)))))) (kn_bi (kn_bi (kn_bi (kn_bi (kn_lf ⟨_, sl_206_31, fun _ _ _ => rfl⟩) (kn_lf ⟨_, sl_206_32, fun _ _ _ => rfl⟩)) (kn_bi (kn_lf ⟨_, sl_206_34, fun _ _ _ => rfl⟩) (kn_bi (kn_lf ⟨_, sl_206_35, fun _ _ _ => rfl⟩) (kn_lf ⟨_, sl_206_36, fun _ _ _ => rfl⟩)))) (kn_bi (kn_bi (kn_lf ⟨_, sl_206_37, fun _ _ _ => rfl⟩) (kn_bi (kn_lf ⟨_, sl_206_39, fun _ _ _ => rfl⟩) (kn_lf ⟨_, sl_206_40, fun _ _ _ => rfl⟩))) (kn_bi (kn_lf ⟨_, sl_206_41, fun _ _ _ => rfl⟩) (kn_bi (kn_lf ⟨_, sl_206_43, fun _ _ _ => rfl⟩) (kn_lf ⟨_, sl_206_44, fun _ _ _ => rfl⟩))))) (kn_bi (kn_bi (kn_bi (kn_lf ⟨_, sl_206_45, fun _ _ _ => rfl⟩) (kn_lf ⟨_, sl_206_46, fun _ _ _ => rfl⟩)) (kn_bi (kn_lf ⟨_, sl_206_48, fun _ _ _ => rfl⟩) (kn_bi (kn_lf ⟨_, sl_206_50, fun _ _ _ => rfl⟩) (kn_lf ⟨_, sl_206_51, fun _ _ _ => rfl⟩)))) (kn_bi (kn_bi (kn_lf ⟨_, sl_206_52, fun _ _ _ => rfl⟩) (kn_bi (kn_lf ⟨_, sl_206_54, fun _ _ _ => rfl⟩) (kn_lf ⟨_, sl_206_56, fun _ _ _ => rfl⟩))) (kn_bi (kn_lf ⟨_, sl_206_57, fun _ _ _ => rfl⟩) (kn_bi (kn_lf ⟨_, sl_206_58, fun _ _ _ => rfl⟩) (kn_lf ⟨_, sl_206_60, fun _ _ _ => rfl⟩))))))) (kn_bi (kn_bi (kn_bi (kn_bi (kn_bi (kn_lf ⟨_, sl_206_62, fun _ _ _ => rfl⟩) (kn_lf ⟨_, sl_206_63, fun _ _ _ => rfl⟩)) (kn_bi (kn_lf ⟨_, sl_206_64, fun _ _ _ => rfl⟩) (kn_bi (kn_lf ⟨_, sl_206_66, fun _ _ _ => rfl⟩) (kn_lf ⟨_, sl_206_67, fun _ _ _ => rfl⟩)))) (kn_bi (kn_bi (kn_lf ⟨_, sl_206_68, fun _ _ _ => rfl⟩) (kn_bi (kn_lf ⟨_, sl_206_69, fun _ _ _ => rfl⟩) (kn_lf ⟨_, sl_206_71, fun _ _ _ => rfl⟩))) (kn_bi (kn_lf ⟨_, sl_206_73, fun _ _ _ => rfl⟩) (kn_bi (kn_lf ⟨_, sl_206_74, fun _ _ _ => rfl⟩) (kn_lf ⟨_, sl_206_75, fun _ _ _ => rfl⟩))))) (kn_bi (kn_bi (kn_bi (kn_lf ⟨_, sl_206_77, fun _ _ _ => rfl⟩) (kn_lf ⟨_, sl_206_79, fun _ _ _ => rfl⟩)) (kn_bi (kn_lf ⟨_, sl_206_80, fun _ _ _ => rfl⟩) (kn_bi (kn_lf ⟨_, sl_206_81, fun _ _ _ => rfl⟩) (kn_lf ⟨_, sl_206_83, fun _ _ _ => rfl⟩)))) (kn_bi (kn_bi (kn_lf ⟨_, sl_206_85, fun _ _ _ => rfl⟩) (kn_bi (kn_lf ⟨_, sl_206_86, fun _ _ _ => rfl⟩) (kn_lf ⟨_, sl_206_87, fun _ _ _ => rfl⟩))) (kn_bi (kn_lf ⟨_, sl_206_89, fun _ _ _ => rfl⟩) (kn_bi (kn_lf ⟨_, sl_206_91, fun _ _ _ => rfl⟩) (kn_lf ⟨_, sl_206_92, fun _ _ _ => rfl⟩)))))) (kn_bi (kn_bi (kn_bi (kn_bi (kn_lf ⟨_, sl_206_93, fun _ _ _ => rfl⟩) (kn_lf ⟨_, sl_206_95, fun _ _ _ => rfl⟩)) (kn_bi (kn_lf ⟨_, sl_206_96, fun _ _ _ => rfl⟩) (kn_bi (kn_lf ⟨_, sl_206_97, fun _ _ _ => rfl⟩) (kn_lf ⟨_, sl_206_98, fun _ _ _ => rfl⟩)))) (kn_bi (kn_bi (kn_lf ⟨_, sl_206_100, fun _ _ _ => rfl⟩) (kn_bi (kn_lf ⟨_, sl_206_102, fun _ _ _ => rfl⟩) (kn_lf ⟨_, sl_206_103, fun _ _ _ => rfl⟩))) (kn_bi (kn_lf ⟨_, sl_206_104, fun _ _ _ => rfl⟩) (kn_bi (kn_lf ⟨_, sl_206_106, fun _ _ _ => rfl⟩) (kn_lf ⟨_, sl_206_108, fun _ _ _ => rfl⟩))))) (kn_bi (kn_bi (kn_bi (kn_lf ⟨_, sl_206_109, fun _ _ _ => rfl⟩) (kn_lf ⟨_, sl_206_110, fun _ _ _ => rfl⟩)) (kn_bi (kn_lf ⟨_, sl_206_112, fun _ _ _ => rfl⟩) (kn_bi (kn_lf ⟨_, sl_206_114, fun _ _ _ => rfl⟩) (kn_lf ⟨_, sl_206_115, fun _ _ _ => rfl⟩)))) (kn_bi (kn_bi (kn_lf ⟨_, sl_206_116, fun _ _ _ => rfl⟩) (kn_bi (kn_lf ⟨_, sl_206_118, fun _ _ _ => rfl⟩) (kn_lf ⟨_, sl_206_120, fun _ _ _ => rfl⟩))) (kn_bi (kn_lf ⟨_, sl_206_121, fun _ _ _ => rfl⟩) (kn_bi (kn_lf ⟨_, sl_206_122, fun _ _ _ => rfl⟩) (kn_lf ⟨_, sl_206_124, fun _ _ _ => rfl⟩)))))))) (kn_bi (kn_bi (kn_bi (kn_bi (kn_bi (kn_bi (kn_lf ⟨_, sl_206_126, fun _ _ _ => rfl⟩) (kn_lf ⟨_, sl_206_127, fun _ _ _ => rfl⟩)) (kn_bi (kn_lf ⟨_, sl_206_128, fun _ _ _ => rfl⟩) (kn_bi (kn_lf ⟨_, sl_206_130, fun _ _ _ => rfl⟩) (kn_lf ⟨_, sl_206_131, fun _ _ _ => rfl⟩)))) (kn_bi (kn_bi (kn_lf ⟨_, sl_206_132, fun _ _ _ => rfl⟩) (kn_bi (kn_lf ⟨_, sl_206_133, fun _ _ _ => rfl⟩) (kn_lf ⟨_, sl_206_135, fun _ _ _ => rfl⟩))) (kn_bi (kn_lf ⟨_, sl_206_137, fun _ _ _ => rfl⟩) (kn_bi (kn_lf ⟨_, sl_206_138, fun _ _ _ => rfl⟩) (kn_lf ⟨_, sl_206_139, fun _ _ _ => rfl⟩))))) (kn_bi (kn_bi (kn_bi (kn_lf ⟨_, sl_206_141, fun _ _ _ => rfl⟩) (kn_lf ⟨_, sl_206_143, fun _ _ _ => rfl⟩)) (kn_bi (kn_lf ⟨_, sl_206_144, fun _ _ _ => rfl⟩) (kn_bi (kn_lf ⟨_, sl_206_145, fun _ _ _ => rfl⟩) (kn_lf ⟨_, sl_206_147, fun _ _ _ => rfl⟩)))) (kn_bi (kn_bi (kn_lf ⟨_, sl_206_149, fun _ _ _ => rfl⟩) (kn_bi (kn_lf ⟨_, sl_206_150, fun _ _ _ => rfl⟩) (kn_lf ⟨_, sl_206_151, fun _ _ _ => rfl⟩))) (kn_bi (kn_lf ⟨_, sl_206_153, fun _ _ _ => rfl⟩) (kn_bi (kn_lf ⟨_, sl_206_155, fun _ _ _ => rfl⟩) (kn_lf ⟨_, sl_206_156, fun _ _ _ => rfl⟩)))))) (kn_bi (kn_bi (kn_bi (kn_bi (kn_lf ⟨_, sl_206_157, fun _ _ _ => rfl⟩) (kn_lf ⟨_, sl_206_159, fun _ _ _ => rfl⟩)) (kn_bi (kn_lf ⟨_, sl_206_161, fun _ _ _ => rfl⟩) (kn_bi (kn_lf ⟨_, sl_206_162, fun _ _ _ => rfl⟩) (kn_lf ⟨_, sl_206_163, fun _ _ _ => rfl⟩)))) (kn_bi (kn_bi (kn_lf ⟨_, sl_206_165, fun _ _ _ => rfl⟩) (kn_bi (kn_lf ⟨_, sl_206_166, fun _ _ _ => rfl⟩) (kn_lf ⟨_, sl_206_167, fun _ _ _ => rfl⟩))) (kn_bi (kn_lf ⟨_, sl_206_168, fun _ _ _ => rfl⟩) (kn_bi (kn_lf ⟨_, sl_206_170, fun _ _ _ => rfl⟩) (kn_lf ⟨_, sl_206_172, fun _ _ _ => rfl⟩))))) (kn_bi (kn_bi (kn_bi (kn_lf ⟨_, sl_206_173, fun _ _ _ => rfl⟩) (kn_lf ⟨_, sl_206_174, fun _ _ _ => rfl⟩)) (kn_bi (kn_lf ⟨_, sl_206_176, fun _ _ _ => rfl⟩) (kn_bi (kn_lf ⟨_, sl_206_178, fun _ _ _ => rfl⟩) (kn_lf ⟨_, sl_206_179, fun _ _ _ => rfl⟩)))) (kn_bi (kn_bi (kn_lf ⟨_, sl_206_180, fun _ _ _ => rfl⟩) (kn_bi (kn_lf ⟨_, sl_206_182, fun _ _ _ => rfl⟩) (kn_lf ⟨_, sl_206_184, fun _ _ _ => rfl⟩))) (kn_bi (kn_lf ⟨_, sl_206_185, fun _ _ _ => rfl⟩) (kn_bi (kn_lf ⟨_, sl_206_186, fun _ _ _ => rfl⟩) (kn_lf ⟨_, sl_206_188, fun _ _ _ => rfl⟩))))))) (kn_bi (kn_bi (kn_bi (kn_bi (kn_bi (kn_lf ⟨_, sl_206_190, fun _ _ _ => rfl⟩) (kn_lf ⟨_, sl_206_191, fun _ _ _ => rfl⟩)) (kn_bi (kn_lf ⟨_, sl_206_192, fun _ _ _ => rfl⟩) (kn_bi (kn_lf ⟨_, sl_206_194, fun _ _ _ => rfl⟩) (kn_lf ⟨_, sl_206_196, fun _ _ _ => rfl⟩)))) (kn_bi (kn_bi (kn_lf ⟨_, sl_206_197, fun _ _ _ => rfl⟩) (kn_bi (kn_lf ⟨_, sl_206_198, fun _ _ _ => rfl⟩) (kn_lf ⟨_, sl_206_200, fun _ _ _ => rfl⟩))) (kn_bi (kn_lf ⟨_, sl_206_202, fun _ _ _ => rfl⟩) (kn_bi (kn_lf ⟨_, sl_206_203, fun _ _ _ => rfl⟩) (kn_lf ⟨_, sl_206_204, fun _ _ _ => rfl⟩))))) (kn_bi (kn_bi (kn_bi (kn_lf ⟨_, sl_206_206, fun _ _ _ => rfl⟩) (kn_lf ⟨_, sl_206_208, fun _ _ _ => rfl⟩)) (kn_bi (kn_lf ⟨_, sl_206_209, fun _ _ _ => rfl⟩) (kn_bi (kn_lf ⟨_, sl_206_210, fun _ _ _ => rfl⟩) (kn_lf ⟨_, sl_206_212, fun _ _ _ => rfl⟩)))) (kn_bi (kn_bi (kn_lf ⟨_, sl_206_213, fun _ _ _ => rfl⟩) (kn_bi (kn_lf ⟨_, sl_206_214, fun _ _ _ => rfl⟩) (kn_lf ⟨_, sl_206_215, fun _ _ _ => rfl⟩))) (kn_bi (kn_lf ⟨_, sl_206_217, fun _ _ _ => rfl⟩) (kn_bi (kn_lf ⟨_, sl_206_219, fun _ _ _ => rfl⟩) (kn_lf ⟨_, sl_206_220, fun _ _ _ => rfl⟩)))))) (kn_bi (kn_bi (kn_bi (kn_bi (kn_lf ⟨_, sl_206_221, fun _ _ _ => rfl⟩) (kn_lf ⟨_, sl_206_223, fun _ _ _ => rfl⟩)) (kn_bi (kn_lf ⟨_, sl_206_225, fun _ _ _ => rfl⟩) (kn_bi (kn_lf ⟨_, sl_206_226, fun _ _ _ => rfl⟩) (kn_lf ⟨_, sl_206_227, fun _ _ _ => rfl⟩)))) (kn_bi (kn_bi (kn_lf ⟨_, sl_206_229, fun _ _ _ => rfl⟩) (kn_bi (kn_lf ⟨_, sl_206_231, fun _ _ _ => rfl⟩) (kn_lf ⟨_, sl_206_232, fun _ _ _ => rfl⟩))) (kn_bi (kn_lf ⟨_, sl_206_233, fun _ _ _ => rfl⟩) (kn_bi (kn_lf ⟨_, sl_206_235, fun _ _ _ => rfl⟩) (kn_lf ⟨_, sl_206_237, fun _ _ _ => rfl⟩))))) (kn_bi (kn_bi (kn_bi (kn_lf ⟨_, sl_206_238, fun _ _ _ => rfl⟩) (kn_bi (kn_lf ⟨_, sl_206_239, fun _ _ _ => rfl⟩) (kn_lf ⟨_, sl_206_241, fun _ _ _ => rfl⟩))) (kn_bi (kn_lf ⟨_, sl_206_242, fun _ _ _ => rfl⟩) (kn_bi (kn_lf ⟨_, sl_206_243, fun _ _ _ => rfl⟩) (kn_lf ⟨_, sl_206_244, fun _ _ _ => rfl⟩)))) (kn_bi (kn_bi (kn_lf ⟨_, sl_206_246, fun _ _ _ => rfl⟩) (kn_bi (kn_lf ⟨_, sl_206_248, fun _ _ _ => rfl⟩) (kn_lf ⟨_, sl_206_249, fun _ _ _ => rfl⟩))) (kn_bi (kn_lf ⟨_, sl_206_250, fun _ _ _ => rfl⟩) (kn_bi (kn_lf ⟨_, sl_206_252, fun _ _ _ => rfl⟩) (kn_lf ⟨_, sl_206_254, fun _ _ _ => rfl⟩))))))))) (kn_bi (kn_bi (kn_bi (kn_bi (kn_bi (kn_bi (kn_bi (kn_lf ⟨_, sl_206_255, fun _ _ _ => rfl⟩) (kn_lf ⟨_, sl_206_256, fun _ _ _ => rfl⟩)) (kn_bi (kn_lf ⟨_, sl_206_258, fun _ _ _ => rfl⟩) (kn_bi (kn_lf ⟨_, sl_206_260, fun _ _ _ => rfl⟩) (kn_lf ⟨_, sl_206_261, fun _ _ _ => rfl⟩)))) (kn_bi (kn_bi (kn_lf ⟨_, sl_206_262, fun _ _ _ => rfl⟩) (kn_bi (kn_lf ⟨_, sl_206_264, fun _ _ _ => rfl⟩) (kn_lf ⟨_, sl_206_266, fun _ _ _ => rfl⟩))) (kn_bi (kn_lf ⟨_, sl_206_267, fun _ _ _ => rfl⟩) (kn_bi (kn_lf ⟨_, sl_206_268, fun _ _ _ => rfl⟩) (kn_lf ⟨_, sl_206_270, fun _ _ _ => rfl⟩))))) (kn_bi (kn_bi (kn_bi (kn_lf ⟨_, sl_206_272, fun _ _ _ => rfl⟩) (kn_lf ⟨_, sl_206_273, fun _ _ _ => rfl⟩)) (kn_bi (kn_lf ⟨_, sl_206_274, fun _ _ _ => rfl⟩) (kn_bi (kn_lf ⟨_, sl_206_276, fun _ _ _ => rfl⟩) (kn_lf ⟨_, sl_206_278, fun _ _ _ => rfl⟩)))) (kn_bi (kn_bi (kn_lf ⟨_, sl_206_279, fun _ _ _ => rfl⟩) (kn_bi (kn_lf ⟨_, sl_206_280, fun _ _ _ => rfl⟩) (kn_lf ⟨_, sl_206_282, fun _ _ _ => rfl⟩))) (kn_bi (kn_lf ⟨_, sl_206_283, fun _ _ _ => rfl⟩) (kn_bi (kn_lf ⟨_, sl_206_284, fun _ _ _ => rfl⟩) (kn_lf ⟨_, sl_206_285, fun _ _ _ => rfl⟩)))))) (kn_bi (kn_bi (kn_bi (kn_bi (kn_lf ⟨_, sl_206_287, fun _ _ _ => rfl⟩) (kn_lf ⟨_, sl_206_289, fun _ _ _ => rfl⟩)) (kn_bi (kn_lf ⟨_, sl_206_290, fun _ _ _ => rfl⟩) (kn_bi (kn_lf ⟨_, sl_206_291, fun _ _ _ => rfl⟩) (kn_lf ⟨_, sl_206_293, fun _ _ _ => rfl⟩)))) (kn_bi (kn_bi (kn_lf ⟨_, sl_206_295, fun _ _ _ => rfl⟩) (kn_bi (kn_lf ⟨_, sl_206_296, fun _ _ _ => rfl⟩) (kn_lf ⟨_, sl_206_297, fun _ _ _ => rfl⟩))) (kn_bi (kn_lf ⟨_, sl_206_299, fun _ _ _ => rfl⟩) (kn_bi (kn_lf ⟨_, sl_206_301, fun _ _ _ => rfl⟩) (kn_lf ⟨_, sl_206_302, fun _ _ _ => rfl⟩))))) (kn_bi (kn_bi (kn_bi (kn_lf ⟨_, sl_206_303, fun _ _ _ => rfl⟩) (kn_lf ⟨_, sl_206_305, fun _ _ _ => rfl⟩)) (kn_bi (kn_lf ⟨_, sl_206_307, fun _ _ _ => rfl⟩) (kn_bi (kn_lf ⟨_, sl_206_308, fun _ _ _ => rfl⟩) (kn_lf ⟨_, sl_206_309, fun _ _ _ => rfl⟩)))) (kn_bi (kn_bi (kn_lf ⟨_, sl_206_311, fun _ _ _ => rfl⟩) (kn_bi (kn_lf ⟨_, sl_206_313, fun _ _ _ => rfl⟩) (kn_lf ⟨_, sl_206_314, fun _ _ _ => rfl⟩))) (kn_bi (kn_lf ⟨_, sl_206_315, fun _ _ _ => rfl⟩) (kn_bi (kn_lf ⟨_, sl_206_317, fun _ _ _ => rfl⟩) (kn_lf ⟨_, sl_206_319, fun _ _ _ => rfl⟩))))))) (kn_bi (kn_bi (kn_bi (kn_bi (kn_bi (kn_lf ⟨_, sl_206_320, fun _ _ _ => rfl⟩) (kn_lf ⟨_, sl_206_321, fun _ _ _ => rfl⟩)) (kn_bi (kn_lf ⟨_, sl_206_323, fun _ _ _ => rfl⟩) (kn_bi (kn_lf ⟨_, sl_206_325, fun _ _ _ => rfl⟩) (kn_lf ⟨_, sl_206_326, fun _ _ _ => rfl⟩)))) (kn_bi (kn_bi (kn_lf ⟨_, sl_206_327, fun _ _ _ => rfl⟩) (kn_bi (kn_lf ⟨_, sl_206_329, fun _ _ _ => rfl⟩) (kn_lf ⟨_, sl_206_330, fun _ _ _ => rfl⟩))) (kn_bi (kn_lf ⟨_, sl_206_331, fun _ _ _ => rfl⟩) (kn_bi (kn_lf ⟨_, sl_206_332, fun _ _ _ => rfl⟩) (kn_lf ⟨_, sl_206_334, fun _ _ _ => rfl⟩))))) (kn_bi (kn_bi (kn_bi (kn_lf ⟨_, sl_206_336, fun _ _ _ => rfl⟩) (kn_lf ⟨_, sl_206_337, fun _ _ _ => rfl⟩)) (kn_bi (kn_lf ⟨_, sl_206_338, fun _ _ _ => rfl⟩) (kn_bi (kn_lf ⟨_, sl_206_340, fun _ _ _ => rfl⟩) (kn_lf ⟨_, sl_206_342, fun _ _ _ => rfl⟩)))) (kn_bi (kn_bi (kn_lf ⟨_, sl_206_343, fun _ _ _ => rfl⟩) (kn_bi (kn_lf ⟨_, sl_206_344, fun _ _ _ => rfl⟩) (kn_lf ⟨_, sl_206_346, fun _ _ _ => rfl⟩))) (kn_bi (kn_lf ⟨_, sl_206_348, fun _ _ _ => rfl⟩) (kn_bi (kn_lf ⟨_, sl_206_349, fun _ _ _ => rfl⟩) (kn_lf ⟨_, sl_206_350, fun _ _ _ => rfl⟩)))))) (kn_bi (kn_bi (kn_bi (kn_bi (kn_lf ⟨_, sl_206_352, fun _ _ _ => rfl⟩) (kn_lf ⟨_, sl_206_354, fun _ _ _ => rfl⟩)) (kn_bi (kn_lf ⟨_, sl_206_355, fun _ _ _ => rfl⟩) (kn_bi (kn_lf ⟨_, sl_206_356, fun _ _ _ => rfl⟩) (kn_lf ⟨_, sl_206_358, fun _ _ _ => rfl⟩)))) (kn_bi (kn_bi (kn_lf ⟨_, sl_206_360, fun _ _ _ => rfl⟩) (kn_bi (kn_lf ⟨_, sl_206_361, fun _ _ _ => rfl⟩) (kn_lf ⟨_, sl_206_362, fun _ _ _ => rfl⟩))) (kn_bi (kn_lf ⟨_, sl_206_364, fun _ _ _ => rfl⟩) (kn_bi (kn_lf ⟨_, sl_206_366, fun _ _ _ => rfl⟩) (kn_lf ⟨_, sl_206_367, fun _ _ _ => rfl⟩))))) (kn_bi (kn_bi (kn_bi (kn_lf ⟨_, sl_206_368, fun _ _ _ => rfl⟩) (kn_bi (kn_lf ⟨_, sl_206_370, fun _ _ _ => rfl⟩) (kn_lf ⟨_, sl_206_371, fun _ _ _ => rfl⟩))) (kn_bi (kn_lf ⟨_, sl_206_372, fun _ _ _ => rfl⟩) (kn_bi (kn_lf ⟨_, sl_206_373, fun _ _ _ => rfl⟩) (kn_lf ⟨_, sl_206_375, fun _ _ _ => rfl⟩)))) (kn_bi (kn_bi (kn_lf ⟨_, sl_206_377, fun _ _ _ => rfl⟩) (kn_bi (kn_lf ⟨_, sl_206_378, fun _ _ _ => rfl⟩) (kn_lf ⟨_, sl_206_379, fun _ _ _ => rfl⟩))) (kn_bi (kn_lf ⟨_, sl_206_381, fun _ _ _ => rfl⟩) (kn_bi (kn_lf ⟨_, sl_206_383, fun _ _ _ => rfl⟩) (kn_lf ⟨_, sl_206_384, fun _ _ _ => rfl⟩)))))))) (kn_bi (kn_bi (kn_bi (kn_bi (kn_bi (kn_bi (kn_lf ⟨_, sl_206_385, fun _ _ _ => rfl⟩) (kn_lf ⟨_, sl_206_387, fun _ _ _ => rfl⟩)) (kn_bi (kn_lf ⟨_, sl_206_389, fun _ _ _ => rfl⟩) (kn_bi (kn_lf ⟨_, sl_206_390, fun _ _ _ => rfl⟩) (kn_lf ⟨_, sl_206_391, fun _ _ _ => rfl⟩)))) (kn_bi (kn_bi (kn_lf ⟨_, sl_206_393, fun _ _ _ => rfl⟩) (kn_bi (kn_lf ⟨_, sl_206_395, fun _ _ _ => rfl⟩) (kn_lf ⟨_, sl_206_396, fun _ _ _ => rfl⟩))) (kn_bi (kn_lf ⟨_, sl_206_397, fun _ _ _ => rfl⟩) (kn_bi (kn_lf ⟨_, sl_206_399, fun _ _ _ => rfl⟩) (kn_lf ⟨_, sl_206_401, fun _ _ _ => rfl⟩))))) (kn_bi (kn_bi (kn_bi (kn_lf ⟨_, sl_206_402, fun _ _ _ => rfl⟩) (kn_lf ⟨_, sl_206_403, fun _ _ _ => rfl⟩)) (kn_bi (kn_lf ⟨_, sl_206_405, fun _ _ _ => rfl⟩) (kn_bi (kn_lf ⟨_, sl_206_406, fun _ _ _ => rfl⟩) (kn_lf ⟨_, sl_206_407, fun _ _ _ => rfl⟩)))) (kn_bi (kn_bi (kn_lf ⟨_, sl_206_408, fun _ _ _ => rfl⟩) (kn_bi (kn_lf ⟨_, sl_206_410, fun _ _ _ => rfl⟩) (kn_lf ⟨_, sl_206_412, fun _ _ _ => rfl⟩))) (kn_bi (kn_lf ⟨_, sl_206_413, fun _ _ _ => rfl⟩) (kn_bi (kn_lf ⟨_, sl_206_414, fun _ _ _ => rfl⟩) (kn_lf ⟨_, sl_206_416, fun _ _ _ => rfl⟩)))))) (kn_bi (kn_bi (kn_bi (kn_bi (kn_lf ⟨_, sl_206_418, fun _ _ _ => rfl⟩) (kn_lf ⟨_, sl_206_419, fun _ _ _ => rfl⟩)) (kn_bi (kn_lf ⟨_, sl_206_420, fun _ _ _ => rfl⟩) (kn_bi (kn_lf ⟨_, sl_206_422, fun _ _ _ => rfl⟩) (kn_lf ⟨_, sl_206_424, fun _ _ _ => rfl⟩)))) (kn_bi (kn_bi (kn_lf ⟨_, sl_206_425, fun _ _ _ => rfl⟩) (kn_bi (kn_lf ⟨_, sl_206_426, fun _ _ _ => rfl⟩) (kn_lf ⟨_, sl_206_428, fun _ _ _ => rfl⟩))) (kn_bi (kn_lf ⟨_, sl_206_429, fun _ _ _ => rfl⟩) (kn_bi (kn_lf ⟨_, sl_206_430, fun _ _ _ => rfl⟩) (kn_lf ⟨_, sl_206_431, fun _ _ _ => rfl⟩))))) (kn_bi (kn_bi (kn_bi (kn_lf ⟨_, sl_206_433, fun _ _ _ => rfl⟩) (kn_lf ⟨_, sl_206_435, fun _ _ _ => rfl⟩)) (kn_bi (kn_lf ⟨_, sl_206_436, fun _ _ _ => rfl⟩) (kn_bi (kn_lf ⟨_, sl_206_437, fun _ _ _ => rfl⟩) (kn_lf ⟨_, sl_206_439, fun _ _ _ => rfl⟩)))) (kn_bi (kn_bi (kn_lf ⟨_, sl_206_441, fun _ _ _ => rfl⟩) (kn_bi (kn_lf ⟨_, sl_206_442, fun _ _ _ => rfl⟩) (kn_lf ⟨_, sl_206_443, fun _ _ _ => rfl⟩))) (kn_bi (kn_lf ⟨_, sl_206_445, fun _ _ _ => rfl⟩) (kn_bi (kn_lf ⟨_, sl_206_447, fun _ _ _ => rfl⟩) (kn_lf ⟨_, sl_206_448, fun _ _ _ => rfl⟩))))))) (kn_bi (kn_bi (kn_bi (kn_bi (kn_bi (kn_lf ⟨_, sl_206_449, fun _ _ _ => rfl⟩) (kn_lf ⟨_, sl_206_451, fun _ _ _ => rfl⟩)) (kn_bi (kn_lf ⟨_, sl_206_453, fun _ _ _ => rfl⟩) (kn_bi (kn_lf ⟨_, sl_206_454, fun _ _ _ => rfl⟩) (kn_lf ⟨_, sl_206_455, fun _ _ _ => rfl⟩)))) (kn_bi (kn_bi (kn_lf ⟨_, sl_206_457, fun _ _ _ => rfl⟩) (kn_bi (kn_lf ⟨_, sl_206_459, fun _ _ _ => rfl⟩) (kn_lf ⟨_, sl_206_460, fun _ _ _ => rfl⟩))) (kn_bi (kn_lf ⟨_, sl_206_461, fun _ _ _ => rfl⟩) (kn_bi (kn_lf ⟨_, sl_206_463, fun _ _ _ => rfl⟩) (kn_lf ⟨_, sl_206_464, fun _ _ _ => rfl⟩))))) (kn_bi (kn_bi (kn_bi (kn_lf ⟨_, sl_206_465, fun _ _ _ => rfl⟩) (kn_lf ⟨_, sl_206_466, fun _ _ _ => rfl⟩)) (kn_bi (kn_lf ⟨_, sl_206_468, fun _ _ _ => rfl⟩) (kn_bi (kn_lf ⟨_, sl_206_470, fun _ _ _ => rfl⟩) (kn_lf ⟨_, sl_206_471, fun _ _ _ => rfl⟩)))) (kn_bi (kn_bi (kn_lf ⟨_, sl_206_472, fun _ _ _ => rfl⟩) (kn_bi (kn_lf ⟨_, sl_206_474, fun _ _ _ => rfl⟩) (kn_lf ⟨_, sl_206_476, fun _ _ _ => rfl⟩))) (kn_bi (kn_lf ⟨_, sl_206_477, fun _ _ _ => rfl⟩) (kn_bi (kn_lf ⟨_, sl_206_478, fun _ _ _ => rfl⟩) (kn_lf ⟨_, sl_206_480, fun _ _ _ => rfl⟩)))))) (kn_bi (kn_bi (kn_bi (kn_bi (kn_lf ⟨_, sl_206_482, fun _ _ _ => rfl⟩) (kn_lf ⟨_, sl_206_483, fun _ _ _ => rfl⟩)) (kn_bi (kn_lf ⟨_, sl_206_484, fun _ _ _ => rfl⟩) (kn_bi (kn_lf ⟨_, sl_206_486, fun _ _ _ => rfl⟩) (kn_lf ⟨_, sl_206_488, fun _ _ _ => rfl⟩)))) (kn_bi (kn_bi (kn_lf ⟨_, sl_206_489, fun _ _ _ => rfl⟩) (kn_bi (kn_lf ⟨_, sl_206_490, fun _ _ _ => rfl⟩) (kn_lf ⟨_, sl_206_492, fun _ _ _ => rfl⟩))) (kn_bi (kn_lf ⟨_, sl_206_494, fun _ _ _ => rfl⟩) (kn_bi (kn_lf ⟨_, sl_206_495, fun _ _ _ => rfl⟩) (kn_lf ⟨_, sl_206_496, fun _ _ _ => rfl⟩))))) (kn_bi (kn_bi (kn_bi (kn_lf ⟨_, sl_206_498, fun _ _ _ => rfl⟩) (kn_bi (kn_lf ⟨_, sl_206_500, fun _ _ _ => rfl⟩) (kn_lf ⟨_, sl_206_501, fun _ _ _ => rfl⟩))) (kn_bi (kn_lf ⟨_, sl_206_502, fun _ _ _ => rfl⟩) (kn_bi (kn_lf ⟨_, sl_206_504, fun _ _ _ => rfl⟩) (kn_lf ⟨_, sl_206_505, fun _ _ _ => rfl⟩)))) (kn_bi (kn_bi (kn_lf ⟨_, sl_206_506, fun _ _ _ => rfl⟩) (kn_bi (kn_lf ⟨_, sl_206_507, fun _ _ _ => rfl⟩) (kn_lf ⟨_, sl_206_509, fun _ _ _ => rfl⟩))) (kn_bi (kn_lf ⟨_, sl_206_511, fun _ _ _ => rfl⟩) (kn_bi (kn_lf ⟨_, sl_206_512, fun _ _ _ => rfl⟩) (kn_lf ⟨_, sl_206_513, fun _ _ _ => rfl⟩)))))))))) (kn_bi (kn_bi (kn_bi (kn_bi (kn_bi (kn_bi (kn_bi (kn_bi (kn_lf ⟨_, sl_206_515, fun _ _ _ => rfl⟩) (kn_lf ⟨_, sl_206_517, fun _ _ _ => rfl⟩)) (kn_bi (kn_lf ⟨_, sl_206_518, fun _ _ _ => rfl⟩) (kn_bi (kn_lf ⟨_, sl_206_519, fun _ _ _ => rfl⟩) (kn_lf ⟨_, sl_206_521, fun _ _ _ => rfl⟩)))) (kn_bi (kn_bi (kn_lf ⟨_, sl_206_523, fun _ _ _ => rfl⟩) (kn_bi (kn_lf ⟨_, sl_206_524, fun _ _ _ => rfl⟩) (kn_lf ⟨_, sl_206_525, fun _ _ _ => rfl⟩))) (kn_bi (kn_lf ⟨_, sl_206_527, fun _ _ _ => rfl⟩) (kn_bi (kn_lf ⟨_, sl_206_529, fun _ _ _ => rfl⟩) (kn_lf ⟨_, sl_206_530, fun _ _ _ => rfl⟩))))) (kn_bi (kn_bi (kn_bi (kn_lf ⟨_, sl_206_531, fun _ _ _ => rfl⟩) (kn_lf ⟨_, sl_206_533, fun _ _ _ => rfl⟩)) (kn_bi (kn_lf ⟨_, sl_206_535, fun _ _ _ => rfl⟩) (kn_bi (kn_lf ⟨_, sl_206_536, fun _ _ _ => rfl⟩) (kn_lf ⟨_, sl_206_537, fun _ _ _ => rfl⟩)))) (kn_bi (kn_bi (kn_lf ⟨_, sl_206_539, fun _ _ _ => rfl⟩) (kn_bi (kn_lf ⟨_, sl_206_541, fun _ _ _ => rfl⟩) (kn_lf ⟨_, sl_206_542, fun _ _ _ => rfl⟩))) (kn_bi (kn_lf ⟨_, sl_206_543, fun _ _ _ => rfl⟩) (kn_bi (kn_lf ⟨_, sl_206_545, fun _ _ _ => rfl⟩) (kn_lf ⟨_, sl_206_546, fun _ _ _ => rfl⟩)))))) (kn_bi (kn_bi (kn_bi (kn_bi (kn_lf ⟨_, sl_206_547, fun _ _ _ => rfl⟩) (kn_lf ⟨_, sl_206_548, fun _ _ _ => rfl⟩)) (kn_bi (kn_lf ⟨_, sl_206_550, fun _ _ _ => rfl⟩) (kn_bi (kn_lf ⟨_, sl_206_552, fun _ _ _ => rfl⟩) (kn_lf ⟨_, sl_206_553, fun _ _ _ => rfl⟩)))) (kn_bi (kn_bi (kn_lf ⟨_, sl_206_554, fun _ _ _ => rfl⟩) (kn_bi (kn_lf ⟨_, sl_206_556, fun _ _ _ => rfl⟩) (kn_lf ⟨_, sl_206_558, fun _ _ _ => rfl⟩))) (kn_bi (kn_lf ⟨_, sl_206_559, fun _ _ _ => rfl⟩) (kn_bi (kn_lf ⟨_, sl_206_560, fun _ _ _ => rfl⟩) (kn_lf ⟨_, sl_206_562, fun _ _ _ => rfl⟩))))) (kn_bi (kn_bi (kn_bi (kn_lf ⟨_, sl_206_564, fun _ _ _ => rfl⟩) (kn_lf ⟨_, sl_206_565, fun _ _ _ => rfl⟩)) (kn_bi (kn_lf ⟨_, sl_206_566, fun _ _ _ => rfl⟩) (kn_bi (kn_lf ⟨_, sl_206_568, fun _ _ _ => rfl⟩) (kn_lf ⟨_, sl_206_570, fun _ _ _ => rfl⟩)))) (kn_bi (kn_bi (kn_lf ⟨_, sl_206_571, fun _ _ _ => rfl⟩) (kn_bi (kn_lf ⟨_, sl_206_572, fun _ _ _ => rfl⟩) (kn_lf ⟨_, sl_206_574, fun _ _ _ => rfl⟩))) (kn_bi (kn_lf ⟨_, sl_206_576, fun _ _ _ => rfl⟩) (kn_bi (kn_lf ⟨_, sl_206_577, fun _ _ _ => rfl⟩) (kn_lf ⟨_, sl_206_578, fun _ _ _ => rfl⟩))))))) (kn_bi (kn_bi (kn_bi (kn_bi (kn_bi (kn_lf ⟨_, sl_206_580, fun _ _ _ => rfl⟩) (kn_lf ⟨_, sl_206_582, fun _ _ _ => rfl⟩)) (kn_bi (kn_lf ⟨_, sl_206_583, fun _ _ _ => rfl⟩) (kn_bi (kn_lf ⟨_, sl_206_584, fun _ _ _ => rfl⟩) (kn_lf ⟨_, sl_206_586, fun _ _ _ => rfl⟩)))) (kn_bi (kn_bi (kn_lf ⟨_, sl_206_588, fun _ _ _ => rfl⟩) (kn_bi (kn_lf ⟨_, sl_206_589, fun _ _ _ => rfl⟩) (kn_lf ⟨_, sl_206_590, fun _ _ _ => rfl⟩))) (kn_bi (kn_lf ⟨_, sl_206_592, fun _ _ _ => rfl⟩) (kn_bi (kn_lf ⟨_, sl_206_593, fun _ _ _ => rfl⟩) (kn_lf ⟨_, sl_206_594, fun _ _ _ => rfl⟩))))) (kn_bi (kn_bi (kn_bi (kn_lf ⟨_, sl_206_595, fun _ _ _ => rfl⟩) (kn_lf ⟨_, sl_206_597, fun _ _ _ => rfl⟩)) (kn_bi (kn_lf ⟨_, sl_206_599, fun _ _ _ => rfl⟩) (kn_bi (kn_lf ⟨_, sl_206_600, fun _ _ _ => rfl⟩) (kn_lf ⟨_, sl_206_601, fun _ _ _ => rfl⟩)))) (kn_bi (kn_bi (kn_lf ⟨_, sl_206_603, fun _ _ _ => rfl⟩) (kn_bi (kn_lf ⟨_, sl_206_605, fun _ _ _ => rfl⟩) (kn_lf ⟨_, sl_206_606, fun _ _ _ => rfl⟩))) (kn_bi (kn_lf ⟨_, sl_206_607, fun _ _ _ => rfl⟩) (kn_bi (kn_lf ⟨_, sl_206_609, fun _ _ _ => rfl⟩) (kn_lf ⟨_, sl_206_611, fun _ _ _ => rfl⟩)))))) (kn_bi (kn_bi (kn_bi (kn_bi (kn_lf ⟨_, sl_206_612, fun _ _ _ => rfl⟩) (kn_lf ⟨_, sl_206_613, fun _ _ _ => rfl⟩)) (kn_bi (kn_lf ⟨_, sl_206_615, fun _ _ _ => rfl⟩) (kn_bi (kn_lf ⟨_, sl_206_617, fun _ _ _ => rfl⟩) (kn_lf ⟨_, sl_206_618, fun _ _ _ => rfl⟩)))) (kn_bi (kn_bi (kn_lf ⟨_, sl_206_619, fun _ _ _ => rfl⟩) (kn_bi (kn_lf ⟨_, sl_206_621, fun _ _ _ => rfl⟩) (kn_lf ⟨_, sl_206_622, fun _ _ _ => rfl⟩))) (kn_bi (kn_lf ⟨_, sl_206_623, fun _ _ _ => rfl⟩) (kn_bi (kn_lf ⟨_, sl_206_624, fun _ _ _ => rfl⟩) (kn_lf ⟨_, sl_206_626, fun _ _ _ => rfl⟩))))) (kn_bi (kn_bi (kn_bi (kn_lf ⟨_, sl_206_628, fun _ _ _ => rfl⟩) (kn_lf ⟨_, sl_206_629, fun _ _ _ => rfl⟩)) (kn_bi (kn_lf ⟨_, sl_206_630, fun _ _ _ => rfl⟩) (kn_bi (kn_lf ⟨_, sl_206_632, fun _ _ _ => rfl⟩) (kn_lf ⟨_, sl_206_634, fun _ _ _ => rfl⟩)))) (kn_bi (kn_bi (kn_lf ⟨_, sl_206_635, fun _ _ _ => rfl⟩) (kn_bi (kn_lf ⟨_, sl_206_636, fun _ _ _ => rfl⟩) (kn_lf ⟨_, sl_206_638, fun _ _ _ => rfl⟩))) (kn_bi (kn_lf ⟨_, sl_206_640, fun _ _ _ => rfl⟩) (kn_bi (kn_lf ⟨_, sl_206_641, fun _ _ _ => rfl⟩) (kn_lf ⟨_, sl_206_642, fun _ _ _ => rfl⟩)))))))) (kn_bi (kn_bi (kn_bi (kn_bi (kn_bi (kn_bi (kn_lf ⟨_, sl_206_644, fun _ _ _ => rfl⟩) (kn_lf ⟨_, sl_206_646, fun _ _ _ => rfl⟩)) (kn_bi (kn_lf ⟨_, sl_206_647, fun _ _ _ => rfl⟩) (kn_bi (kn_lf ⟨_, sl_206_648, fun _ _ _ => rfl⟩) (kn_lf ⟨_, sl_206_650, fun _ _ _ => rfl⟩)))) (kn_bi (kn_bi (kn_lf ⟨_, sl_206_651, fun _ _ _ => rfl⟩) (kn_bi (kn_lf ⟨_, sl_206_652, fun _ _ _ => rfl⟩) (kn_lf ⟨_, sl_206_653, fun _ _ _ => rfl⟩))) (kn_bi (kn_lf ⟨_, sl_206_655, fun _ _ _ => rfl⟩) (kn_bi (kn_lf ⟨_, sl_206_657, fun _ _ _ => rfl⟩) (kn_lf ⟨_, sl_206_658, fun _ _ _ => rfl⟩))))) (kn_bi (kn_bi (kn_bi (kn_lf ⟨_, sl_206_659, fun _ _ _ => rfl⟩) (kn_lf ⟨_, sl_206_661, fun _ _ _ => rfl⟩)) (kn_bi (kn_lf ⟨_, sl_206_663, fun _ _ _ => rfl⟩) (kn_bi (kn_lf ⟨_, sl_206_664, fun _ _ _ => rfl⟩) (kn_lf ⟨_, sl_206_665, fun _ _ _ => rfl⟩)))) (kn_bi (kn_bi (kn_lf ⟨_, sl_206_667, fun _ _ _ => rfl⟩) (kn_bi (kn_lf ⟨_, sl_206_669, fun _ _ _ => rfl⟩) (kn_lf ⟨_, sl_206_670, fun _ _ _ => rfl⟩))) (kn_bi (kn_lf ⟨_, sl_206_671, fun _ _ _ => rfl⟩) (kn_bi (kn_lf ⟨_, sl_206_673, fun _ _ _ => rfl⟩) (kn_lf ⟨_, sl_206_675, fun _ _ _ => rfl⟩)))))) (kn_bi (kn_bi (kn_bi (kn_bi (kn_lf ⟨_, sl_206_676, fun _ _ _ => rfl⟩) (kn_lf ⟨_, sl_206_677, fun _ _ _ => rfl⟩)) (kn_bi (kn_lf ⟨_, sl_206_679, fun _ _ _ => rfl⟩) (kn_bi (kn_lf ⟨_, sl_206_681, fun _ _ _ => rfl⟩) (kn_lf ⟨_, sl_206_682, fun _ _ _ => rfl⟩)))) (kn_bi (kn_bi (kn_lf ⟨_, sl_206_683, fun _ _ _ => rfl⟩) (kn_bi (kn_lf ⟨_, sl_206_685, fun _ _ _ => rfl⟩) (kn_lf ⟨_, sl_206_686, fun _ _ _ => rfl⟩))) (kn_bi (kn_lf ⟨_, sl_206_687, fun _ _ _ => rfl⟩) (kn_bi (kn_lf ⟨_, sl_206_688, fun _ _ _ => rfl⟩) (kn_lf ⟨_, sl_206_690, fun _ _ _ => rfl⟩))))) (kn_bi (kn_bi (kn_bi (kn_lf ⟨_, sl_206_692, fun _ _ _ => rfl⟩) (kn_lf ⟨_, sl_206_693, fun _ _ _ => rfl⟩)) (kn_bi (kn_lf ⟨_, sl_206_694, fun _ _ _ => rfl⟩) (kn_bi (kn_lf ⟨_, sl_206_696, fun _ _ _ => rfl⟩) (kn_lf ⟨_, sl_206_698, fun _ _ _ => rfl⟩)))) (kn_bi (kn_bi (kn_lf ⟨_, sl_206_699, fun _ _ _ => rfl⟩) (kn_bi (kn_lf ⟨_, sl_206_700, fun _ _ _ => rfl⟩) (kn_lf ⟨_, sl_206_702, fun _ _ _ => rfl⟩))) (kn_bi (kn_lf ⟨_, sl_206_704, fun _ _ _ => rfl⟩) (kn_bi (kn_lf ⟨_, sl_206_705, fun _ _ _ => rfl⟩) (kn_lf ⟨_, sl_206_706, fun _ _ _ => rfl⟩))))))) (kn_bi (kn_bi (kn_bi (kn_bi (kn_bi (kn_lf ⟨_, sl_206_708, fun _ _ _ => rfl⟩) (kn_lf ⟨_, sl_206_710, fun _ _ _ => rfl⟩)) (kn_bi (kn_lf ⟨_, sl_206_711, fun _ _ _ => rfl⟩) (kn_bi (kn_lf ⟨_, sl_206_712, fun _ _ _ => rfl⟩) (kn_lf ⟨_, sl_206_714, fun _ _ _ => rfl⟩)))) (kn_bi (kn_bi (kn_lf ⟨_, sl_206_716, fun _ _ _ => rfl⟩) (kn_bi (kn_lf ⟨_, sl_206_717, fun _ _ _ => rfl⟩) (kn_lf ⟨_, sl_206_718, fun _ _ _ => rfl⟩))) (kn_bi (kn_lf ⟨_, sl_206_720, fun _ _ _ => rfl⟩) (kn_bi (kn_lf ⟨_, sl_206_722, fun _ _ _ => rfl⟩) (kn_lf ⟨_, sl_206_723, fun _ _ _ => rfl⟩))))) (kn_bi (kn_bi (kn_bi (kn_lf ⟨_, sl_206_724, fun _ _ _ => rfl⟩) (kn_lf ⟨_, sl_206_726, fun _ _ _ => rfl⟩)) (kn_bi (kn_lf ⟨_, sl_206_728, fun _ _ _ => rfl⟩) (kn_bi (kn_lf ⟨_, sl_206_729, fun _ _ _ => rfl⟩) (kn_lf ⟨_, sl_206_730, fun _ _ _ => rfl⟩)))) (kn_bi (kn_bi (kn_lf ⟨_, sl_206_732, fun _ _ _ => rfl⟩) (kn_bi (kn_lf ⟨_, sl_206_733, fun _ _ _ => rfl⟩) (kn_lf ⟨_, sl_206_734, fun _ _ _ => rfl⟩))) (kn_bi (kn_lf ⟨_, sl_206_735, fun _ _ _ => rfl⟩) (kn_bi (kn_lf ⟨_, sl_206_737, fun _ _ _ => rfl⟩) (kn_lf ⟨_, sl_206_739, fun _ _ _ => rfl⟩)))))) (kn_bi (kn_bi (kn_bi (kn_bi (kn_lf ⟨_, sl_206_740, fun _ _ _ => rfl⟩) (kn_lf ⟨_, sl_206_741, fun _ _ _ => rfl⟩)) (kn_bi (kn_lf ⟨_, sl_206_743, fun _ _ _ => rfl⟩) (kn_bi (kn_lf ⟨_, sl_206_745, fun _ _ _ => rfl⟩) (kn_lf ⟨_, sl_206_746, fun _ _ _ => rfl⟩)))) (kn_bi (kn_bi (kn_lf ⟨_, sl_206_747, fun _ _ _ => rfl⟩) (kn_bi (kn_lf ⟨_, sl_206_749, fun _ _ _ => rfl⟩) (kn_lf ⟨_, sl_206_751, fun _ _ _ => rfl⟩))) (kn_bi (kn_lf ⟨_, sl_206_752, fun _ _ _ => rfl⟩) (kn_bi (kn_lf ⟨_, sl_206_753, fun _ _ _ => rfl⟩) (kn_lf ⟨_, sl_206_756, fun _ _ _ => rfl⟩))))) (kn_bi (kn_bi (kn_bi (kn_lf ⟨_, sl_206_758, fun _ _ _ => rfl⟩) (kn_bi (kn_lf ⟨_, sl_206_759, fun _ _ _ => rfl⟩) (kn_lf ⟨_, sl_206_760, fun _ _ _ => rfl⟩))) (kn_bi (kn_lf ⟨_, sl_206_763, fun _ _ _ => rfl⟩) (kn_bi (kn_lf ⟨_, sl_206_765, fun _ _ _ => rfl⟩) (kn_lf ⟨_, sl_206_766, fun _ _ _ => rfl⟩)))) (kn_bi (kn_bi (kn_lf ⟨_, sl_206_767, fun _ _ _ => rfl⟩) (kn_bi (kn_lf ⟨_, sl_206_770, fun _ _ _ => rfl⟩) (kn_lf ⟨_, sl_206_771, fun _ _ _ => rfl⟩))) (kn_bi (kn_lf ⟨_, sl_206_772, fun _ _ _ => rfl⟩) (kn_bi (kn_lf ⟨_, sl_206_773, fun _ _ _ => rfl⟩) (kn_lf ⟨_, sl_206_776, fun _ _ _ => rfl⟩))))))))) (kn_bi (kn_bi (kn_bi (kn_bi (kn_bi (kn_bi (kn_bi (kn_lf ⟨_, sl_206_778, fun _ _ _ => rfl⟩) (kn_lf ⟨_, sl_206_779, fun _ _ _ => rfl⟩)) (kn_bi (kn_lf ⟨_, sl_206_780, fun _ _ _ => rfl⟩) (kn_bi (kn_lf ⟨_, sl_206_783, fun _ _ _ => rfl⟩) (kn_lf ⟨_, sl_206_785, fun _ _ _ => rfl⟩)))) (kn_bi (kn_bi (kn_lf ⟨_, sl_206_786, fun _ _ _ => rfl⟩) (kn_bi (kn_lf ⟨_, sl_206_787, fun _ _ _ => rfl⟩) (kn_lf ⟨_, sl_206_790, fun _ _ _ => rfl⟩))) (kn_bi (kn_lf ⟨_, sl_206_791, fun _ _ _ => rfl⟩) (kn_bi (kn_lf ⟨_, sl_206_792, fun _ _ _ => rfl⟩) (kn_lf ⟨_, sl_206_793, fun _ _ _ => rfl⟩))))) (kn_bi (kn_bi (kn_bi (kn_lf ⟨_, sl_206_796, fun _ _ _ => rfl⟩) (kn_lf ⟨_, sl_206_798, fun _ _ _ => rfl⟩)) (kn_bi (kn_lf ⟨_, sl_206_799, fun _ _ _ => rfl⟩) (kn_bi (kn_lf ⟨_, sl_206_800, fun _ _ _ => rfl⟩) (kn_lf ⟨_, sl_206_803, fun _ _ _ => rfl⟩)))) (kn_bi (kn_bi (kn_lf ⟨_, sl_206_805, fun _ _ _ => rfl⟩) (kn_bi (kn_lf ⟨_, sl_206_806, fun _ _ _ => rfl⟩) (kn_lf ⟨_, sl_206_807, fun _ _ _ => rfl⟩))) (kn_bi (kn_lf ⟨_, sl_206_810, fun _ _ _ => rfl⟩) (kn_bi (kn_lf ⟨_, sl_206_812, fun _ _ _ => rfl⟩) (kn_lf ⟨_, sl_206_813, fun _ _ _ => rfl⟩)))))) (kn_bi (kn_bi (kn_bi (kn_bi (kn_lf ⟨_, sl_206_814, fun _ _ _ => rfl⟩) (kn_lf ⟨_, sl_206_817, fun _ _ _ => rfl⟩)) (kn_bi (kn_lf ⟨_, sl_206_819, fun _ _ _ => rfl⟩) (kn_bi (kn_lf ⟨_, sl_206_820, fun _ _ _ => rfl⟩) (kn_lf ⟨_, sl_206_821, fun _ _ _ => rfl⟩)))) (kn_bi (kn_bi (kn_lf ⟨_, sl_206_824, fun _ _ _ => rfl⟩) (kn_bi (kn_lf ⟨_, sl_206_825, fun _ _ _ => rfl⟩) (kn_lf ⟨_, sl_206_826, fun _ _ _ => rfl⟩))) (kn_bi (kn_lf ⟨_, sl_206_827, fun _ _ _ => rfl⟩) (kn_bi (kn_lf ⟨_, sl_206_830, fun _ _ _ => rfl⟩) (kn_lf ⟨_, sl_206_832, fun _ _ _ => rfl⟩))))) (kn_bi (kn_bi (kn_bi (kn_lf ⟨_, sl_206_833, fun _ _ _ => rfl⟩) (kn_lf ⟨_, sl_206_834, fun _ _ _ => rfl⟩)) (kn_bi (kn_lf ⟨_, sl_206_837, fun _ _ _ => rfl⟩) (kn_bi (kn_lf ⟨_, sl_206_839, fun _ _ _ => rfl⟩) (kn_lf ⟨_, sl_206_840, fun _ _ _ => rfl⟩)))) (kn_bi (kn_bi (kn_lf ⟨_, sl_206_841, fun _ _ _ => rfl⟩) (kn_bi (kn_lf ⟨_, sl_206_844, fun _ _ _ => rfl⟩) (kn_lf ⟨_, sl_206_846, fun _ _ _ => rfl⟩))) (kn_bi (kn_lf ⟨_, sl_206_847, fun _ _ _ => rfl⟩) (kn_bi (kn_lf ⟨_, sl_206_848, fun _ _ _ => rfl⟩) (kn_lf ⟨_, sl_206_851, fun _ _ _ => rfl⟩))))))) (kn_bi (kn_bi (kn_bi (kn_bi (kn_bi (kn_lf ⟨_, sl_206_853, fun _ _ _ => rfl⟩) (kn_lf ⟨_, sl_206_854, fun _ _ _ => rfl⟩)) (kn_bi (kn_lf ⟨_, sl_206_855, fun _ _ _ => rfl⟩) (kn_bi (kn_lf ⟨_, sl_206_858, fun _ _ _ => rfl⟩) (kn_lf ⟨_, sl_206_859, fun _ _ _ => rfl⟩)))) (kn_bi (kn_bi (kn_lf ⟨_, sl_206_860, fun _ _ _ => rfl⟩) (kn_bi (kn_lf ⟨_, sl_206_861, fun _ _ _ => rfl⟩) (kn_lf ⟨_, sl_206_864, fun _ _ _ => rfl⟩))) (kn_bi (kn_lf ⟨_, sl_206_866, fun _ _ _ => rfl⟩) (kn_bi (kn_lf ⟨_, sl_206_867, fun _ _ _ => rfl⟩) (kn_lf ⟨_, sl_206_868, fun _ _ _ => rfl⟩))))) (kn_bi (kn_bi (kn_bi (kn_lf ⟨_, sl_206_871, fun _ _ _ => rfl⟩) (kn_lf ⟨_, sl_206_873, fun _ _ _ => rfl⟩)) (kn_bi (kn_lf ⟨_, sl_206_874, fun _ _ _ => rfl⟩) (kn_bi (kn_lf ⟨_, sl_206_875, fun _ _ _ => rfl⟩) (kn_lf ⟨_, sl_206_878, fun _ _ _ => rfl⟩)))) (kn_bi (kn_bi (kn_lf ⟨_, sl_206_880, fun _ _ _ => rfl⟩) (kn_bi (kn_lf ⟨_, sl_206_881, fun _ _ _ => rfl⟩) (kn_lf ⟨_, sl_206_882, fun _ _ _ => rfl⟩))) (kn_bi (kn_lf ⟨_, sl_206_885, fun _ _ _ => rfl⟩) (kn_bi (kn_lf ⟨_, sl_206_886, fun _ _ _ => rfl⟩) (kn_lf ⟨_, sl_206_887, fun _ _ _ => rfl⟩)))))) (kn_bi (kn_bi (kn_bi (kn_bi (kn_lf ⟨_, sl_206_888, fun _ _ _ => rfl⟩) (kn_lf ⟨_, sl_206_891, fun _ _ _ => rfl⟩)) (kn_bi (kn_lf ⟨_, sl_206_893, fun _ _ _ => rfl⟩) (kn_bi (kn_lf ⟨_, sl_206_894, fun _ _ _ => rfl⟩) (kn_lf ⟨_, sl_206_895, fun _ _ _ => rfl⟩)))) (kn_bi (kn_bi (kn_lf ⟨_, sl_206_898, fun _ _ _ => rfl⟩) (kn_bi (kn_lf ⟨_, sl_206_900, fun _ _ _ => rfl⟩) (kn_lf ⟨_, sl_206_901, fun _ _ _ => rfl⟩))) (kn_bi (kn_lf ⟨_, sl_206_902, fun _ _ _ => rfl⟩) (kn_bi (kn_lf ⟨_, sl_206_905, fun _ _ _ => rfl⟩) (kn_lf ⟨_, sl_206_907, fun _ _ _ => rfl⟩))))) (kn_bi (kn_bi (kn_bi (kn_lf ⟨_, sl_206_908, fun _ _ _ => rfl⟩) (kn_bi (kn_lf ⟨_, sl_206_909, fun _ _ _ => rfl⟩) (kn_lf ⟨_, sl_206_912, fun _ _ _ => rfl⟩))) (kn_bi (kn_lf ⟨_, sl_206_914, fun _ _ _ => rfl⟩) (kn_bi (kn_lf ⟨_, sl_206_915, fun _ _ _ => rfl⟩) (kn_lf ⟨_, sl_206_916, fun _ _ _ => rfl⟩)))) (kn_bi (kn_bi (kn_lf ⟨_, sl_206_919, fun _ _ _ => rfl⟩) (kn_bi (kn_lf ⟨_, sl_206_920, fun _ _ _ => rfl⟩) (kn_lf ⟨_, sl_206_921, fun _ _ _ => rfl⟩))) (kn_bi (kn_lf ⟨_, sl_206_922, fun _ _ _ => rfl⟩) (kn_bi (kn_lf ⟨_, sl_206_925, fun _ _ _ => rfl⟩) (kn_lf ⟨_, sl_206_927, fun _ _ _ => rfl⟩)))))))) (kn_bi (kn_bi (kn_bi (kn_bi (kn_bi (kn_bi (kn_lf ⟨_, sl_206_928, fun _ _ _ => rfl⟩) (kn_lf ⟨_, sl_206_929, fun _ _ _ => rfl⟩)) (kn_bi (kn_lf ⟨_, sl_206_932, fun _ _ _ => rfl⟩) (kn_bi (kn_lf ⟨_, sl_206_934, fun _ _ _ => rfl⟩) (kn_lf ⟨_, sl_206_935, fun _ _ _ => rfl⟩)))) (kn_bi (kn_bi (kn_lf ⟨_, sl_206_936, fun _ _ _ => rfl⟩) (kn_bi (kn_lf ⟨_, sl_206_939, fun _ _ _ => rfl⟩) (kn_lf ⟨_, sl_206_941, fun _ _ _ => rfl⟩))) (kn_bi (kn_lf ⟨_, sl_206_942, fun _ _ _ => rfl⟩) (kn_bi (kn_lf ⟨_, sl_206_943, fun _ _ _ => rfl⟩) (kn_lf ⟨_, sl_206_946, fun _ _ _ => rfl⟩))))) (kn_bi (kn_bi (kn_bi (kn_lf ⟨_, sl_206_948, fun _ _ _ => rfl⟩) (kn_lf ⟨_, sl_206_949, fun _ _ _ => rfl⟩)) (kn_bi (kn_lf ⟨_, sl_206_950, fun _ _ _ => rfl⟩) (kn_bi (kn_lf ⟨_, sl_206_953, fun _ _ _ => rfl⟩) (kn_lf ⟨_, sl_206_954, fun _ _ _ => rfl⟩)))) (kn_bi (kn_bi (kn_lf ⟨_, sl_206_955, fun _ _ _ => rfl⟩) (kn_bi (kn_lf ⟨_, sl_206_956, fun _ _ _ => rfl⟩) (kn_lf ⟨_, sl_206_959, fun _ _ _ => rfl⟩))) (kn_bi (kn_lf ⟨_, sl_206_961, fun _ _ _ => rfl⟩) (kn_bi (kn_lf ⟨_, sl_206_962, fun _ _ _ => rfl⟩) (kn_lf ⟨_, sl_206_963, fun _ _ _ => rfl⟩)))))) (kn_bi (kn_bi (kn_bi (kn_bi (kn_lf ⟨_, sl_206_966, fun _ _ _ => rfl⟩) (kn_lf ⟨_, sl_206_968, fun _ _ _ => rfl⟩)) (kn_bi (kn_lf ⟨_, sl_206_969, fun _ _ _ => rfl⟩) (kn_bi (kn_lf ⟨_, sl_206_970, fun _ _ _ => rfl⟩) (kn_lf ⟨_, sl_206_973, fun _ _ _ => rfl⟩)))) (kn_bi (kn_bi (kn_lf ⟨_, sl_206_975, fun _ _ _ => rfl⟩) (kn_bi (kn_lf ⟨_, sl_206_976, fun _ _ _ => rfl⟩) (kn_lf ⟨_, sl_206_977, fun _ _ _ => rfl⟩))) (kn_bi (kn_lf ⟨_, sl_206_980, fun _ _ _ => rfl⟩) (kn_bi (kn_lf ⟨_, sl_206_982, fun _ _ _ => rfl⟩) (kn_lf ⟨_, sl_206_983, fun _ _ _ => rfl⟩))))) (kn_bi (kn_bi (kn_bi (kn_lf ⟨_, sl_206_984, fun _ _ _ => rfl⟩) (kn_lf ⟨_, sl_206_987, fun _ _ _ => rfl⟩)) (kn_bi (kn_lf ⟨_, sl_206_988, fun _ _ _ => rfl⟩) (kn_bi (kn_lf ⟨_, sl_206_989, fun _ _ _ => rfl⟩) (kn_lf ⟨_, sl_206_990, fun _ _ _ => rfl⟩)))) (kn_bi (kn_bi (kn_lf ⟨_, sl_206_993, fun _ _ _ => rfl⟩) (kn_bi (kn_lf ⟨_, sl_206_995, fun _ _ _ => rfl⟩) (kn_lf ⟨_, sl_206_996, fun _ _ _ => rfl⟩))) (kn_bi (kn_lf ⟨_, sl_206_997, fun _ _ _ => rfl⟩) (kn_bi (kn_lf ⟨_, sl_206_1000, fun _ _ _ => rfl⟩) (kn_lf ⟨_, sl_206_1002, fun _ _ _ => rfl⟩))))))) (kn_bi (kn_bi (kn_bi (kn_bi (kn_bi (kn_lf ⟨_, sl_206_1003, fun _ _ _ => rfl⟩) (kn_lf ⟨_, sl_206_1004, fun _ _ _ => rfl⟩)) (kn_bi (kn_lf ⟨_, sl_206_1007, fun _ _ _ => rfl⟩) (kn_bi (kn_lf ⟨_, sl_206_1009, fun _ _ _ => rfl⟩) (kn_lf ⟨_, sl_206_1010, fun _ _ _ => rfl⟩)))) (kn_bi (kn_bi (kn_lf ⟨_, sl_206_1011, fun _ _ _ => rfl⟩) (kn_bi (kn_lf ⟨_, sl_206_1014, fun _ _ _ => rfl⟩) (kn_lf ⟨_, sl_206_1016, fun _ _ _ => rfl⟩))) (kn_bi (kn_lf ⟨_, sl_206_1017, fun _ _ _ => rfl⟩) (kn_bi (kn_lf ⟨_, sl_206_1018, fun _ _ _ => rfl⟩) (kn_lf ⟨_, sl_206_1021, fun _ _ _ => rfl⟩))))) (kn_bi (kn_bi (kn_bi (kn_lf ⟨_, sl_206_1023, fun _ _ _ => rfl⟩) (kn_lf ⟨_, sl_206_1024, fun _ _ _ => rfl⟩)) (kn_bi (kn_lf ⟨_, sl_206_1025, fun _ _ _ => rfl⟩) (kn_bi (kn_lf ⟨_, sl_206_1028, fun _ _ _ => rfl⟩) (kn_lf ⟨_, sl_206_1029, fun _ _ _ => rfl⟩)))) (kn_bi (kn_bi (kn_lf ⟨_, sl_206_1030, fun _ _ _ => rfl⟩) (kn_bi (kn_lf ⟨_, sl_206_1031, fun _ _ _ => rfl⟩) (kn_lf ⟨_, sl_206_1034, fun _ _ _ => rfl⟩))) (kn_bi (kn_lf ⟨_, sl_206_1036, fun _ _ _ => rfl⟩) (kn_bi (kn_lf ⟨_, sl_206_1037, fun _ _ _ => rfl⟩) (kn_lf ⟨_, sl_206_1038, fun _ _ _ => rfl⟩)))))) (kn_bi (kn_bi (kn_bi (kn_bi (kn_lf ⟨_, sl_206_1041, fun _ _ _ => rfl⟩) (kn_lf ⟨_, sl_206_1043, fun _ _ _ => rfl⟩)) (kn_bi (kn_lf ⟨_, sl_206_1044, fun _ _ _ => rfl⟩) (kn_bi (kn_lf ⟨_, sl_206_1045, fun _ _ _ => rfl⟩) (kn_lf ⟨_, sl_206_1048, fun _ _ _ => rfl⟩)))) (kn_bi (kn_bi (kn_lf ⟨_, sl_206_1050, fun _ _ _ => rfl⟩) (kn_bi (kn_lf ⟨_, sl_206_1051, fun _ _ _ => rfl⟩) (kn_lf ⟨_, sl_206_1052, fun _ _ _ => rfl⟩))) (kn_bi (kn_lf ⟨_, sl_206_1055, fun _ _ _ => rfl⟩) (kn_bi (kn_lf ⟨_, sl_206_1057, fun _ _ _ => rfl⟩) (kn_lf ⟨_, sl_206_1058, fun _ _ _ => rfl⟩))))) (kn_bi (kn_bi (kn_bi (kn_lf ⟨_, sl_206_1059, fun _ _ _ => rfl⟩) (kn_bi (kn_lf ⟨_, sl_206_1062, fun _ _ _ => rfl⟩) (kn_lf ⟨_, sl_206_1064, fun _ _ _ => rfl⟩))) (kn_bi (kn_lf ⟨_, sl_206_1065, fun _ _ _ => rfl⟩) (kn_bi (kn_lf ⟨_, sl_206_1066, fun _ _ _ => rfl⟩) (kn_lf ⟨_, sl_206_1069, fun _ _ _ => rfl⟩)))) (kn_bi (kn_bi (kn_lf ⟨_, sl_206_1070, fun _ _ _ => rfl⟩) (kn_bi (kn_lf ⟨_, sl_206_1071, fun _ _ _ => rfl⟩) (kn_lf ⟨_, sl_206_1072, fun _ _ _ => rfl⟩))) (kn_bi (kn_lf ⟨_, sl_206_1075, fun _ _ _ => rfl⟩) (kn_bi (kn_lf ⟨_, sl_206_1077, fun _ _ _ => rfl⟩) (kn_lf ⟨_, sl_206_1078, fun _ _ _ => rfl⟩))))))))))) (kn_bi (kn_bi (kn_bi (kn_bi (kn_bi (kn_bi (kn_bi (kn_bi (kn_bi (kn_lf ⟨_, sl_206_1079, fun _ _ _ => rfl⟩) (kn_lf ⟨_, sl_206_1082, fun _ _ _ => rfl⟩)) (kn_bi (kn_lf ⟨_, sl_206_1084, fun _ _ _ => rfl⟩) (kn_bi (kn_lf ⟨_, sl_206_1085, fun _ _ _ => rfl⟩) (kn_lf ⟨_, sl_206_1086, fun _ _ _ => rfl⟩)))) (kn_bi (kn_bi (kn_lf ⟨_, sl_206_1089, fun _ _ _ => rfl⟩) (kn_bi (kn_lf ⟨_, sl_206_1090, fun _ _ _ => rfl⟩) (kn_lf ⟨_, sl_206_1091, fun _ _ _ => rfl⟩))) (kn_bi (kn_lf ⟨_, sl_206_1094, fun _ _ _ => rfl⟩) (kn_bi (kn_lf ⟨_, sl_206_1095, fun _ _ _ => rfl⟩) (kn_lf ⟨_, sl_206_1097, fun _ _ _ => rfl⟩))))) (kn_bi (kn_bi (kn_bi (kn_lf ⟨_, sl_206_1099, fun _ _ _ => rfl⟩) (kn_lf ⟨_, sl_206_1102, fun _ _ _ => rfl⟩)) (kn_bi (kn_lf ⟨_, sl_206_1103, fun _ _ _ => rfl⟩) (kn_bi (kn_lf ⟨_, sl_206_1106, fun _ _ _ => rfl⟩) (kn_lf ⟨_, sl_206_1108, fun _ _ _ => rfl⟩)))) (kn_bi (kn_bi (kn_lf ⟨_, sl_206_1111, fun _ _ _ => rfl⟩) (kn_bi (kn_lf ⟨_, sl_206_1112, fun _ _ _ => rfl⟩) (kn_lf ⟨_, sl_206_1115, fun _ _ _ => rfl⟩))) (kn_bi (kn_lf ⟨_, sl_206_1117, fun _ _ _ => rfl⟩) (kn_bi (kn_lf ⟨_, sl_206_1120, fun _ _ _ => rfl⟩) (kn_lf ⟨_, sl_206_1121, fun _ _ _ => rfl⟩)))))) (kn_bi (kn_bi (kn_bi (kn_bi (kn_lf ⟨_, sl_206_1122, fun _ _ _ => rfl⟩) (kn_lf ⟨_, sl_206_1125, fun _ _ _ => rfl⟩)) (kn_bi (kn_lf ⟨_, sl_206_1126, fun _ _ _ => rfl⟩) (kn_bi (kn_lf ⟨_, sl_206_1128, fun _ _ _ => rfl⟩) (kn_lf ⟨_, sl_206_1130, fun _ _ _ => rfl⟩)))) (kn_bi (kn_bi (kn_lf ⟨_, sl_206_1133, fun _ _ _ => rfl⟩) (kn_bi (kn_lf ⟨_, sl_206_1134, fun _ _ _ => rfl⟩) (kn_lf ⟨_, sl_206_1136, fun _ _ _ => rfl⟩))) (kn_bi (kn_lf ⟨_, sl_206_1138, fun _ _ _ => rfl⟩) (kn_bi (kn_lf ⟨_, sl_206_1141, fun _ _ _ => rfl⟩) (kn_lf ⟨_, sl_206_1142, fun _ _ _ => rfl⟩))))) (kn_bi (kn_bi (kn_bi (kn_lf ⟨_, sl_206_1144, fun _ _ _ => rfl⟩) (kn_lf ⟨_, sl_206_1146, fun _ _ _ => rfl⟩)) (kn_bi (kn_lf ⟨_, sl_206_1149, fun _ _ _ => rfl⟩) (kn_bi (kn_lf ⟨_, sl_206_1150, fun _ _ _ => rfl⟩) (kn_lf ⟨_, sl_206_1152, fun _ _ _ => rfl⟩)))) (kn_bi (kn_bi (kn_lf ⟨_, sl_206_1154, fun _ _ _ => rfl⟩) (kn_bi (kn_lf ⟨_, sl_206_1157, fun _ _ _ => rfl⟩) (kn_lf ⟨_, sl_206_1158, fun _ _ _ => rfl⟩))) (kn_bi (kn_lf ⟨_, sl_206_1160, fun _ _ _ => rfl⟩) (kn_bi (kn_lf ⟨_, sl_206_1162, fun _ _ _ => rfl⟩) (kn_lf ⟨_, sl_206_1163, fun _ _ _ => rfl⟩))))))) (kn_bi (kn_bi (kn_bi (kn_bi (kn_bi (kn_lf ⟨_, sl_206_1164, fun _ _ _ => rfl⟩) (kn_lf ⟨_, sl_206_1166, fun _ _ _ => rfl⟩)) (kn_bi (kn_lf ⟨_, sl_206_1167, fun _ _ _ => rfl⟩) (kn_bi (kn_lf ⟨_, sl_206_1168, fun _ _ _ => rfl⟩) (kn_lf ⟨_, sl_206_1169, fun _ _ _ => rfl⟩)))) (kn_bi (kn_bi (kn_lf ⟨_, sl_206_1171, fun _ _ _ => rfl⟩) (kn_bi (kn_lf ⟨_, sl_206_1172, fun _ _ _ => rfl⟩) (kn_lf ⟨_, sl_206_1173, fun _ _ _ => rfl⟩))) (kn_bi (kn_lf ⟨_, sl_206_1174, fun _ _ _ => rfl⟩) (kn_bi (kn_lf ⟨_, sl_206_1176, fun _ _ _ => rfl⟩) (kn_lf ⟨_, sl_206_1177, fun _ _ _ => rfl⟩))))) (kn_bi (kn_bi (kn_bi (kn_lf ⟨_, sl_206_1178, fun _ _ _ => rfl⟩) (kn_lf ⟨_, sl_206_1179, fun _ _ _ => rfl⟩)) (kn_bi (kn_lf ⟨_, sl_206_1181, fun _ _ _ => rfl⟩) (kn_bi (kn_lf ⟨_, sl_206_1182, fun _ _ _ => rfl⟩) (kn_lf ⟨_, sl_206_1183, fun _ _ _ => rfl⟩)))) (kn_bi (kn_bi (kn_lf ⟨_, sl_206_1184, fun _ _ _ => rfl⟩) (kn_bi (kn_lf ⟨_, sl_206_1186, fun _ _ _ => rfl⟩) (kn_lf ⟨_, sl_206_1187, fun _ _ _ => rfl⟩))) (kn_bi (kn_lf ⟨_, sl_206_1188, fun _ _ _ => rfl⟩) (kn_bi (kn_lf ⟨_, sl_206_1189, fun _ _ _ => rfl⟩) (kn_lf ⟨_, sl_206_1191, fun _ _ _ => rfl⟩)))))) (kn_bi (kn_bi (kn_bi (kn_bi (kn_lf ⟨_, sl_206_1192, fun _ _ _ => rfl⟩) (kn_lf ⟨_, sl_206_1193, fun _ _ _ => rfl⟩)) (kn_bi (kn_lf ⟨_, sl_206_1195, fun _ _ _ => rfl⟩) (kn_bi (kn_lf ⟨_, sl_206_1197, fun _ _ _ => rfl⟩) (kn_lf ⟨_, sl_206_1198, fun _ _ _ => rfl⟩)))) (kn_bi (kn_bi (kn_lf ⟨_, sl_206_1199, fun _ _ _ => rfl⟩) (kn_bi (kn_lf ⟨_, sl_206_1201, fun _ _ _ => rfl⟩) (kn_lf ⟨_, sl_206_1202, fun _ _ _ => rfl⟩))) (kn_bi (kn_lf ⟨_, sl_206_1203, fun _ _ _ => rfl⟩) (kn_bi (kn_lf ⟨_, sl_206_1204, fun _ _ _ => rfl⟩) (kn_lf ⟨_, sl_206_1206, fun _ _ _ => rfl⟩))))) (kn_bi (kn_bi (kn_bi (kn_lf ⟨_, sl_206_1208, fun _ _ _ => rfl⟩) (kn_lf ⟨_, sl_206_1209, fun _ _ _ => rfl⟩)) (kn_bi (kn_lf ⟨_, sl_206_1210, fun _ _ _ => rfl⟩) (kn_bi (kn_lf ⟨_, sl_206_1212, fun _ _ _ => rfl⟩) (kn_lf ⟨_, sl_206_1214, fun _ _ _ => rfl⟩)))) (kn_bi (kn_bi (kn_lf ⟨_, sl_206_1215, fun _ _ _ => rfl⟩) (kn_bi (kn_lf ⟨_, sl_206_1216, fun _ _ _ => rfl⟩) (kn_lf ⟨_, sl_206_1218, fun _ _ _ => rfl⟩))) (kn_bi (kn_lf ⟨_, sl_206_1220, fun _ _ _ => rfl⟩) (kn_bi (kn_lf ⟨_, sl_206_1221, fun _ _ _ => rfl⟩) (kn_lf ⟨_, sl_206_1222, fun _ _ _ => rfl⟩)))))))) (kn_bi (kn_bi (kn_bi (kn_bi (kn_bi (kn_bi (kn_lf ⟨_, sl_206_1224, fun _ _ _ => rfl⟩) (kn_lf ⟨_, sl_206_1226, fun _ _ _ => rfl⟩)) (kn_bi (kn_lf ⟨_, sl_206_1227, fun _ _ _ => rfl⟩) (kn_bi (kn_lf ⟨_, sl_206_1228, fun _ _ _ => rfl⟩) (kn_lf ⟨_, sl_206_1230, fun _ _ _ => rfl⟩)))) (kn_bi (kn_bi (kn_lf ⟨_, sl_206_1232, fun _ _ _ => rfl⟩) (kn_bi (kn_lf ⟨_, sl_206_1233, fun _ _ _ => rfl⟩) (kn_lf ⟨_, sl_206_1234, fun _ _ _ => rfl⟩))) (kn_bi (kn_lf ⟨_, sl_206_1236, fun _ _ _ => rfl⟩) (kn_bi (kn_lf ⟨_, sl_206_1238, fun _ _ _ => rfl⟩) (kn_lf ⟨_, sl_206_1239, fun _ _ _ => rfl⟩))))) (kn_bi (kn_bi (kn_bi (kn_lf ⟨_, sl_206_1240, fun _ _ _ => rfl⟩) (kn_lf ⟨_, sl_206_1242, fun _ _ _ => rfl⟩)) (kn_bi (kn_lf ⟨_, sl_206_1243, fun _ _ _ => rfl⟩) (kn_bi (kn_lf ⟨_, sl_206_1244, fun _ _ _ => rfl⟩) (kn_lf ⟨_, sl_206_1245, fun _ _ _ => rfl⟩)))) (kn_bi (kn_bi (kn_lf ⟨_, sl_206_1247, fun _ _ _ => rfl⟩) (kn_bi (kn_lf ⟨_, sl_206_1249, fun _ _ _ => rfl⟩) (kn_lf ⟨_, sl_206_1250, fun _ _ _ => rfl⟩))) (kn_bi (kn_lf ⟨_, sl_206_1251, fun _ _ _ => rfl⟩) (kn_bi (kn_lf ⟨_, sl_206_1253, fun _ _ _ => rfl⟩) (kn_lf ⟨_, sl_206_1255, fun _ _ _ => rfl⟩)))))) (kn_bi (kn_bi (kn_bi (kn_bi (kn_lf ⟨_, sl_206_1256, fun _ _ _ => rfl⟩) (kn_lf ⟨_, sl_206_1257, fun _ _ _ => rfl⟩)) (kn_bi (kn_lf ⟨_, sl_206_1259, fun _ _ _ => rfl⟩) (kn_bi (kn_lf ⟨_, sl_206_1261, fun _ _ _ => rfl⟩) (kn_lf ⟨_, sl_206_1262, fun _ _ _ => rfl⟩)))) (kn_bi (kn_bi (kn_lf ⟨_, sl_206_1263, fun _ _ _ => rfl⟩) (kn_bi (kn_lf ⟨_, sl_206_1265, fun _ _ _ => rfl⟩) (kn_lf ⟨_, sl_206_1267, fun _ _ _ => rfl⟩))) (kn_bi (kn_lf ⟨_, sl_206_1268, fun _ _ _ => rfl⟩) (kn_bi (kn_lf ⟨_, sl_206_1269, fun _ _ _ => rfl⟩) (kn_lf ⟨_, sl_206_1271, fun _ _ _ => rfl⟩))))) (kn_bi (kn_bi (kn_bi (kn_lf ⟨_, sl_206_1273, fun _ _ _ => rfl⟩) (kn_lf ⟨_, sl_206_1274, fun _ _ _ => rfl⟩)) (kn_bi (kn_lf ⟨_, sl_206_1275, fun _ _ _ => rfl⟩) (kn_bi (kn_lf ⟨_, sl_206_1277, fun _ _ _ => rfl⟩) (kn_lf ⟨_, sl_206_1279, fun _ _ _ => rfl⟩)))) (kn_bi (kn_bi (kn_lf ⟨_, sl_206_1280, fun _ _ _ => rfl⟩) (kn_bi (kn_lf ⟨_, sl_206_1281, fun _ _ _ => rfl⟩) (kn_lf ⟨_, sl_206_1283, fun _ _ _ => rfl⟩))) (kn_bi (kn_lf ⟨_, sl_206_1285, fun _ _ _ => rfl⟩) (kn_bi (kn_lf ⟨_, sl_206_1286, fun _ _ _ => rfl⟩) (kn_lf ⟨_, sl_206_1287, fun _ _ _ => rfl⟩))))))) (kn_bi (kn_bi (kn_bi (kn_bi (kn_bi (kn_lf ⟨_, sl_206_1289, fun _ _ _ => rfl⟩) (kn_lf ⟨_, sl_206_1291, fun _ _ _ => rfl⟩)) (kn_bi (kn_lf ⟨_, sl_206_1292, fun _ _ _ => rfl⟩) (kn_bi (kn_lf ⟨_, sl_206_1293, fun _ _ _ => rfl⟩) (kn_lf ⟨_, sl_206_1295, fun _ _ _ => rfl⟩)))) (kn_bi (kn_bi (kn_lf ⟨_, sl_206_1296, fun _ _ _ => rfl⟩) (kn_bi (kn_lf ⟨_, sl_206_1297, fun _ _ _ => rfl⟩) (kn_lf ⟨_, sl_206_1298, fun _ _ _ => rfl⟩))) (kn_bi (kn_lf ⟨_, sl_206_1300, fun _ _ _ => rfl⟩) (kn_bi (kn_lf ⟨_, sl_206_1302, fun _ _ _ => rfl⟩) (kn_lf ⟨_, sl_206_1303, fun _ _ _ => rfl⟩))))) (kn_bi (kn_bi (kn_bi (kn_lf ⟨_, sl_206_1304, fun _ _ _ => rfl⟩) (kn_lf ⟨_, sl_206_1306, fun _ _ _ => rfl⟩)) (kn_bi (kn_lf ⟨_, sl_206_1308, fun _ _ _ => rfl⟩) (kn_bi (kn_lf ⟨_, sl_206_1309, fun _ _ _ => rfl⟩) (kn_lf ⟨_, sl_206_1310, fun _ _ _ => rfl⟩)))) (kn_bi (kn_bi (kn_lf ⟨_, sl_206_1312, fun _ _ _ => rfl⟩) (kn_bi (kn_lf ⟨_, sl_206_1314, fun _ _ _ => rfl⟩) (kn_lf ⟨_, sl_206_1315, fun _ _ _ => rfl⟩))) (kn_bi (kn_lf ⟨_, sl_206_1316, fun _ _ _ => rfl⟩) (kn_bi (kn_lf ⟨_, sl_206_1318, fun _ _ _ => rfl⟩) (kn_lf ⟨_, sl_206_1320, fun _ _ _ => rfl⟩)))))) (kn_bi (kn_bi (kn_bi (kn_bi (kn_lf ⟨_, sl_206_1321, fun _ _ _ => rfl⟩) (kn_lf ⟨_, sl_206_1322, fun _ _ _ => rfl⟩)) (kn_bi (kn_lf ⟨_, sl_206_1324, fun _ _ _ => rfl⟩) (kn_bi (kn_lf ⟨_, sl_206_1326, fun _ _ _ => rfl⟩) (kn_lf ⟨_, sl_206_1327, fun _ _ _ => rfl⟩)))) (kn_bi (kn_bi (kn_lf ⟨_, sl_206_1328, fun _ _ _ => rfl⟩) (kn_bi (kn_lf ⟨_, sl_206_1330, fun _ _ _ => rfl⟩) (kn_lf ⟨_, sl_206_1332, fun _ _ _ => rfl⟩))) (kn_bi (kn_lf ⟨_, sl_206_1333, fun _ _ _ => rfl⟩) (kn_bi (kn_lf ⟨_, sl_206_1334, fun _ _ _ => rfl⟩) (kn_lf ⟨_, sl_206_1336, fun _ _ _ => rfl⟩))))) (kn_bi (kn_bi (kn_bi (kn_lf ⟨_, sl_206_1337, fun _ _ _ => rfl⟩) (kn_bi (kn_lf ⟨_, sl_206_1338, fun _ _ _ => rfl⟩) (kn_lf ⟨_, sl_206_1339, fun _ _ _ => rfl⟩))) (kn_bi (kn_lf ⟨_, sl_206_1341, fun _ _ _ => rfl⟩) (kn_bi (kn_lf ⟨_, sl_206_1343, fun _ _ _ => rfl⟩) (kn_lf ⟨_, sl_206_1344, fun _ _ _ => rfl⟩)))) (kn_bi (kn_bi (kn_lf ⟨_, sl_206_1345, fun _ _ _ => rfl⟩) (kn_bi (kn_lf ⟨_, sl_206_1347, fun _ _ _ => rfl⟩) (kn_lf ⟨_, sl_206_1349, fun _ _ _ => rfl⟩))) (kn_bi (kn_lf ⟨_, sl_206_1350, fun _ _ _ => rfl⟩) (kn_bi (kn_lf ⟨_, sl_206_1351, fun _ _ _ => rfl⟩) (kn_lf ⟨_, sl_206_1353, fun _ _ _ => rfl⟩))))))))) (kn_bi (kn_bi (kn_bi (kn_bi (kn_bi (kn_bi (kn_bi (kn_lf ⟨_, sl_206_1355, fun _ _ _ => rfl⟩) (kn_lf ⟨_, sl_206_1356, fun _ _ _ => rfl⟩)) (kn_bi (kn_lf ⟨_, sl_206_1357, fun _ _ _ => rfl⟩) (kn_bi (kn_lf ⟨_, sl_206_1359, fun _ _ _ => rfl⟩) (kn_lf ⟨_, sl_206_1361, fun _ _ _ => rfl⟩)))) (kn_bi (kn_bi (kn_lf ⟨_, sl_206_1362, fun _ _ _ => rfl⟩) (kn_bi (kn_lf ⟨_, sl_206_1363, fun _ _ _ => rfl⟩) (kn_lf ⟨_, sl_206_1365, fun _ _ _ => rfl⟩))) (kn_bi (kn_lf ⟨_, sl_206_1367, fun _ _ _ => rfl⟩) (kn_bi (kn_lf ⟨_, sl_206_1368, fun _ _ _ => rfl⟩) (kn_lf ⟨_, sl_206_1369, fun _ _ _ => rfl⟩))))) (kn_bi (kn_bi (kn_bi (kn_lf ⟨_, sl_206_1371, fun _ _ _ => rfl⟩) (kn_lf ⟨_, sl_206_1373, fun _ _ _ => rfl⟩)) (kn_bi (kn_lf ⟨_, sl_206_1374, fun _ _ _ => rfl⟩) (kn_bi (kn_lf ⟨_, sl_206_1375, fun _ _ _ => rfl⟩) (kn_lf ⟨_, sl_206_1377, fun _ _ _ => rfl⟩)))) (kn_bi (kn_bi (kn_lf ⟨_, sl_206_1378, fun _ _ _ => rfl⟩) (kn_bi (kn_lf ⟨_, sl_206_1379, fun _ _ _ => rfl⟩) (kn_lf ⟨_, sl_206_1382, fun _ _ _ => rfl⟩))) (kn_bi (kn_lf ⟨_, sl_206_1383, fun _ _ _ => rfl⟩) (kn_bi (kn_lf ⟨_, sl_206_1385, fun _ _ _ => rfl⟩) (kn_lf ⟨_, sl_206_1387, fun _ _ _ => rfl⟩)))))) (kn_bi (kn_bi (kn_bi (kn_bi (kn_lf ⟨_, sl_206_1390, fun _ _ _ => rfl⟩) (kn_lf ⟨_, sl_206_1391, fun _ _ _ => rfl⟩)) (kn_bi (kn_lf ⟨_, sl_206_1393, fun _ _ _ => rfl⟩) (kn_bi (kn_lf ⟨_, sl_206_1395, fun _ _ _ => rfl⟩) (kn_lf ⟨_, sl_206_1398, fun _ _ _ => rfl⟩)))) (kn_bi (kn_bi (kn_lf ⟨_, sl_206_1399, fun _ _ _ => rfl⟩) (kn_bi (kn_lf ⟨_, sl_206_1402, fun _ _ _ => rfl⟩) (kn_lf ⟨_, sl_206_1404, fun _ _ _ => rfl⟩))) (kn_bi (kn_lf ⟨_, sl_206_1407, fun _ _ _ => rfl⟩) (kn_bi (kn_lf ⟨_, sl_206_1408, fun _ _ _ => rfl⟩) (kn_lf ⟨_, sl_206_1411, fun _ _ _ => rfl⟩))))) (kn_bi (kn_bi (kn_bi (kn_lf ⟨_, sl_206_1413, fun _ _ _ => rfl⟩) (kn_lf ⟨_, sl_206_1416, fun _ _ _ => rfl⟩)) (kn_bi (kn_lf ⟨_, sl_206_1417, fun _ _ _ => rfl⟩) (kn_bi (kn_lf ⟨_, sl_206_1420, fun _ _ _ => rfl⟩) (kn_lf ⟨_, sl_206_1422, fun _ _ _ => rfl⟩)))) (kn_bi (kn_bi (kn_lf ⟨_, sl_206_1425, fun _ _ _ => rfl⟩) (kn_bi (kn_lf ⟨_, sl_206_1426, fun _ _ _ => rfl⟩) (kn_lf ⟨_, sl_206_1428, fun _ _ _ => rfl⟩))) (kn_bi (kn_lf ⟨_, sl_206_1430, fun _ _ _ => rfl⟩) (kn_bi (kn_lf ⟨_, sl_206_1433, fun _ _ _ => rfl⟩) (kn_lf ⟨_, sl_206_1434, fun _ _ _ => rfl⟩))))))) (kn_bi (kn_bi (kn_bi (kn_bi (kn_bi (kn_lf ⟨_, sl_206_1436, fun _ _ _ => rfl⟩) (kn_lf ⟨_, sl_206_1438, fun _ _ _ => rfl⟩)) (kn_bi (kn_lf ⟨_, sl_206_1441, fun _ _ _ => rfl⟩) (kn_bi (kn_lf ⟨_, sl_206_1442, fun _ _ _ => rfl⟩) (kn_lf ⟨_, sl_206_1444, fun _ _ _ => rfl⟩)))) (kn_bi (kn_bi (kn_lf ⟨_, sl_206_1446, fun _ _ _ => rfl⟩) (kn_bi (kn_lf ⟨_, sl_206_1449, fun _ _ _ => rfl⟩) (kn_lf ⟨_, sl_206_1450, fun _ _ _ => rfl⟩))) (kn_bi (kn_lf ⟨_, sl_206_1452, fun _ _ _ => rfl⟩) (kn_bi (kn_lf ⟨_, sl_206_1454, fun _ _ _ => rfl⟩) (kn_lf ⟨_, sl_206_1457, fun _ _ _ => rfl⟩))))) (kn_bi (kn_bi (kn_bi (kn_lf ⟨_, sl_206_1458, fun _ _ _ => rfl⟩) (kn_lf ⟨_, sl_206_1460, fun _ _ _ => rfl⟩)) (kn_bi (kn_lf ⟨_, sl_206_1462, fun _ _ _ => rfl⟩) (kn_bi (kn_lf ⟨_, sl_206_1465, fun _ _ _ => rfl⟩) (kn_lf ⟨_, sl_206_1466, fun _ _ _ => rfl⟩)))) (kn_bi (kn_bi (kn_lf ⟨_, sl_206_1468, fun _ _ _ => rfl⟩) (kn_bi (kn_lf ⟨_, sl_206_1470, fun _ _ _ => rfl⟩) (kn_lf ⟨_, sl_206_1473, fun _ _ _ => rfl⟩))) (kn_bi (kn_lf ⟨_, sl_206_1474, fun _ _ _ => rfl⟩) (kn_bi (kn_lf ⟨_, sl_206_1476, fun _ _ _ => rfl⟩) (kn_lf ⟨_, sl_206_1478, fun _ _ _ => rfl⟩)))))) (kn_bi (kn_bi (kn_bi (kn_bi (kn_lf ⟨_, sl_206_1481, fun _ _ _ => rfl⟩) (kn_lf ⟨_, sl_206_1482, fun _ _ _ => rfl⟩)) (kn_bi (kn_lf ⟨_, sl_206_1484, fun _ _ _ => rfl⟩) (kn_bi (kn_lf ⟨_, sl_206_1486, fun _ _ _ => rfl⟩) (kn_lf ⟨_, sl_206_1489, fun _ _ _ => rfl⟩)))) (kn_bi (kn_bi (kn_lf ⟨_, sl_206_1490, fun _ _ _ => rfl⟩) (kn_bi (kn_lf ⟨_, sl_206_1492, fun _ _ _ => rfl⟩) (kn_lf ⟨_, sl_206_1494, fun _ _ _ => rfl⟩))) (kn_bi (kn_lf ⟨_, sl_206_1497, fun _ _ _ => rfl⟩) (kn_bi (kn_lf ⟨_, sl_206_1498, fun _ _ _ => rfl⟩) (kn_lf ⟨_, sl_206_1500, fun _ _ _ => rfl⟩))))) (kn_bi (kn_bi (kn_bi (kn_lf ⟨_, sl_206_1502, fun _ _ _ => rfl⟩) (kn_bi (kn_lf ⟨_, sl_206_1505, fun _ _ _ => rfl⟩) (kn_lf ⟨_, sl_206_1506, fun _ _ _ => rfl⟩))) (kn_bi (kn_lf ⟨_, sl_206_1508, fun _ _ _ => rfl⟩) (kn_bi (kn_lf ⟨_, sl_206_1510, fun _ _ _ => rfl⟩) (kn_lf ⟨_, sl_206_1513, fun _ _ _ => rfl⟩)))) (kn_bi (kn_bi (kn_lf ⟨_, sl_206_1514, fun _ _ _ => rfl⟩) (kn_bi (kn_lf ⟨_, sl_206_1517, fun _ _ _ => rfl⟩) (kn_lf ⟨_, sl_206_1519, fun _ _ _ => rfl⟩))) (kn_bi (kn_lf ⟨_, sl_206_1522, fun _ _ _ => rfl⟩) (kn_bi (kn_lf ⟨_, sl_206_1523, fun _ _ _ => rfl⟩) (kn_lf ⟨_, sl_206_1525, fun _ _ _ => rfl⟩)))))))) (kn_bi (kn_bi (kn_bi (kn_bi (kn_bi (kn_bi (kn_lf ⟨_, sl_206_1527, fun _ _ _ => rfl⟩) (kn_lf ⟨_, sl_206_1530, fun _ _ _ => rfl⟩)) (kn_bi (kn_lf ⟨_, sl_206_1531, fun _ _ _ => rfl⟩) (kn_bi (kn_lf ⟨_, sl_206_1533, fun _ _ _ => rfl⟩) (kn_lf ⟨_, sl_206_1535, fun _ _ _ => rfl⟩)))) (kn_bi (kn_bi (kn_lf ⟨_, sl_206_1538, fun _ _ _ => rfl⟩) (kn_bi (kn_lf ⟨_, sl_206_1539, fun _ _ _ => rfl⟩) (kn_lf ⟨_, sl_206_1541, fun _ _ _ => rfl⟩))) (kn_bi (kn_lf ⟨_, sl_206_1543, fun _ _ _ => rfl⟩) (kn_bi (kn_lf ⟨_, sl_206_1546, fun _ _ _ => rfl⟩) (kn_lf ⟨_, sl_206_1547, fun _ _ _ => rfl⟩))))) (kn_bi (kn_bi (kn_bi (kn_lf ⟨_, sl_206_1549, fun _ _ _ => rfl⟩) (kn_lf ⟨_, sl_206_1551, fun _ _ _ => rfl⟩)) (kn_bi (kn_lf ⟨_, sl_206_1554, fun _ _ _ => rfl⟩) (kn_bi (kn_lf ⟨_, sl_206_1555, fun _ _ _ => rfl⟩) (kn_lf ⟨_, sl_206_1557, fun _ _ _ => rfl⟩)))) (kn_bi (kn_bi (kn_lf ⟨_, sl_206_1559, fun _ _ _ => rfl⟩) (kn_bi (kn_lf ⟨_, sl_206_1562, fun _ _ _ => rfl⟩) (kn_lf ⟨_, sl_206_1563, fun _ _ _ => rfl⟩))) (kn_bi (kn_lf ⟨_, sl_206_1565, fun _ _ _ => rfl⟩) (kn_bi (kn_lf ⟨_, sl_206_1567, fun _ _ _ => rfl⟩) (kn_lf ⟨_, sl_206_1570, fun _ _ _ => rfl⟩)))))) (kn_bi (kn_bi (kn_bi (kn_bi (kn_lf ⟨_, sl_206_1571, fun _ _ _ => rfl⟩) (kn_lf ⟨_, sl_206_1573, fun _ _ _ => rfl⟩)) (kn_bi (kn_lf ⟨_, sl_206_1575, fun _ _ _ => rfl⟩) (kn_bi (kn_lf ⟨_, sl_206_1578, fun _ _ _ => rfl⟩) (kn_lf ⟨_, sl_206_1579, fun _ _ _ => rfl⟩)))) (kn_bi (kn_bi (kn_lf ⟨_, sl_206_1581, fun _ _ _ => rfl⟩) (kn_bi (kn_lf ⟨_, sl_206_1583, fun _ _ _ => rfl⟩) (kn_lf ⟨_, sl_206_1586, fun _ _ _ => rfl⟩))) (kn_bi (kn_lf ⟨_, sl_206_1587, fun _ _ _ => rfl⟩) (kn_bi (kn_lf ⟨_, sl_206_1589, fun _ _ _ => rfl⟩) (kn_lf ⟨_, sl_206_1591, fun _ _ _ => rfl⟩))))) (kn_bi (kn_bi (kn_bi (kn_lf ⟨_, sl_206_1594, fun _ _ _ => rfl⟩) (kn_lf ⟨_, sl_206_1595, fun _ _ _ => rfl⟩)) (kn_bi (kn_lf ⟨_, sl_206_1597, fun _ _ _ => rfl⟩) (kn_bi (kn_lf ⟨_, sl_206_1599, fun _ _ _ => rfl⟩) (kn_lf ⟨_, sl_206_1602, fun _ _ _ => rfl⟩)))) (kn_bi (kn_bi (kn_lf ⟨_, sl_206_1603, fun _ _ _ => rfl⟩) (kn_bi (kn_lf ⟨_, sl_206_1605, fun _ _ _ => rfl⟩) (kn_lf ⟨_, sl_206_1607, fun _ _ _ => rfl⟩))) (kn_bi (kn_lf ⟨_, sl_206_1610, fun _ _ _ => rfl⟩) (kn_bi (kn_lf ⟨_, sl_206_1611, fun _ _ _ => rfl⟩) (kn_lf ⟨_, sl_206_1613, fun _ _ _ => rfl⟩))))))) (kn_bi (kn_bi (kn_bi (kn_bi (kn_bi (kn_lf ⟨_, sl_206_1615, fun _ _ _ => rfl⟩) (kn_lf ⟨_, sl_206_1618, fun _ _ _ => rfl⟩)) (kn_bi (kn_lf ⟨_, sl_206_1619, fun _ _ _ => rfl⟩) (kn_bi (kn_lf ⟨_, sl_206_1621, fun _ _ _ => rfl⟩) (kn_lf ⟨_, sl_206_1623, fun _ _ _ => rfl⟩)))) (kn_bi (kn_bi (kn_lf ⟨_, sl_206_1626, fun _ _ _ => rfl⟩) (kn_bi (kn_lf ⟨_, sl_206_1627, fun _ _ _ => rfl⟩) (kn_lf ⟨_, sl_206_1629, fun _ _ _ => rfl⟩))) (kn_bi (kn_lf ⟨_, sl_206_1631, fun _ _ _ => rfl⟩) (kn_bi (kn_lf ⟨_, sl_206_1634, fun _ _ _ => rfl⟩) (kn_lf ⟨_, sl_206_1635, fun _ _ _ => rfl⟩))))) (kn_bi (kn_bi (kn_bi (kn_lf ⟨_, sl_206_1637, fun _ _ _ => rfl⟩) (kn_lf ⟨_, sl_206_1639, fun _ _ _ => rfl⟩)) (kn_bi (kn_lf ⟨_, sl_206_1642, fun _ _ _ => rfl⟩) (kn_bi (kn_lf ⟨_, sl_206_1643, fun _ _ _ => rfl⟩) (kn_lf ⟨_, sl_206_1645, fun _ _ _ => rfl⟩)))) (kn_bi (kn_bi (kn_lf ⟨_, sl_206_1647, fun _ _ _ => rfl⟩) (kn_bi (kn_lf ⟨_, sl_206_1650, fun _ _ _ => rfl⟩) (kn_lf ⟨_, sl_206_1651, fun _ _ _ => rfl⟩))) (kn_bi (kn_lf ⟨_, sl_206_1653, fun _ _ _ => rfl⟩) (kn_bi (kn_lf ⟨_, sl_206_1655, fun _ _ _ => rfl⟩) (kn_lf ⟨_, sl_206_1658, fun _ _ _ => rfl⟩)))))) (kn_bi (kn_bi (kn_bi (kn_bi (kn_lf ⟨_, sl_206_1659, fun _ _ _ => rfl⟩) (kn_lf ⟨_, sl_206_1661, fun _ _ _ => rfl⟩)) (kn_bi (kn_lf ⟨_, sl_206_1663, fun _ _ _ => rfl⟩) (kn_bi (kn_lf ⟨_, sl_206_1666, fun _ _ _ => rfl⟩) (kn_lf ⟨_, sl_206_1667, fun _ _ _ => rfl⟩)))) (kn_bi (kn_bi (kn_lf ⟨_, sl_206_1668, fun _ _ _ => rfl⟩) (kn_bi (kn_lf ⟨_, sl_206_1671, fun _ _ _ => rfl⟩) (kn_lf ⟨_, sl_206_1672, fun _ _ _ => rfl⟩))) (kn_bi (kn_lf ⟨_, sl_206_1675, fun _ _ _ => rfl⟩) (kn_bi (kn_lf ⟨_, sl_206_1677, fun _ _ _ => rfl⟩) (kn_lf ⟨_, sl_206_1680, fun _ _ _ => rfl⟩))))) (kn_bi (kn_bi (kn_bi (kn_lf ⟨_, sl_206_1681, fun _ _ _ => rfl⟩) (kn_bi (kn_lf ⟨_, sl_206_1684, fun _ _ _ => rfl⟩) (kn_lf ⟨_, sl_206_1686, fun _ _ _ => rfl⟩))) (kn_bi (kn_lf ⟨_, sl_206_1689, fun _ _ _ => rfl⟩) (kn_bi (kn_lf ⟨_, sl_206_1690, fun _ _ _ => rfl⟩) (kn_lf ⟨_, sl_206_1693, fun _ _ _ => rfl⟩)))) (kn_bi (kn_bi (kn_lf ⟨_, sl_206_1695, fun _ _ _ => rfl⟩) (kn_bi (kn_lf ⟨_, sl_206_1698, fun _ _ _ => rfl⟩) (kn_lf ⟨_, sl_206_1699, fun _ _ _ => rfl⟩))) (kn_bi (kn_lf ⟨_, sl_206_1702, fun _ _ _ => rfl⟩) (kn_bi (kn_lf ⟨_, sl_206_1704, fun _ _ _ => rfl⟩) (kn_lf ⟨_, sl_206_1707, fun _ _ _ => rfl⟩)))))))))) (kn_bi (kn_bi (kn_bi (kn_bi (kn_bi (kn_bi (kn_bi (kn_bi (kn_lf ⟨_, sl_206_1708, fun _ _ _ => rfl⟩) (kn_lf ⟨_, sl_206_1710, fun _ _ _ => rfl⟩)) (kn_bi (kn_lf ⟨_, sl_206_1712, fun _ _ _ => rfl⟩) (kn_bi (kn_lf ⟨_, sl_206_1715, fun _ _ _ => rfl⟩) (kn_lf ⟨_, sl_206_1716, fun _ _ _ => rfl⟩)))) (kn_bi (kn_bi (kn_lf ⟨_, sl_206_1718, fun _ _ _ => rfl⟩) (kn_bi (kn_lf ⟨_, sl_206_1720, fun _ _ _ => rfl⟩) (kn_lf ⟨_, sl_206_1723, fun _ _ _ => rfl⟩))) (kn_bi (kn_lf ⟨_, sl_206_1724, fun _ _ _ => rfl⟩) (kn_bi (kn_lf ⟨_, sl_206_1726, fun _ _ _ => rfl⟩) (kn_lf ⟨_, sl_206_1728, fun _ _ _ => rfl⟩))))) (kn_bi (kn_bi (kn_bi (kn_lf ⟨_, sl_206_1731, fun _ _ _ => rfl⟩) (kn_lf ⟨_, sl_206_1732, fun _ _ _ => rfl⟩)) (kn_bi (kn_lf ⟨_, sl_206_1734, fun _ _ _ => rfl⟩) (kn_bi (kn_lf ⟨_, sl_206_1736, fun _ _ _ => rfl⟩) (kn_lf ⟨_, sl_206_1739, fun _ _ _ => rfl⟩)))) (kn_bi (kn_bi (kn_lf ⟨_, sl_206_1740, fun _ _ _ => rfl⟩) (kn_bi (kn_lf ⟨_, sl_206_1743, fun _ _ _ => rfl⟩) (kn_lf ⟨_, sl_206_1745, fun _ _ _ => rfl⟩))) (kn_bi (kn_lf ⟨_, sl_206_1748, fun _ _ _ => rfl⟩) (kn_bi (kn_lf ⟨_, sl_206_1749, fun _ _ _ => rfl⟩) (kn_lf ⟨_, sl_206_1752, fun _ _ _ => rfl⟩)))))) (kn_bi (kn_bi (kn_bi (kn_bi (kn_lf ⟨_, sl_206_1754, fun _ _ _ => rfl⟩) (kn_lf ⟨_, sl_206_1757, fun _ _ _ => rfl⟩)) (kn_bi (kn_lf ⟨_, sl_206_1758, fun _ _ _ => rfl⟩) (kn_bi (kn_lf ⟨_, sl_206_1761, fun _ _ _ => rfl⟩) (kn_lf ⟨_, sl_206_1763, fun _ _ _ => rfl⟩)))) (kn_bi (kn_bi (kn_lf ⟨_, sl_206_1766, fun _ _ _ => rfl⟩) (kn_bi (kn_lf ⟨_, sl_206_1767, fun _ _ _ => rfl⟩) (kn_lf ⟨_, sl_206_1770, fun _ _ _ => rfl⟩))) (kn_bi (kn_lf ⟨_, sl_206_1772, fun _ _ _ => rfl⟩) (kn_bi (kn_lf ⟨_, sl_206_1775, fun _ _ _ => rfl⟩) (kn_lf ⟨_, sl_206_1776, fun _ _ _ => rfl⟩))))) (kn_bi (kn_bi (kn_bi (kn_lf ⟨_, sl_206_1779, fun _ _ _ => rfl⟩) (kn_lf ⟨_, sl_206_1781, fun _ _ _ => rfl⟩)) (kn_bi (kn_lf ⟨_, sl_206_1784, fun _ _ _ => rfl⟩) (kn_bi (kn_lf ⟨_, sl_206_1785, fun _ _ _ => rfl⟩) (kn_lf ⟨_, sl_206_1787, fun _ _ _ => rfl⟩)))) (kn_bi (kn_bi (kn_lf ⟨_, sl_206_1789, fun _ _ _ => rfl⟩) (kn_bi (kn_lf ⟨_, sl_206_1792, fun _ _ _ => rfl⟩) (kn_lf ⟨_, sl_206_1793, fun _ _ _ => rfl⟩))) (kn_bi (kn_lf ⟨_, sl_206_1795, fun _ _ _ => rfl⟩) (kn_bi (kn_lf ⟨_, sl_206_1797, fun _ _ _ => rfl⟩) (kn_lf ⟨_, sl_206_1800, fun _ _ _ => rfl⟩))))))) (kn_bi (kn_bi (kn_bi (kn_bi (kn_bi (kn_lf ⟨_, sl_206_1801, fun _ _ _ => rfl⟩) (kn_lf ⟨_, sl_206_1803, fun _ _ _ => rfl⟩)) (kn_bi (kn_lf ⟨_, sl_206_1805, fun _ _ _ => rfl⟩) (kn_bi (kn_lf ⟨_, sl_206_1808, fun _ _ _ => rfl⟩) (kn_lf ⟨_, sl_206_1809, fun _ _ _ => rfl⟩)))) (kn_bi (kn_bi (kn_lf ⟨_, sl_206_1811, fun _ _ _ => rfl⟩) (kn_bi (kn_lf ⟨_, sl_206_1813, fun _ _ _ => rfl⟩) (kn_lf ⟨_, sl_206_1816, fun _ _ _ => rfl⟩))) (kn_bi (kn_lf ⟨_, sl_206_1817, fun _ _ _ => rfl⟩) (kn_bi (kn_lf ⟨_, sl_206_1819, fun _ _ _ => rfl⟩) (kn_lf ⟨_, sl_206_1821, fun _ _ _ => rfl⟩))))) (kn_bi (kn_bi (kn_bi (kn_lf ⟨_, sl_206_1824, fun _ _ _ => rfl⟩) (kn_lf ⟨_, sl_206_1825, fun _ _ _ => rfl⟩)) (kn_bi (kn_lf ⟨_, sl_206_1827, fun _ _ _ => rfl⟩) (kn_bi (kn_lf ⟨_, sl_206_1829, fun _ _ _ => rfl⟩) (kn_lf ⟨_, sl_206_1832, fun _ _ _ => rfl⟩)))) (kn_bi (kn_bi (kn_lf ⟨_, sl_206_1833, fun _ _ _ => rfl⟩) (kn_bi (kn_lf ⟨_, sl_206_1835, fun _ _ _ => rfl⟩) (kn_lf ⟨_, sl_206_1837, fun _ _ _ => rfl⟩))) (kn_bi (kn_lf ⟨_, sl_206_1840, fun _ _ _ => rfl⟩) (kn_bi (kn_lf ⟨_, sl_206_1841, fun _ _ _ => rfl⟩) (kn_lf ⟨_, sl_206_1843, fun _ _ _ => rfl⟩)))))) (kn_bi (kn_bi (kn_bi (kn_bi (kn_lf ⟨_, sl_206_1845, fun _ _ _ => rfl⟩) (kn_lf ⟨_, sl_206_1848, fun _ _ _ => rfl⟩)) (kn_bi (kn_lf ⟨_, sl_206_1849, fun _ _ _ => rfl⟩) (kn_bi (kn_lf ⟨_, sl_206_1851, fun _ _ _ => rfl⟩) (kn_lf ⟨_, sl_206_1853, fun _ _ _ => rfl⟩)))) (kn_bi (kn_bi (kn_lf ⟨_, sl_206_1856, fun _ _ _ => rfl⟩) (kn_bi (kn_lf ⟨_, sl_206_1857, fun _ _ _ => rfl⟩) (kn_lf ⟨_, sl_206_1859, fun _ _ _ => rfl⟩))) (kn_bi (kn_lf ⟨_, sl_206_1861, fun _ _ _ => rfl⟩) (kn_bi (kn_lf ⟨_, sl_206_1864, fun _ _ _ => rfl⟩) (kn_lf ⟨_, sl_206_1865, fun _ _ _ => rfl⟩))))) (kn_bi (kn_bi (kn_bi (kn_lf ⟨_, sl_206_1867, fun _ _ _ => rfl⟩) (kn_lf ⟨_, sl_206_1869, fun _ _ _ => rfl⟩)) (kn_bi (kn_lf ⟨_, sl_206_1872, fun _ _ _ => rfl⟩) (kn_bi (kn_lf ⟨_, sl_206_1873, fun _ _ _ => rfl⟩) (kn_lf ⟨_, sl_206_1875, fun _ _ _ => rfl⟩)))) (kn_bi (kn_bi (kn_lf ⟨_, sl_206_1877, fun _ _ _ => rfl⟩) (kn_bi (kn_lf ⟨_, sl_206_1880, fun _ _ _ => rfl⟩) (kn_lf ⟨_, sl_206_1881, fun _ _ _ => rfl⟩))) (kn_bi (kn_lf ⟨_, sl_206_1884, fun _ _ _ => rfl⟩) (kn_bi (kn_lf ⟨_, sl_206_1886, fun _ _ _ => rfl⟩) (kn_lf ⟨_, sl_206_1889, fun _ _ _ => rfl⟩)))))))) (kn_bi (kn_bi (kn_bi (kn_bi (kn_bi (kn_bi (kn_lf ⟨_, sl_206_1890, fun _ _ _ => rfl⟩) (kn_lf ⟨_, sl_206_1893, fun _ _ _ => rfl⟩)) (kn_bi (kn_lf ⟨_, sl_206_1895, fun _ _ _ => rfl⟩) (kn_bi (kn_lf ⟨_, sl_206_1898, fun _ _ _ => rfl⟩) (kn_lf ⟨_, sl_206_1899, fun _ _ _ => rfl⟩)))) (kn_bi (kn_bi (kn_lf ⟨_, sl_206_1902, fun _ _ _ => rfl⟩) (kn_bi (kn_lf ⟨_, sl_206_1904, fun _ _ _ => rfl⟩) (kn_lf ⟨_, sl_206_1907, fun _ _ _ => rfl⟩))) (kn_bi (kn_lf ⟨_, sl_206_1908, fun _ _ _ => rfl⟩) (kn_bi (kn_lf ⟨_, sl_206_1911, fun _ _ _ => rfl⟩) (kn_lf ⟨_, sl_206_1913, fun _ _ _ => rfl⟩))))) (kn_bi (kn_bi (kn_bi (kn_lf ⟨_, sl_206_1916, fun _ _ _ => rfl⟩) (kn_lf ⟨_, sl_206_1917, fun _ _ _ => rfl⟩)) (kn_bi (kn_lf ⟨_, sl_206_1920, fun _ _ _ => rfl⟩) (kn_bi (kn_lf ⟨_, sl_206_1922, fun _ _ _ => rfl⟩) (kn_lf ⟨_, sl_206_1925, fun _ _ _ => rfl⟩)))) (kn_bi (kn_bi (kn_lf ⟨_, sl_206_1926, fun _ _ _ => rfl⟩) (kn_bi (kn_lf ⟨_, sl_206_1929, fun _ _ _ => rfl⟩) (kn_lf ⟨_, sl_206_1931, fun _ _ _ => rfl⟩))) (kn_bi (kn_lf ⟨_, sl_206_1934, fun _ _ _ => rfl⟩) (kn_bi (kn_lf ⟨_, sl_206_1935, fun _ _ _ => rfl⟩) (kn_lf ⟨_, sl_206_1938, fun _ _ _ => rfl⟩)))))) (kn_bi (kn_bi (kn_bi (kn_bi (kn_lf ⟨_, sl_206_1940, fun _ _ _ => rfl⟩) (kn_lf ⟨_, sl_206_1943, fun _ _ _ => rfl⟩)) (kn_bi (kn_lf ⟨_, sl_206_1944, fun _ _ _ => rfl⟩) (kn_bi (kn_lf ⟨_, sl_206_1947, fun _ _ _ => rfl⟩) (kn_lf ⟨_, sl_206_1949, fun _ _ _ => rfl⟩)))) (kn_bi (kn_bi (kn_lf ⟨_, sl_206_1952, fun _ _ _ => rfl⟩) (kn_bi (kn_lf ⟨_, sl_206_1953, fun _ _ _ => rfl⟩) (kn_lf ⟨_, sl_206_1956, fun _ _ _ => rfl⟩))) (kn_bi (kn_lf ⟨_, sl_206_1958, fun _ _ _ => rfl⟩) (kn_bi (kn_lf ⟨_, sl_206_1961, fun _ _ _ => rfl⟩) (kn_lf ⟨_, sl_206_1962, fun _ _ _ => rfl⟩))))) (kn_bi (kn_bi (kn_bi (kn_lf ⟨_, sl_206_1965, fun _ _ _ => rfl⟩) (kn_lf ⟨_, sl_206_1967, fun _ _ _ => rfl⟩)) (kn_bi (kn_lf ⟨_, sl_206_1970, fun _ _ _ => rfl⟩) (kn_bi (kn_lf ⟨_, sl_206_1971, fun _ _ _ => rfl⟩) (kn_lf ⟨_, sl_206_1973, fun _ _ _ => rfl⟩)))) (kn_bi (kn_bi (kn_lf ⟨_, sl_206_1975, fun _ _ _ => rfl⟩) (kn_bi (kn_lf ⟨_, sl_206_1978, fun _ _ _ => rfl⟩) (kn_lf ⟨_, sl_206_1979, fun _ _ _ => rfl⟩))) (kn_bi (kn_lf ⟨_, sl_206_1981, fun _ _ _ => rfl⟩) (kn_bi (kn_lf ⟨_, sl_206_1983, fun _ _ _ => rfl⟩) (kn_lf ⟨_, sl_206_1986, fun _ _ _ => rfl⟩))))))) (kn_bi (kn_bi (kn_bi (kn_bi (kn_bi (kn_lf ⟨_, sl_206_1987, fun _ _ _ => rfl⟩) (kn_lf ⟨_, sl_206_1989, fun _ _ _ => rfl⟩)) (kn_bi (kn_lf ⟨_, sl_206_1991, fun _ _ _ => rfl⟩) (kn_bi (kn_lf ⟨_, sl_206_1994, fun _ _ _ => rfl⟩) (kn_lf ⟨_, sl_206_1995, fun _ _ _ => rfl⟩)))) (kn_bi (kn_bi (kn_lf ⟨_, sl_206_1997, fun _ _ _ => rfl⟩) (kn_bi (kn_lf ⟨_, sl_206_1999, fun _ _ _ => rfl⟩) (kn_lf ⟨_, sl_206_2002, fun _ _ _ => rfl⟩))) (kn_bi (kn_lf ⟨_, sl_206_2003, fun _ _ _ => rfl⟩) (kn_bi (kn_lf ⟨_, sl_206_2005, fun _ _ _ => rfl⟩) (kn_lf ⟨_, sl_206_2007, fun _ _ _ => rfl⟩))))) (kn_bi (kn_bi (kn_bi (kn_lf ⟨_, sl_206_2010, fun _ _ _ => rfl⟩) (kn_lf ⟨_, sl_206_2011, fun _ _ _ => rfl⟩)) (kn_bi (kn_lf ⟨_, sl_206_2013, fun _ _ _ => rfl⟩) (kn_bi (kn_lf ⟨_, sl_206_2015, fun _ _ _ => rfl⟩) (kn_lf ⟨_, sl_206_2018, fun _ _ _ => rfl⟩)))) (kn_bi (kn_bi (kn_lf ⟨_, sl_206_2019, fun _ _ _ => rfl⟩) (kn_bi (kn_lf ⟨_, sl_206_2021, fun _ _ _ => rfl⟩) (kn_lf ⟨_, sl_206_2023, fun _ _ _ => rfl⟩))) (kn_bi (kn_lf ⟨_, sl_206_2026, fun _ _ _ => rfl⟩) (kn_bi (kn_lf ⟨_, sl_206_2027, fun _ _ _ => rfl⟩) (kn_lf ⟨_, sl_206_2029, fun _ _ _ => rfl⟩)))))) (kn_bi (kn_bi (kn_bi (kn_bi (kn_lf ⟨_, sl_206_2031, fun _ _ _ => rfl⟩) (kn_lf ⟨_, sl_206_2034, fun _ _ _ => rfl⟩)) (kn_bi (kn_lf ⟨_, sl_206_2035, fun _ _ _ => rfl⟩) (kn_bi (kn_lf ⟨_, sl_206_2037, fun _ _ _ => rfl⟩) (kn_lf ⟨_, sl_206_2039, fun _ _ _ => rfl⟩)))) (kn_bi (kn_bi (kn_lf ⟨_, sl_206_2042, fun _ _ _ => rfl⟩) (kn_bi (kn_lf ⟨_, sl_206_2043, fun _ _ _ => rfl⟩) (kn_lf ⟨_, sl_206_2045, fun _ _ _ => rfl⟩))) (kn_bi (kn_lf ⟨_, sl_206_2047, fun _ _ _ => rfl⟩) (kn_bi (kn_lf ⟨_, sl_206_2050, fun _ _ _ => rfl⟩) (kn_lf ⟨_, sl_206_2051, fun _ _ _ => rfl⟩))))) (kn_bi (kn_bi (kn_bi (kn_lf ⟨_, sl_206_2053, fun _ _ _ => rfl⟩) (kn_bi (kn_lf ⟨_, sl_206_2055, fun _ _ _ => rfl⟩) (kn_lf ⟨_, sl_206_2058, fun _ _ _ => rfl⟩))) (kn_bi (kn_lf ⟨_, sl_206_2059, fun _ _ _ => rfl⟩) (kn_bi (kn_lf ⟨_, sl_206_2061, fun _ _ _ => rfl⟩) (kn_lf ⟨_, sl_206_2063, fun _ _ _ => rfl⟩)))) (kn_bi (kn_bi (kn_lf ⟨_, sl_206_2066, fun _ _ _ => rfl⟩) (kn_bi (kn_lf ⟨_, sl_206_2067, fun _ _ _ => rfl⟩) (kn_lf ⟨_, sl_206_2069, fun _ _ _ => rfl⟩))) (kn_bi (kn_lf ⟨_, sl_206_2071, fun _ _ _ => rfl⟩) (kn_bi (kn_lf ⟨_, sl_206_2074, fun _ _ _ => rfl⟩) (kn_lf ⟨_, sl_206_2075, fun _ _ _ => rfl⟩))))))))) (kn_bi (kn_bi (kn_bi (kn_bi (kn_bi (kn_bi (kn_bi (kn_lf ⟨_, sl_206_2077, fun _ _ _ => rfl⟩) (kn_lf ⟨_, sl_206_2079, fun _ _ _ => rfl⟩)) (kn_bi (kn_lf ⟨_, sl_206_2082, fun _ _ _ => rfl⟩) (kn_bi (kn_lf ⟨_, sl_206_2083, fun _ _ _ => rfl⟩) (kn_lf ⟨_, sl_206_2085, fun _ _ _ => rfl⟩)))) (kn_bi (kn_bi (kn_lf ⟨_, sl_206_2087, fun _ _ _ => rfl⟩) (kn_bi (kn_lf ⟨_, sl_206_2090, fun _ _ _ => rfl⟩) (kn_lf ⟨_, sl_206_2091, fun _ _ _ => rfl⟩))) (kn_bi (kn_lf ⟨_, sl_206_2093, fun _ _ _ => rfl⟩) (kn_bi (kn_lf ⟨_, sl_206_2095, fun _ _ _ => rfl⟩) (kn_lf ⟨_, sl_206_2098, fun _ _ _ => rfl⟩))))) (kn_bi (kn_bi (kn_bi (kn_lf ⟨_, sl_206_2099, fun _ _ _ => rfl⟩) (kn_lf ⟨_, sl_206_2100, fun _ _ _ => rfl⟩)) (kn_bi (kn_lf ⟨_, sl_206_2103, fun _ _ _ => rfl⟩) (kn_bi (kn_lf ⟨_, sl_206_2104, fun _ _ _ => rfl⟩) (kn_lf ⟨_, sl_206_2106, fun _ _ _ => rfl⟩)))) (kn_bi (kn_bi (kn_lf ⟨_, sl_206_2108, fun _ _ _ => rfl⟩) (kn_bi (kn_lf ⟨_, sl_206_2111, fun _ _ _ => rfl⟩) (kn_lf ⟨_, sl_206_2112, fun _ _ _ => rfl⟩))) (kn_bi (kn_lf ⟨_, sl_206_2114, fun _ _ _ => rfl⟩) (kn_bi (kn_lf ⟨_, sl_206_2116, fun _ _ _ => rfl⟩) (kn_lf ⟨_, sl_206_2119, fun _ _ _ => rfl⟩)))))) (kn_bi (kn_bi (kn_bi (kn_bi (kn_lf ⟨_, sl_206_2120, fun _ _ _ => rfl⟩) (kn_lf ⟨_, sl_206_2122, fun _ _ _ => rfl⟩)) (kn_bi (kn_lf ⟨_, sl_206_2124, fun _ _ _ => rfl⟩) (kn_bi (kn_lf ⟨_, sl_206_2127, fun _ _ _ => rfl⟩) (kn_lf ⟨_, sl_206_2128, fun _ _ _ => rfl⟩)))) (kn_bi (kn_bi (kn_lf ⟨_, sl_206_2130, fun _ _ _ => rfl⟩) (kn_bi (kn_lf ⟨_, sl_206_2132, fun _ _ _ => rfl⟩) (kn_lf ⟨_, sl_206_2135, fun _ _ _ => rfl⟩))) (kn_bi (kn_lf ⟨_, sl_206_2136, fun _ _ _ => rfl⟩) (kn_bi (kn_lf ⟨_, sl_206_2139, fun _ _ _ => rfl⟩) (kn_lf ⟨_, sl_206_2141, fun _ _ _ => rfl⟩))))) (kn_bi (kn_bi (kn_bi (kn_lf ⟨_, sl_206_2144, fun _ _ _ => rfl⟩) (kn_lf ⟨_, sl_206_2145, fun _ _ _ => rfl⟩)) (kn_bi (kn_lf ⟨_, sl_206_2148, fun _ _ _ => rfl⟩) (kn_bi (kn_lf ⟨_, sl_206_2150, fun _ _ _ => rfl⟩) (kn_lf ⟨_, sl_206_2153, fun _ _ _ => rfl⟩)))) (kn_bi (kn_bi (kn_lf ⟨_, sl_206_2154, fun _ _ _ => rfl⟩) (kn_bi (kn_lf ⟨_, sl_206_2157, fun _ _ _ => rfl⟩) (kn_lf ⟨_, sl_206_2159, fun _ _ _ => rfl⟩))) (kn_bi (kn_lf ⟨_, sl_206_2162, fun _ _ _ => rfl⟩) (kn_bi (kn_lf ⟨_, sl_206_2163, fun _ _ _ => rfl⟩) (kn_lf ⟨_, sl_206_2166, fun _ _ _ => rfl⟩))))))) (kn_bi (kn_bi (kn_bi (kn_bi (kn_bi (kn_lf ⟨_, sl_206_2168, fun _ _ _ => rfl⟩) (kn_lf ⟨_, sl_206_2171, fun _ _ _ => rfl⟩)) (kn_bi (kn_lf ⟨_, sl_206_2172, fun _ _ _ => rfl⟩) (kn_bi (kn_lf ⟨_, sl_206_2174, fun _ _ _ => rfl⟩) (kn_lf ⟨_, sl_206_2176, fun _ _ _ => rfl⟩)))) (kn_bi (kn_bi (kn_lf ⟨_, sl_206_2179, fun _ _ _ => rfl⟩) (kn_bi (kn_lf ⟨_, sl_206_2180, fun _ _ _ => rfl⟩) (kn_lf ⟨_, sl_206_2183, fun _ _ _ => rfl⟩))) (kn_bi (kn_lf ⟨_, sl_206_2185, fun _ _ _ => rfl⟩) (kn_bi (kn_lf ⟨_, sl_206_2188, fun _ _ _ => rfl⟩) (kn_lf ⟨_, sl_206_2189, fun _ _ _ => rfl⟩))))) (kn_bi (kn_bi (kn_bi (kn_lf ⟨_, sl_206_2192, fun _ _ _ => rfl⟩) (kn_lf ⟨_, sl_206_2194, fun _ _ _ => rfl⟩)) (kn_bi (kn_lf ⟨_, sl_206_2197, fun _ _ _ => rfl⟩) (kn_bi (kn_lf ⟨_, sl_206_2198, fun _ _ _ => rfl⟩) (kn_lf ⟨_, sl_206_2201, fun _ _ _ => rfl⟩)))) (kn_bi (kn_bi (kn_lf ⟨_, sl_206_2203, fun _ _ _ => rfl⟩) (kn_bi (kn_lf ⟨_, sl_206_2206, fun _ _ _ => rfl⟩) (kn_lf ⟨_, sl_206_2207, fun _ _ _ => rfl⟩))) (kn_bi (kn_lf ⟨_, sl_206_2210, fun _ _ _ => rfl⟩) (kn_bi (kn_lf ⟨_, sl_206_2212, fun _ _ _ => rfl⟩) (kn_lf ⟨_, sl_206_2215, fun _ _ _ => rfl⟩)))))) (kn_bi (kn_bi (kn_bi (kn_bi (kn_lf ⟨_, sl_206_2216, fun _ _ _ => rfl⟩) (kn_lf ⟨_, sl_206_2219, fun _ _ _ => rfl⟩)) (kn_bi (kn_lf ⟨_, sl_206_2221, fun _ _ _ => rfl⟩) (kn_bi (kn_lf ⟨_, sl_206_2224, fun _ _ _ => rfl⟩) (kn_lf ⟨_, sl_206_2225, fun _ _ _ => rfl⟩)))) (kn_bi (kn_bi (kn_lf ⟨_, sl_206_2226, fun _ _ _ => rfl⟩) (kn_bi (kn_lf ⟨_, sl_206_2228, fun _ _ _ => rfl⟩) (kn_lf ⟨_, sl_206_2231, fun _ _ _ => rfl⟩))) (kn_bi (kn_lf ⟨_, sl_206_2232, fun _ _ _ => rfl⟩) (kn_bi (kn_lf ⟨_, sl_206_2233, fun _ _ _ => rfl⟩) (kn_lf ⟨_, sl_206_2235, fun _ _ _ => rfl⟩))))) (kn_bi (kn_bi (kn_bi (kn_lf ⟨_, sl_206_2238, fun _ _ _ => rfl⟩) (kn_bi (kn_lf ⟨_, sl_206_2239, fun _ _ _ => rfl⟩) (kn_lf ⟨_, sl_206_2240, fun _ _ _ => rfl⟩))) (kn_bi (kn_lf ⟨_, sl_206_2242, fun _ _ _ => rfl⟩) (kn_bi (kn_lf ⟨_, sl_206_2245, fun _ _ _ => rfl⟩) (kn_lf ⟨_, sl_206_2246, fun _ _ _ => rfl⟩)))) (kn_bi (kn_bi (kn_lf ⟨_, sl_206_2248, fun _ _ _ => rfl⟩) (kn_bi (kn_lf ⟨_, sl_206_2250, fun _ _ _ => rfl⟩) (kn_lf ⟨_, sl_206_2253, fun _ _ _ => rfl⟩))) (kn_bi (kn_lf ⟨_, sl_206_2254, fun _ _ _ => rfl⟩) (kn_bi (kn_lf ⟨_, sl_206_2256, fun _ _ _ => rfl⟩) (kn_lf ⟨_, sl_206_2258, fun _ _ _ => rfl⟩)))))))) (kn_bi (kn_bi (kn_bi (kn_bi (kn_bi (kn_bi (kn_lf ⟨_, sl_206_2261, fun _ _ _ => rfl⟩) (kn_lf ⟨_, sl_206_2262, fun _ _ _ => rfl⟩)) (kn_bi (kn_lf ⟨_, sl_206_2264, fun _ _ _ => rfl⟩) (kn_bi (kn_lf ⟨_, sl_206_2266, fun _ _ _ => rfl⟩) (kn_lf ⟨_, sl_206_2269, fun _ _ _ => rfl⟩)))) (kn_bi (kn_bi (kn_lf ⟨_, sl_206_2270, fun _ _ _ => rfl⟩) (kn_bi (kn_lf ⟨_, sl_206_2272, fun _ _ _ => rfl⟩) (kn_lf ⟨_, sl_206_2274, fun _ _ _ => rfl⟩))) (kn_bi (kn_lf ⟨_, sl_206_2277, fun _ _ _ => rfl⟩) (kn_bi (kn_lf ⟨_, sl_206_2278, fun _ _ _ => rfl⟩) (kn_lf ⟨_, sl_206_2280, fun _ _ _ => rfl⟩))))) (kn_bi (kn_bi (kn_bi (kn_lf ⟨_, sl_206_2282, fun _ _ _ => rfl⟩) (kn_lf ⟨_, sl_206_2285, fun _ _ _ => rfl⟩)) (kn_bi (kn_lf ⟨_, sl_206_2286, fun _ _ _ => rfl⟩) (kn_bi (kn_lf ⟨_, sl_206_2288, fun _ _ _ => rfl⟩) (kn_lf ⟨_, sl_206_2290, fun _ _ _ => rfl⟩)))) (kn_bi (kn_bi (kn_lf ⟨_, sl_206_2293, fun _ _ _ => rfl⟩) (kn_bi (kn_lf ⟨_, sl_206_2294, fun _ _ _ => rfl⟩) (kn_lf ⟨_, sl_206_2297, fun _ _ _ => rfl⟩))) (kn_bi (kn_lf ⟨_, sl_206_2299, fun _ _ _ => rfl⟩) (kn_bi (kn_lf ⟨_, sl_206_2302, fun _ _ _ => rfl⟩) (kn_lf ⟨_, sl_206_2303, fun _ _ _ => rfl⟩)))))) (kn_bi (kn_bi (kn_bi (kn_bi (kn_lf ⟨_, sl_206_2306, fun _ _ _ => rfl⟩) (kn_lf ⟨_, sl_206_2308, fun _ _ _ => rfl⟩)) (kn_bi (kn_lf ⟨_, sl_206_2311, fun _ _ _ => rfl⟩) (kn_bi (kn_lf ⟨_, sl_206_2312, fun _ _ _ => rfl⟩) (kn_lf ⟨_, sl_206_2315, fun _ _ _ => rfl⟩)))) (kn_bi (kn_bi (kn_lf ⟨_, sl_206_2317, fun _ _ _ => rfl⟩) (kn_bi (kn_lf ⟨_, sl_206_2320, fun _ _ _ => rfl⟩) (kn_lf ⟨_, sl_206_2321, fun _ _ _ => rfl⟩))) (kn_bi (kn_lf ⟨_, sl_206_2324, fun _ _ _ => rfl⟩) (kn_bi (kn_lf ⟨_, sl_206_2326, fun _ _ _ => rfl⟩) (kn_lf ⟨_, sl_206_2329, fun _ _ _ => rfl⟩))))) (kn_bi (kn_bi (kn_bi (kn_lf ⟨_, sl_206_2330, fun _ _ _ => rfl⟩) (kn_lf ⟨_, sl_206_2333, fun _ _ _ => rfl⟩)) (kn_bi (kn_lf ⟨_, sl_206_2335, fun _ _ _ => rfl⟩) (kn_bi (kn_lf ⟨_, sl_206_2338, fun _ _ _ => rfl⟩) (kn_lf ⟨_, sl_206_2339, fun _ _ _ => rfl⟩)))) (kn_bi (kn_bi (kn_lf ⟨_, sl_206_2342, fun _ _ _ => rfl⟩) (kn_bi (kn_lf ⟨_, sl_206_2344, fun _ _ _ => rfl⟩) (kn_lf ⟨_, sl_206_2347, fun _ _ _ => rfl⟩))) (kn_bi (kn_lf ⟨_, sl_206_2348, fun _ _ _ => rfl⟩) (kn_bi (kn_lf ⟨_, sl_206_2351, fun _ _ _ => rfl⟩) (kn_lf ⟨_, sl_206_2353, fun _ _ _ => rfl⟩))))))) (kn_bi (kn_bi (kn_bi (kn_bi (kn_bi (kn_lf ⟨_, sl_206_2356, fun _ _ _ => rfl⟩) (kn_lf ⟨_, sl_206_2357, fun _ _ _ => rfl⟩)) (kn_bi (kn_lf ⟨_, sl_206_2360, fun _ _ _ => rfl⟩) (kn_bi (kn_lf ⟨_, sl_206_2362, fun _ _ _ => rfl⟩) (kn_lf ⟨_, sl_206_2365, fun _ _ _ => rfl⟩)))) (kn_bi (kn_bi (kn_lf ⟨_, sl_206_2366, fun _ _ _ => rfl⟩) (kn_bi (kn_lf ⟨_, sl_206_2369, fun _ _ _ => rfl⟩) (kn_lf ⟨_, sl_206_2371, fun _ _ _ => rfl⟩))) (kn_bi (kn_lf ⟨_, sl_206_2374, fun _ _ _ => rfl⟩) (kn_bi (kn_lf ⟨_, sl_206_2375, fun _ _ _ => rfl⟩) (kn_lf ⟨_, sl_206_2378, fun _ _ _ => rfl⟩))))) (kn_bi (kn_bi (kn_bi (kn_lf ⟨_, sl_206_2380, fun _ _ _ => rfl⟩) (kn_lf ⟨_, sl_206_2383, fun _ _ _ => rfl⟩)) (kn_bi (kn_lf ⟨_, sl_206_2384, fun _ _ _ => rfl⟩) (kn_bi (kn_lf ⟨_, sl_206_2387, fun _ _ _ => rfl⟩) (kn_lf ⟨_, sl_206_2389, fun _ _ _ => rfl⟩)))) (kn_bi (kn_bi (kn_lf ⟨_, sl_206_2392, fun _ _ _ => rfl⟩) (kn_bi (kn_lf ⟨_, sl_206_2393, fun _ _ _ => rfl⟩) (kn_lf ⟨_, sl_206_2395, fun _ _ _ => rfl⟩))) (kn_bi (kn_lf ⟨_, sl_206_2397, fun _ _ _ => rfl⟩) (kn_bi (kn_lf ⟨_, sl_206_2400, fun _ _ _ => rfl⟩) (kn_lf ⟨_, sl_206_2401, fun _ _ _ => rfl⟩)))))) (kn_bi (kn_bi (kn_bi (kn_bi (kn_lf ⟨_, sl_206_2404, fun _ _ _ => rfl⟩) (kn_lf ⟨_, sl_206_2406, fun _ _ _ => rfl⟩)) (kn_bi (kn_lf ⟨_, sl_206_2409, fun _ _ _ => rfl⟩) (kn_bi (kn_lf ⟨_, sl_206_2410, fun _ _ _ => rfl⟩) (kn_lf ⟨_, sl_206_2412, fun _ _ _ => rfl⟩)))) (kn_bi (kn_bi (kn_lf ⟨_, sl_206_2414, fun _ _ _ => rfl⟩) (kn_bi (kn_lf ⟨_, sl_206_2417, fun _ _ _ => rfl⟩) (kn_lf ⟨_, sl_206_2418, fun _ _ _ => rfl⟩))) (kn_bi (kn_lf ⟨_, sl_206_2421, fun _ _ _ => rfl⟩) (kn_bi (kn_lf ⟨_, sl_206_2423, fun _ _ _ => rfl⟩) (kn_lf ⟨_, sl_206_2426, fun _ _ _ => rfl⟩))))) (kn_bi (kn_bi (kn_bi (kn_lf ⟨_, sl_206_2427, fun _ _ _ => rfl⟩) (kn_bi (kn_lf ⟨_, sl_206_2428, fun _ _ _ => rfl⟩) (kn_lf ⟨_, sl_206_2430, fun _ _ _ => rfl⟩))) (kn_bi (kn_lf ⟨_, sl_206_2433, fun _ _ _ => rfl⟩) (kn_bi (kn_lf ⟨_, sl_206_2434, fun _ _ _ => rfl⟩) (kn_lf ⟨_, sl_206_2436, fun _ _ _ => rfl⟩)))) (kn_bi (kn_bi (kn_lf ⟨_, sl_206_2438, fun _ _ _ => rfl⟩) (kn_bi (kn_lf ⟨_, sl_206_2441, fun _ _ _ => rfl⟩) (kn_lf ⟨_, sl_206_2442, fun _ _ _ => rfl⟩))) (kn_bi (kn_lf ⟨_, sl_206_2443, fun _ _ _ => rfl⟩) (kn_bi (kn_lf ⟨_, sl_206_2445, fun _ _ _ => rfl⟩) (kn_lf ⟨_, sl_206_2448, fun _ _ _ => rfl⟩))))))))))))
noncomputable def kpg : Nat → Option (Nat × (Nat → Option kg_F)) := (kb 14 (kb 5 (kb 2 (kb 1 (kl 0 (8, kt_0)) (kl 1 (1, kt_1))) (kb 3 (kl 2 (6, kt_2)) (kb 4 (kl 3 (1, kt_3)) (kl 4 (1, kt_4))))) (kb 7 (kb 6 (kl 5 (2, kt_5)) (kl 6 (1, kt_6))) (kb 8 (kl 7 (2, kt_7)) (kb 9 (kl 8 (2, kt_8)) (kl 9 (3, kt_9)))))) (kb 19 (kb 16 (kb 15 (kl 14 (2, kt_14)) (kl 15 (1, kt_15))) (kb 17 (kl 16 (1, kt_16)) (kb 18 (kl 17 (1, kt_17)) (kl 18 (1, kt_18))))) (kb 21 (kb 20 (kl 19 (1, kt_19)) (kl 20 (3, kt_20))) (kb 22 (kl 21 (3, kt_21)) (kb 206 (kl 22 (2, kt_22)) (kl 206 (1, kt_206)))))))
theorem kpg_ok (X : ag_X) (sio : Value) : ∀ mi q, kpg mi = some q → kg_Q X (nm_E 0 (fun _ => 0) sio) (pg mi) q := fun _ _ => (kn_bi (kn_bi (kn_bi (kn_bi (kn_mi (show kg_Q X (nm_E 0 (fun _ => 0) sio) (pg 0) (8, kt_0) from sg_0 ▸ ⟨rfl, ke_0 X sio⟩)) (kn_mi (show kg_Q X (nm_E 0 (fun _ => 0) sio) (pg 1) (1, kt_1) from sg_1 ▸ ⟨rfl, ke_1 X sio⟩))) (kn_bi (kn_mi (show kg_Q X (nm_E 0 (fun _ => 0) sio) (pg 2) (6, kt_2) from sg_2 ▸ ⟨rfl, ke_2 X sio⟩)) (kn_bi (kn_mi (show kg_Q X (nm_E 0 (fun _ => 0) sio) (pg 3) (1, kt_3) from sg_3 ▸ ⟨rfl, ke_3 X sio⟩)) (kn_mi (show kg_Q X (nm_E 0 (fun _ => 0) sio) (pg 4) (1, kt_4) from sg_4 ▸ ⟨rfl, ke_4 X sio⟩))))) (kn_bi (kn_bi (kn_mi (show kg_Q X (nm_E 0 (fun _ => 0) sio) (pg 5) (2, kt_5) from sg_5 ▸ ⟨rfl, ke_5 X sio⟩)) (kn_mi (show kg_Q X (nm_E 0 (fun _ => 0) sio) (pg 6) (1, kt_6) from sg_6 ▸ ⟨rfl, ke_6 X sio⟩))) (kn_bi (kn_mi (show kg_Q X (nm_E 0 (fun _ => 0) sio) (pg 7) (2, kt_7) from sg_7 ▸ ⟨rfl, ke_7 X sio⟩)) (kn_bi (kn_mi (show kg_Q X (nm_E 0 (fun _ => 0) sio) (pg 8) (2, kt_8) from sg_8 ▸ ⟨rfl, ke_8 X sio⟩)) (kn_mi (show kg_Q X (nm_E 0 (fun _ => 0) sio) (pg 9) (3, kt_9) from sg_9 ▸ ⟨rfl, ke_9 X sio⟩)))))) (kn_bi (kn_bi (kn_bi (kn_mi (show kg_Q X (nm_E 0 (fun _ => 0) sio) (pg 14) (2, kt_14) from sg_14 ▸ ⟨rfl, ke_14 X sio⟩)) (kn_mi (show kg_Q X (nm_E 0 (fun _ => 0) sio) (pg 15) (1, kt_15) from sg_15 ▸ ⟨rfl, ke_15 X sio⟩))) (kn_bi (kn_mi (show kg_Q X (nm_E 0 (fun _ => 0) sio) (pg 16) (1, kt_16) from sg_16 ▸ ⟨rfl, ke_16 X sio⟩)) (kn_bi (kn_mi (show kg_Q X (nm_E 0 (fun _ => 0) sio) (pg 17) (1, kt_17) from sg_17 ▸ ⟨rfl, ke_17 X sio⟩)) (kn_mi (show kg_Q X (nm_E 0 (fun _ => 0) sio) (pg 18) (1, kt_18) from sg_18 ▸ ⟨rfl, ke_18 X sio⟩))))) (kn_bi (kn_bi (kn_mi (show kg_Q X (nm_E 0 (fun _ => 0) sio) (pg 19) (1, kt_19) from sg_19 ▸ ⟨rfl, ke_19 X sio⟩)) (kn_mi (show kg_Q X (nm_E 0 (fun _ => 0) sio) (pg 20) (3, kt_20) from sg_20 ▸ ⟨rfl, ke_20 X sio⟩))) (kn_bi (kn_mi (show kg_Q X (nm_E 0 (fun _ => 0) sio) (pg 21) (3, kt_21) from sg_21 ▸ ⟨rfl, ke_21 X sio⟩)) (kn_bi (kn_mi (show kg_Q X (nm_E 0 (fun _ => 0) sio) (pg 22) (2, kt_22) from sg_22 ▸ ⟨rfl, ke_22 X sio⟩)) (kn_mi (show kg_Q X (nm_E 0 (fun _ => 0) sio) (pg 206) (1, kt_206) from sg_206 ▸ ⟨rfl, ke_206 X sio⟩)))))))
