theorem dX1_init_0 : decode cX1_init 0 = .ok (.aload_n 0, 1) := by decide +kernel
theorem dX1_init_1 : decode cX1_init 1 = .ok (.invokespecial 1, 3) := by decide +kernel
theorem dX1_init_4 : decode cX1_init 4 = .ok (.aload_n 0, 1) := by decide +kernel
theorem dX1_init_5 : decode cX1_init 5 = .ok (.iconst 2, 1) := by decide +kernel
theorem dX1_init_6 : decode cX1_init 6 = .ok (.putfield 7, 3) := by decide +kernel
theorem dX1_init_9 : decode cX1_init 9 = .ok (.aload_n 0, 1) := by decide +kernel
theorem dX1_init_10 : decode cX1_init 10 = .ok (.bipush 8, 2) := by decide +kernel
theorem dX1_init_12 : decode cX1_init 12 = .ok (.newarray .long, 2) := by decide +kernel
theorem dX1_init_14 : decode cX1_init 14 = .ok (.putfield 13, 3) := by decide +kernel
theorem dX1_init_17 : decode cX1_init 17 = .ok (.aload_n 0, 1) := by decide +kernel
theorem dX1_init_18 : decode cX1_init 18 = .ok (.bipush 8, 2) := by decide +kernel
theorem dX1_init_20 : decode cX1_init 20 = .ok (.newarray .int, 2) := by decide +kernel
theorem dX1_init_22 : decode cX1_init 22 = .ok (.putfield 17, 3) := by decide +kernel
theorem dX1_init_25 : decode cX1_init 25 = .ok (.aload_n 0, 1) := by decide +kernel
theorem dX1_init_26 : decode cX1_init 26 = .ok (.bipush 8, 2) := by decide +kernel
theorem dX1_init_28 : decode cX1_init 28 = .ok (.newarray .boolean, 2) := by decide +kernel
theorem dX1_init_30 : decode cX1_init 30 = .ok (.putfield 21, 3) := by decide +kernel
theorem dX1_init_33 : decode cX1_init 33 = .ok (.aload_n 0, 1) := by decide +kernel
theorem dX1_init_34 : decode cX1_init 34 = .ok (.bipush 8, 2) := by decide +kernel
theorem dX1_init_36 : decode cX1_init 36 = .ok (.newarray .int, 2) := by decide +kernel
theorem dX1_init_38 : decode cX1_init 38 = .ok (.putfield 25, 3) := by decide +kernel
theorem dX1_init_41 : decode cX1_init 41 = .ok (.aload_n 0, 1) := by decide +kernel
theorem dX1_init_42 : decode cX1_init 42 = .ok (.bipush 8, 2) := by decide +kernel
theorem dX1_init_44 : decode cX1_init 44 = .ok (.newarray .int, 2) := by decide +kernel
theorem dX1_init_46 : decode cX1_init 46 = .ok (.putfield 28, 3) := by decide +kernel
theorem dX1_init_49 : decode cX1_init 49 = .ok (.aload_n 0, 1) := by decide +kernel
theorem dX1_init_50 : decode cX1_init 50 = .ok (.iconst 4, 1) := by decide +kernel
theorem dX1_init_51 : decode cX1_init 51 = .ok (.newarray .int, 2) := by decide +kernel
theorem dX1_init_53 : decode cX1_init 53 = .ok (.putfield 31, 3) := by decide +kernel
theorem dX1_init_56 : decode cX1_init 56 = .ok (.aload_n 0, 1) := by decide +kernel
theorem dX1_init_57 : decode cX1_init 57 = .ok (.bipush 16, 2) := by decide +kernel
theorem dX1_init_59 : decode cX1_init 59 = .ok (.newarray .int, 2) := by decide +kernel
theorem dX1_init_61 : decode cX1_init 61 = .ok (.putfield 34, 3) := by decide +kernel
theorem dX1_init_64 : decode cX1_init 64 = .ok (.aload_n 0, 1) := by decide +kernel
theorem dX1_init_65 : decode cX1_init 65 = .ok (.bipush 16, 2) := by decide +kernel
theorem dX1_init_67 : decode cX1_init 67 = .ok (.newarray .int, 2) := by decide +kernel
theorem dX1_init_69 : decode cX1_init 69 = .ok (.putfield 37, 3) := by decide +kernel
theorem dX1_init_72 : decode cX1_init 72 = .ok (.aload_n 0, 1) := by decide +kernel
theorem dX1_init_73 : decode cX1_init 73 = .ok (.bipush 16, 2) := by decide +kernel
theorem dX1_init_75 : decode cX1_init 75 = .ok (.newarray .int, 2) := by decide +kernel
theorem dX1_init_77 : decode cX1_init 77 = .ok (.putfield 40, 3) := by decide +kernel
theorem dX1_init_80 : decode cX1_init 80 = .ok (.aload_n 0, 1) := by decide +kernel
theorem dX1_init_81 : decode cX1_init 81 = .ok (.bipush 16, 2) := by decide +kernel
theorem dX1_init_83 : decode cX1_init 83 = .ok (.newarray .int, 2) := by decide +kernel
theorem dX1_init_85 : decode cX1_init 85 = .ok (.putfield 43, 3) := by decide +kernel
theorem dX1_init_88 : decode cX1_init 88 = .ok (.aload_n 0, 1) := by decide +kernel
theorem dX1_init_89 : decode cX1_init 89 = .ok (.bipush 16, 2) := by decide +kernel
theorem dX1_init_91 : decode cX1_init 91 = .ok (.newarray .long, 2) := by decide +kernel
theorem dX1_init_93 : decode cX1_init 93 = .ok (.putfield 46, 3) := by decide +kernel
theorem dX1_init_96 : decode cX1_init 96 = .ok (.aload_n 0, 1) := by decide +kernel
theorem dX1_init_97 : decode cX1_init 97 = .ok (.bipush 16, 2) := by decide +kernel
theorem dX1_init_99 : decode cX1_init 99 = .ok (.newarray .int, 2) := by decide +kernel
theorem dX1_init_101 : decode cX1_init 101 = .ok (.putfield 49, 3) := by decide +kernel
theorem dX1_init_104 : decode cX1_init 104 = .ok (.aload_n 0, 1) := by decide +kernel
theorem dX1_init_105 : decode cX1_init 105 = .ok (.bipush 16, 2) := by decide +kernel
theorem dX1_init_107 : decode cX1_init 107 = .ok (.newarray .int, 2) := by decide +kernel
theorem dX1_init_109 : decode cX1_init 109 = .ok (.putfield 52, 3) := by decide +kernel
theorem dX1_init_112 : decode cX1_init 112 = .ok (.aload_n 0, 1) := by decide +kernel
theorem dX1_init_113 : decode cX1_init 113 = .ok (.iconst 2, 1) := by decide +kernel
theorem dX1_init_114 : decode cX1_init 114 = .ok (.invokevirtual 55, 3) := by decide +kernel
theorem dX1_init_117 : decode cX1_init 117 = .ok (.return_, 1) := by decide +kernel
theorem dX1_thrown_0 : decode cX1_thrown 0 = .ok (.aload_n 0, 1) := by decide +kernel
theorem dX1_thrown_1 : decode cX1_thrown 1 = .ok (.getfield 59, 3) := by decide +kernel
theorem dX1_thrown_4 : decode cX1_thrown 4 = .ok (.ireturn, 1) := by decide +kernel
theorem dX1_in_0 : decode cX1_in 0 = .ok (.lload_n 0, 1) := by decide +kernel
theorem dX1_in_1 : decode cX1_in 1 = .ok (.lload_n 2, 1) := by decide +kernel
theorem dX1_in_2 : decode cX1_in 2 = .ok (.lcmp, 1) := by decide +kernel
theorem dX1_in_3 : decode cX1_in 3 = .ok (.ifCond .lt 14, 3) := by decide +kernel
theorem dX1_in_6 : decode cX1_in 6 = .ok (.lload_n 0, 1) := by decide +kernel
theorem dX1_in_7 : decode cX1_in 7 = .ok (.lload 4, 2) := by decide +kernel
theorem dX1_in_9 : decode cX1_in 9 = .ok (.lcmp, 1) := by decide +kernel
theorem dX1_in_10 : decode cX1_in 10 = .ok (.ifCond .gt 7, 3) := by decide +kernel
theorem dX1_in_13 : decode cX1_in 13 = .ok (.iconst 1, 1) := by decide +kernel
theorem dX1_in_14 : decode cX1_in 14 = .ok (.goto 4, 3) := by decide +kernel
theorem dX1_in_17 : decode cX1_in 17 = .ok (.iconst 0, 1) := by decide +kernel
theorem dX1_in_18 : decode cX1_in 18 = .ok (.ireturn, 1) := by decide +kernel
theorem dX1_begins_0 : decode cX1_begins 0 = .ok (.aload_n 0, 1) := by decide +kernel
theorem dX1_begins_1 : decode cX1_begins 1 = .ok (.iload_n 1, 1) := by decide +kernel
theorem dX1_begins_2 : decode cX1_begins 2 = .ok (.putfield 7, 3) := by decide +kernel
theorem dX1_begins_5 : decode cX1_begins 5 = .ok (.aload_n 0, 1) := by decide +kernel
theorem dX1_begins_6 : decode cX1_begins 6 = .ok (.iconst 0, 1) := by decide +kernel
theorem dX1_begins_7 : decode cX1_begins 7 = .ok (.putfield 62, 3) := by decide +kernel
theorem dX1_begins_10 : decode cX1_begins 10 = .ok (.aload_n 0, 1) := by decide +kernel
theorem dX1_begins_11 : decode cX1_begins 11 = .ok (.iconst 0, 1) := by decide +kernel
theorem dX1_begins_12 : decode cX1_begins 12 = .ok (.putfield 66, 3) := by decide +kernel
theorem dX1_begins_15 : decode cX1_begins 15 = .ok (.aload_n 0, 1) := by decide +kernel
theorem dX1_begins_16 : decode cX1_begins 16 = .ok (.iconst 0, 1) := by decide +kernel
theorem dX1_begins_17 : decode cX1_begins 17 = .ok (.putfield 69, 3) := by decide +kernel
theorem dX1_begins_20 : decode cX1_begins 20 = .ok (.iconst 0, 1) := by decide +kernel
theorem dX1_begins_21 : decode cX1_begins 21 = .ok (.istore_n 2, 1) := by decide +kernel
theorem dX1_begins_22 : decode cX1_begins 22 = .ok (.iload_n 2, 1) := by decide +kernel
theorem dX1_begins_23 : decode cX1_begins 23 = .ok (.bipush 8, 2) := by decide +kernel
theorem dX1_begins_25 : decode cX1_begins 25 = .ok (.if_icmp .ge 44, 3) := by decide +kernel
theorem dX1_begins_28 : decode cX1_begins 28 = .ok (.aload_n 0, 1) := by decide +kernel
theorem dX1_begins_29 : decode cX1_begins 29 = .ok (.getfield 13, 3) := by decide +kernel
theorem dX1_begins_32 : decode cX1_begins 32 = .ok (.iload_n 2, 1) := by decide +kernel
theorem dX1_begins_33 : decode cX1_begins 33 = .ok (.lconst 0, 1) := by decide +kernel
theorem dX1_begins_34 : decode cX1_begins 34 = .ok (.lastore, 1) := by decide +kernel
theorem dX1_begins_35 : decode cX1_begins 35 = .ok (.aload_n 0, 1) := by decide +kernel
theorem dX1_begins_36 : decode cX1_begins 36 = .ok (.getfield 17, 3) := by decide +kernel
theorem dX1_begins_39 : decode cX1_begins 39 = .ok (.iload_n 2, 1) := by decide +kernel
theorem dX1_begins_40 : decode cX1_begins 40 = .ok (.iconst (-1), 1) := by decide +kernel
theorem dX1_begins_41 : decode cX1_begins 41 = .ok (.iastore, 1) := by decide +kernel
theorem dX1_begins_42 : decode cX1_begins 42 = .ok (.aload_n 0, 1) := by decide +kernel
theorem dX1_begins_43 : decode cX1_begins 43 = .ok (.getfield 21, 3) := by decide +kernel
theorem dX1_begins_46 : decode cX1_begins 46 = .ok (.iload_n 2, 1) := by decide +kernel
theorem dX1_begins_47 : decode cX1_begins 47 = .ok (.iconst 0, 1) := by decide +kernel
theorem dX1_begins_48 : decode cX1_begins 48 = .ok (.bastore, 1) := by decide +kernel
theorem dX1_begins_49 : decode cX1_begins 49 = .ok (.aload_n 0, 1) := by decide +kernel
theorem dX1_begins_50 : decode cX1_begins 50 = .ok (.getfield 25, 3) := by decide +kernel
theorem dX1_begins_53 : decode cX1_begins 53 = .ok (.iload_n 2, 1) := by decide +kernel
theorem dX1_begins_54 : decode cX1_begins 54 = .ok (.iconst 0, 1) := by decide +kernel
theorem dX1_begins_55 : decode cX1_begins 55 = .ok (.iastore, 1) := by decide +kernel
theorem dX1_begins_56 : decode cX1_begins 56 = .ok (.aload_n 0, 1) := by decide +kernel
theorem dX1_begins_57 : decode cX1_begins 57 = .ok (.getfield 28, 3) := by decide +kernel
theorem dX1_begins_60 : decode cX1_begins 60 = .ok (.iload_n 2, 1) := by decide +kernel
theorem dX1_begins_61 : decode cX1_begins 61 = .ok (.iconst 0, 1) := by decide +kernel
theorem dX1_begins_62 : decode cX1_begins 62 = .ok (.iastore, 1) := by decide +kernel
theorem dX1_begins_63 : decode cX1_begins 63 = .ok (.iinc 2 1, 3) := by decide +kernel
theorem dX1_begins_66 : decode cX1_begins 66 = .ok (.goto (-44), 3) := by decide +kernel
theorem dX1_begins_69 : decode cX1_begins 69 = .ok (.iconst 0, 1) := by decide +kernel
theorem dX1_begins_70 : decode cX1_begins 70 = .ok (.istore_n 2, 1) := by decide +kernel
theorem dX1_begins_71 : decode cX1_begins 71 = .ok (.iload_n 2, 1) := by decide +kernel
theorem dX1_begins_72 : decode cX1_begins 72 = .ok (.iconst 4, 1) := by decide +kernel
theorem dX1_begins_73 : decode cX1_begins 73 = .ok (.if_icmp .ge 16, 3) := by decide +kernel
theorem dX1_begins_76 : decode cX1_begins 76 = .ok (.aload_n 0, 1) := by decide +kernel
theorem dX1_begins_77 : decode cX1_begins 77 = .ok (.getfield 31, 3) := by decide +kernel
theorem dX1_begins_80 : decode cX1_begins 80 = .ok (.iload_n 2, 1) := by decide +kernel
theorem dX1_begins_81 : decode cX1_begins 81 = .ok (.iconst (-1), 1) := by decide +kernel
theorem dX1_begins_82 : decode cX1_begins 82 = .ok (.iastore, 1) := by decide +kernel
theorem dX1_begins_83 : decode cX1_begins 83 = .ok (.iinc 2 1, 3) := by decide +kernel
theorem dX1_begins_86 : decode cX1_begins 86 = .ok (.goto (-15), 3) := by decide +kernel
theorem dX1_begins_89 : decode cX1_begins 89 = .ok (.return_, 1) := by decide +kernel
theorem dX1_isRefused_0 : decode cX1_isRefused 0 = .ok (.aload_n 0, 1) := by decide +kernel
theorem dX1_isRefused_1 : decode cX1_isRefused 1 = .ok (.iload_n 1, 1) := by decide +kernel
theorem dX1_isRefused_2 : decode cX1_isRefused 2 = .ok (.ifCond .eq 7, 3) := by decide +kernel
theorem dX1_isRefused_5 : decode cX1_isRefused 5 = .ok (.iconst 1, 1) := by decide +kernel
theorem dX1_isRefused_6 : decode cX1_isRefused 6 = .ok (.goto 12, 3) := by decide +kernel
theorem dX1_isRefused_9 : decode cX1_isRefused 9 = .ok (.iload_n 2, 1) := by decide +kernel
theorem dX1_isRefused_10 : decode cX1_isRefused 10 = .ok (.ifCond .eq 7, 3) := by decide +kernel
theorem dX1_isRefused_13 : decode cX1_isRefused 13 = .ok (.iconst 2, 1) := by decide +kernel
theorem dX1_isRefused_14 : decode cX1_isRefused 14 = .ok (.goto 4, 3) := by decide +kernel
theorem dX1_isRefused_17 : decode cX1_isRefused 17 = .ok (.iconst 0, 1) := by decide +kernel
theorem dX1_isRefused_18 : decode cX1_isRefused 18 = .ok (.putfield 59, 3) := by decide +kernel
theorem dX1_isRefused_21 : decode cX1_isRefused 21 = .ok (.aload_n 0, 1) := by decide +kernel
theorem dX1_isRefused_22 : decode cX1_isRefused 22 = .ok (.getfield 59, 3) := by decide +kernel
theorem dX1_isRefused_25 : decode cX1_isRefused 25 = .ok (.ifCond .le 7, 3) := by decide +kernel
theorem dX1_isRefused_28 : decode cX1_isRefused 28 = .ok (.iconst 1, 1) := by decide +kernel
theorem dX1_isRefused_29 : decode cX1_isRefused 29 = .ok (.goto 4, 3) := by decide +kernel
theorem dX1_isRefused_32 : decode cX1_isRefused 32 = .ok (.iconst 0, 1) := by decide +kernel
theorem dX1_isRefused_33 : decode cX1_isRefused 33 = .ok (.ireturn, 1) := by decide +kernel
theorem dX1_noTask_0 : decode cX1_noTask 0 = .ok (.iload_n 1, 1) := by decide +kernel
theorem dX1_noTask_1 : decode cX1_noTask 1 = .ok (.i2l, 1) := by decide +kernel
theorem dX1_noTask_2 : decode cX1_noTask 2 = .ok (.lconst 0, 1) := by decide +kernel
theorem dX1_noTask_3 : decode cX1_noTask 3 = .ok (.aload_n 0, 1) := by decide +kernel
theorem dX1_noTask_4 : decode cX1_noTask 4 = .ok (.getfield 69, 3) := by decide +kernel
theorem dX1_noTask_7 : decode cX1_noTask 7 = .ok (.iconst 1, 1) := by decide +kernel
theorem dX1_noTask_8 : decode cX1_noTask 8 = .ok (.isub, 1) := by decide +kernel
theorem dX1_noTask_9 : decode cX1_noTask 9 = .ok (.i2l, 1) := by decide +kernel
theorem dX1_noTask_10 : decode cX1_noTask 10 = .ok (.invokestatic 72, 3) := by decide +kernel
theorem dX1_noTask_13 : decode cX1_noTask 13 = .ok (.ifCond .ne 7, 3) := by decide +kernel
theorem dX1_noTask_16 : decode cX1_noTask 16 = .ok (.iconst 1, 1) := by decide +kernel
theorem dX1_noTask_17 : decode cX1_noTask 17 = .ok (.goto 4, 3) := by decide +kernel
theorem dX1_noTask_20 : decode cX1_noTask 20 = .ok (.iconst 0, 1) := by decide +kernel
theorem dX1_noTask_21 : decode cX1_noTask 21 = .ok (.ireturn, 1) := by decide +kernel
theorem dX1_noCpu_0 : decode cX1_noCpu 0 = .ok (.iload_n 1, 1) := by decide +kernel
theorem dX1_noCpu_1 : decode cX1_noCpu 1 = .ok (.i2l, 1) := by decide +kernel
theorem dX1_noCpu_2 : decode cX1_noCpu 2 = .ok (.lconst 0, 1) := by decide +kernel
theorem dX1_noCpu_3 : decode cX1_noCpu 3 = .ok (.iconst 2, 1) := by decide +kernel
theorem dX1_noCpu_4 : decode cX1_noCpu 4 = .ok (.aload_n 0, 1) := by decide +kernel
theorem dX1_noCpu_5 : decode cX1_noCpu 5 = .ok (.getfield 7, 3) := by decide +kernel
theorem dX1_noCpu_8 : decode cX1_noCpu 8 = .ok (.imul, 1) := by decide +kernel
theorem dX1_noCpu_9 : decode cX1_noCpu 9 = .ok (.iconst 1, 1) := by decide +kernel
theorem dX1_noCpu_10 : decode cX1_noCpu 10 = .ok (.isub, 1) := by decide +kernel
theorem dX1_noCpu_11 : decode cX1_noCpu 11 = .ok (.i2l, 1) := by decide +kernel
theorem dX1_noCpu_12 : decode cX1_noCpu 12 = .ok (.invokestatic 72, 3) := by decide +kernel
theorem dX1_noCpu_15 : decode cX1_noCpu 15 = .ok (.ifCond .ne 7, 3) := by decide +kernel
theorem dX1_noCpu_18 : decode cX1_noCpu 18 = .ok (.iconst 1, 1) := by decide +kernel
theorem dX1_noCpu_19 : decode cX1_noCpu 19 = .ok (.goto 4, 3) := by decide +kernel
theorem dX1_noCpu_22 : decode cX1_noCpu 22 = .ok (.iconst 0, 1) := by decide +kernel
theorem dX1_noCpu_23 : decode cX1_noCpu 23 = .ok (.ireturn, 1) := by decide +kernel
theorem dX1_noCore_0 : decode cX1_noCore 0 = .ok (.iload_n 1, 1) := by decide +kernel
theorem dX1_noCore_1 : decode cX1_noCore 1 = .ok (.i2l, 1) := by decide +kernel
theorem dX1_noCore_2 : decode cX1_noCore 2 = .ok (.lconst 0, 1) := by decide +kernel
theorem dX1_noCore_3 : decode cX1_noCore 3 = .ok (.aload_n 0, 1) := by decide +kernel
theorem dX1_noCore_4 : decode cX1_noCore 4 = .ok (.getfield 7, 3) := by decide +kernel
theorem dX1_noCore_7 : decode cX1_noCore 7 = .ok (.iconst 1, 1) := by decide +kernel
theorem dX1_noCore_8 : decode cX1_noCore 8 = .ok (.isub, 1) := by decide +kernel
theorem dX1_noCore_9 : decode cX1_noCore 9 = .ok (.i2l, 1) := by decide +kernel
theorem dX1_noCore_10 : decode cX1_noCore 10 = .ok (.invokestatic 72, 3) := by decide +kernel
theorem dX1_noCore_13 : decode cX1_noCore 13 = .ok (.ifCond .ne 7, 3) := by decide +kernel
theorem dX1_noCore_16 : decode cX1_noCore 16 = .ok (.iconst 1, 1) := by decide +kernel
theorem dX1_noCore_17 : decode cX1_noCore 17 = .ok (.goto 4, 3) := by decide +kernel
theorem dX1_noCore_20 : decode cX1_noCore 20 = .ok (.iconst 0, 1) := by decide +kernel
theorem dX1_noCore_21 : decode cX1_noCore 21 = .ok (.ireturn, 1) := by decide +kernel
theorem dX1_reset_0 : decode cX1_reset 0 = .ok (.aload_n 0, 1) := by decide +kernel
theorem dX1_reset_1 : decode cX1_reset 1 = .ok (.iload_n 1, 1) := by decide +kernel
theorem dX1_reset_2 : decode cX1_reset 2 = .ok (.i2l, 1) := by decide +kernel
theorem dX1_reset_3 : decode cX1_reset 3 = .ok (.lconst 1, 1) := by decide +kernel
theorem dX1_reset_4 : decode cX1_reset 4 = .ok (.ldc2_w 76, 3) := by decide +kernel
theorem dX1_reset_7 : decode cX1_reset 7 = .ok (.invokestatic 72, 3) := by decide +kernel
theorem dX1_reset_10 : decode cX1_reset 10 = .ok (.ifCond .ne 7, 3) := by decide +kernel
theorem dX1_reset_13 : decode cX1_reset 13 = .ok (.iconst 1, 1) := by decide +kernel
theorem dX1_reset_14 : decode cX1_reset 14 = .ok (.goto 4, 3) := by decide +kernel
theorem dX1_reset_17 : decode cX1_reset 17 = .ok (.iconst 0, 1) := by decide +kernel
theorem dX1_reset_18 : decode cX1_reset 18 = .ok (.iconst 0, 1) := by decide +kernel
theorem dX1_reset_19 : decode cX1_reset 19 = .ok (.invokevirtual 78, 3) := by decide +kernel
theorem dX1_reset_22 : decode cX1_reset 22 = .ok (.ifCond .eq 5, 3) := by decide +kernel
theorem dX1_reset_25 : decode cX1_reset 25 = .ok (.iconst 0, 1) := by decide +kernel
theorem dX1_reset_26 : decode cX1_reset 26 = .ok (.ireturn, 1) := by decide +kernel
theorem dX1_reset_27 : decode cX1_reset 27 = .ok (.aload_n 0, 1) := by decide +kernel
theorem dX1_reset_28 : decode cX1_reset 28 = .ok (.getfield 7, 3) := by decide +kernel
theorem dX1_reset_31 : decode cX1_reset 31 = .ok (.istore_n 2, 1) := by decide +kernel
theorem dX1_reset_32 : decode cX1_reset 32 = .ok (.aload_n 0, 1) := by decide +kernel
theorem dX1_reset_33 : decode cX1_reset 33 = .ok (.iload_n 1, 1) := by decide +kernel
theorem dX1_reset_34 : decode cX1_reset 34 = .ok (.invokevirtual 55, 3) := by decide +kernel
theorem dX1_reset_37 : decode cX1_reset 37 = .ok (.iload_n 2, 1) := by decide +kernel
theorem dX1_reset_38 : decode cX1_reset 38 = .ok (.ireturn, 1) := by decide +kernel
theorem dX1_setStealing_0 : decode cX1_setStealing 0 = .ok (.aload_n 0, 1) := by decide +kernel
theorem dX1_setStealing_1 : decode cX1_setStealing 1 = .ok (.iconst 0, 1) := by decide +kernel
theorem dX1_setStealing_2 : decode cX1_setStealing 2 = .ok (.putfield 59, 3) := by decide +kernel
theorem dX1_setStealing_5 : decode cX1_setStealing 5 = .ok (.aload_n 0, 1) := by decide +kernel
theorem dX1_setStealing_6 : decode cX1_setStealing 6 = .ok (.getfield 62, 3) := by decide +kernel
theorem dX1_setStealing_9 : decode cX1_setStealing 9 = .ok (.istore_n 2, 1) := by decide +kernel
theorem dX1_setStealing_10 : decode cX1_setStealing 10 = .ok (.aload_n 0, 1) := by decide +kernel
theorem dX1_setStealing_11 : decode cX1_setStealing 11 = .ok (.iload_n 1, 1) := by decide +kernel
theorem dX1_setStealing_12 : decode cX1_setStealing 12 = .ok (.putfield 62, 3) := by decide +kernel
theorem dX1_setStealing_15 : decode cX1_setStealing 15 = .ok (.iload_n 2, 1) := by decide +kernel
theorem dX1_setStealing_16 : decode cX1_setStealing 16 = .ok (.ireturn, 1) := by decide +kernel
theorem dX1_isRunnable_0 : decode cX1_isRunnable 0 = .ok (.aload_n 0, 1) := by decide +kernel
theorem dX1_isRunnable_1 : decode cX1_isRunnable 1 = .ok (.getfield 43, 3) := by decide +kernel
theorem dX1_isRunnable_4 : decode cX1_isRunnable 4 = .ok (.iload_n 1, 1) := by decide +kernel
theorem dX1_isRunnable_5 : decode cX1_isRunnable 5 = .ok (.iaload, 1) := by decide +kernel
theorem dX1_isRunnable_6 : decode cX1_isRunnable 6 = .ok (.ifCond .eq 13, 3) := by decide +kernel
theorem dX1_isRunnable_9 : decode cX1_isRunnable 9 = .ok (.aload_n 0, 1) := by decide +kernel
theorem dX1_isRunnable_10 : decode cX1_isRunnable 10 = .ok (.getfield 43, 3) := by decide +kernel
theorem dX1_isRunnable_13 : decode cX1_isRunnable 13 = .ok (.iload_n 1, 1) := by decide +kernel
theorem dX1_isRunnable_14 : decode cX1_isRunnable 14 = .ok (.iaload, 1) := by decide +kernel
theorem dX1_isRunnable_15 : decode cX1_isRunnable 15 = .ok (.iconst 1, 1) := by decide +kernel
theorem dX1_isRunnable_16 : decode cX1_isRunnable 16 = .ok (.if_icmp .ne 7, 3) := by decide +kernel
theorem dX1_isRunnable_19 : decode cX1_isRunnable 19 = .ok (.iconst 1, 1) := by decide +kernel
theorem dX1_isRunnable_20 : decode cX1_isRunnable 20 = .ok (.goto 4, 3) := by decide +kernel
theorem dX1_isRunnable_23 : decode cX1_isRunnable 23 = .ok (.iconst 0, 1) := by decide +kernel
theorem dX1_isRunnable_24 : decode cX1_isRunnable 24 = .ok (.ireturn, 1) := by decide +kernel
theorem dX1_relative_0 : decode cX1_relative 0 = .ok (.aload_n 0, 1) := by decide +kernel
theorem dX1_relative_1 : decode cX1_relative 1 = .ok (.getfield 46, 3) := by decide +kernel
theorem dX1_relative_4 : decode cX1_relative 4 = .ok (.iload_n 1, 1) := by decide +kernel
theorem dX1_relative_5 : decode cX1_relative 5 = .ok (.laload, 1) := by decide +kernel
theorem dX1_relative_6 : decode cX1_relative 6 = .ok (.aload_n 0, 1) := by decide +kernel
theorem dX1_relative_7 : decode cX1_relative 7 = .ok (.getfield 13, 3) := by decide +kernel
theorem dX1_relative_10 : decode cX1_relative 10 = .ok (.aload_n 0, 1) := by decide +kernel
theorem dX1_relative_11 : decode cX1_relative 11 = .ok (.getfield 34, 3) := by decide +kernel
theorem dX1_relative_14 : decode cX1_relative 14 = .ok (.iload_n 1, 1) := by decide +kernel
theorem dX1_relative_15 : decode cX1_relative 15 = .ok (.iaload, 1) := by decide +kernel
theorem dX1_relative_16 : decode cX1_relative 16 = .ok (.laload, 1) := by decide +kernel
theorem dX1_relative_17 : decode cX1_relative 17 = .ok (.lsub, 1) := by decide +kernel
theorem dX1_relative_18 : decode cX1_relative 18 = .ok (.lreturn, 1) := by decide +kernel
theorem dX1_isAhead_0 : decode cX1_isAhead 0 = .ok (.iload_n 2, 1) := by decide +kernel
theorem dX1_isAhead_1 : decode cX1_isAhead 1 = .ok (.iconst (-1), 1) := by decide +kernel
theorem dX1_isAhead_2 : decode cX1_isAhead 2 = .ok (.if_icmp .ne 5, 3) := by decide +kernel
theorem dX1_isAhead_5 : decode cX1_isAhead 5 = .ok (.iconst 1, 1) := by decide +kernel
theorem dX1_isAhead_6 : decode cX1_isAhead 6 = .ok (.ireturn, 1) := by decide +kernel
theorem dX1_isAhead_7 : decode cX1_isAhead 7 = .ok (.aload_n 0, 1) := by decide +kernel
theorem dX1_isAhead_8 : decode cX1_isAhead 8 = .ok (.iload_n 1, 1) := by decide +kernel
theorem dX1_isAhead_9 : decode cX1_isAhead 9 = .ok (.invokevirtual 82, 3) := by decide +kernel
theorem dX1_isAhead_12 : decode cX1_isAhead 12 = .ok (.lstore_n 3, 1) := by decide +kernel
theorem dX1_isAhead_13 : decode cX1_isAhead 13 = .ok (.aload_n 0, 1) := by decide +kernel
theorem dX1_isAhead_14 : decode cX1_isAhead 14 = .ok (.iload_n 2, 1) := by decide +kernel
theorem dX1_isAhead_15 : decode cX1_isAhead 15 = .ok (.invokevirtual 82, 3) := by decide +kernel
theorem dX1_isAhead_18 : decode cX1_isAhead 18 = .ok (.lstore 5, 2) := by decide +kernel
theorem dX1_isAhead_20 : decode cX1_isAhead 20 = .ok (.lload_n 3, 1) := by decide +kernel
theorem dX1_isAhead_21 : decode cX1_isAhead 21 = .ok (.lload 5, 2) := by decide +kernel
theorem dX1_isAhead_23 : decode cX1_isAhead 23 = .ok (.lcmp, 1) := by decide +kernel
theorem dX1_isAhead_24 : decode cX1_isAhead 24 = .ok (.ifCond .lt 15, 3) := by decide +kernel
theorem dX1_isAhead_27 : decode cX1_isAhead 27 = .ok (.lload_n 3, 1) := by decide +kernel
theorem dX1_isAhead_28 : decode cX1_isAhead 28 = .ok (.lload 5, 2) := by decide +kernel
theorem dX1_isAhead_30 : decode cX1_isAhead 30 = .ok (.lcmp, 1) := by decide +kernel
theorem dX1_isAhead_31 : decode cX1_isAhead 31 = .ok (.ifCond .ne 12, 3) := by decide +kernel
theorem dX1_isAhead_34 : decode cX1_isAhead 34 = .ok (.iload_n 1, 1) := by decide +kernel
theorem dX1_isAhead_35 : decode cX1_isAhead 35 = .ok (.iload_n 2, 1) := by decide +kernel
theorem dX1_isAhead_36 : decode cX1_isAhead 36 = .ok (.if_icmp .ge 7, 3) := by decide +kernel
theorem dX1_isAhead_39 : decode cX1_isAhead 39 = .ok (.iconst 1, 1) := by decide +kernel
theorem dX1_isAhead_40 : decode cX1_isAhead 40 = .ok (.goto 4, 3) := by decide +kernel
theorem dX1_isAhead_43 : decode cX1_isAhead 43 = .ok (.iconst 0, 1) := by decide +kernel
theorem dX1_isAhead_44 : decode cX1_isAhead 44 = .ok (.ireturn, 1) := by decide +kernel
theorem dX1_leader_0 : decode cX1_leader 0 = .ok (.iconst (-1), 1) := by decide +kernel
theorem dX1_leader_1 : decode cX1_leader 1 = .ok (.istore_n 2, 1) := by decide +kernel
theorem dX1_leader_2 : decode cX1_leader 2 = .ok (.iconst 0, 1) := by decide +kernel
theorem dX1_leader_3 : decode cX1_leader 3 = .ok (.istore_n 3, 1) := by decide +kernel
theorem dX1_leader_4 : decode cX1_leader 4 = .ok (.iload_n 3, 1) := by decide +kernel
theorem dX1_leader_5 : decode cX1_leader 5 = .ok (.aload_n 0, 1) := by decide +kernel
theorem dX1_leader_6 : decode cX1_leader 6 = .ok (.getfield 69, 3) := by decide +kernel
theorem dX1_leader_9 : decode cX1_leader 9 = .ok (.if_icmp .ge 44, 3) := by decide +kernel
theorem dX1_leader_12 : decode cX1_leader 12 = .ok (.aload_n 0, 1) := by decide +kernel
theorem dX1_leader_13 : decode cX1_leader 13 = .ok (.iload_n 3, 1) := by decide +kernel
theorem dX1_leader_14 : decode cX1_leader 14 = .ok (.invokevirtual 86, 3) := by decide +kernel
theorem dX1_leader_17 : decode cX1_leader 17 = .ok (.ifCond .eq 28, 3) := by decide +kernel
theorem dX1_leader_20 : decode cX1_leader 20 = .ok (.aload_n 0, 1) := by decide +kernel
theorem dX1_leader_21 : decode cX1_leader 21 = .ok (.getfield 34, 3) := by decide +kernel
theorem dX1_leader_24 : decode cX1_leader 24 = .ok (.iload_n 3, 1) := by decide +kernel
theorem dX1_leader_25 : decode cX1_leader 25 = .ok (.iaload, 1) := by decide +kernel
theorem dX1_leader_26 : decode cX1_leader 26 = .ok (.iconst 2, 1) := by decide +kernel
theorem dX1_leader_27 : decode cX1_leader 27 = .ok (.idiv, 1) := by decide +kernel
theorem dX1_leader_28 : decode cX1_leader 28 = .ok (.iload_n 1, 1) := by decide +kernel
theorem dX1_leader_29 : decode cX1_leader 29 = .ok (.if_icmp .ne 16, 3) := by decide +kernel
theorem dX1_leader_32 : decode cX1_leader 32 = .ok (.aload_n 0, 1) := by decide +kernel
theorem dX1_leader_33 : decode cX1_leader 33 = .ok (.iload_n 3, 1) := by decide +kernel
theorem dX1_leader_34 : decode cX1_leader 34 = .ok (.iload_n 2, 1) := by decide +kernel
theorem dX1_leader_35 : decode cX1_leader 35 = .ok (.invokevirtual 90, 3) := by decide +kernel
theorem dX1_leader_38 : decode cX1_leader 38 = .ok (.ifCond .eq 7, 3) := by decide +kernel
theorem dX1_leader_41 : decode cX1_leader 41 = .ok (.iload_n 3, 1) := by decide +kernel
theorem dX1_leader_42 : decode cX1_leader 42 = .ok (.goto 4, 3) := by decide +kernel
theorem dX1_leader_45 : decode cX1_leader 45 = .ok (.iload_n 2, 1) := by decide +kernel
theorem dX1_leader_46 : decode cX1_leader 46 = .ok (.istore_n 2, 1) := by decide +kernel
theorem dX1_leader_47 : decode cX1_leader 47 = .ok (.iinc 3 1, 3) := by decide +kernel
theorem dX1_leader_50 : decode cX1_leader 50 = .ok (.goto (-46), 3) := by decide +kernel
theorem dX1_leader_53 : decode cX1_leader 53 = .ok (.iload_n 2, 1) := by decide +kernel
theorem dX1_leader_54 : decode cX1_leader 54 = .ok (.ireturn, 1) := by decide +kernel
theorem dX1_firstOf_0 : decode cX1_firstOf 0 = .ok (.iconst (-1), 1) := by decide +kernel
theorem dX1_firstOf_1 : decode cX1_firstOf 1 = .ok (.istore_n 3, 1) := by decide +kernel
theorem dX1_firstOf_2 : decode cX1_firstOf 2 = .ok (.iconst 0, 1) := by decide +kernel
theorem dX1_firstOf_3 : decode cX1_firstOf 3 = .ok (.istore 4, 2) := by decide +kernel
theorem dX1_firstOf_5 : decode cX1_firstOf 5 = .ok (.iload 4, 2) := by decide +kernel
theorem dX1_firstOf_7 : decode cX1_firstOf 7 = .ok (.aload_n 0, 1) := by decide +kernel
theorem dX1_firstOf_8 : decode cX1_firstOf 8 = .ok (.getfield 69, 3) := by decide +kernel
theorem dX1_firstOf_11 : decode cX1_firstOf 11 = .ok (.if_icmp .ge 57, 3) := by decide +kernel
theorem dX1_firstOf_14 : decode cX1_firstOf 14 = .ok (.aload_n 0, 1) := by decide +kernel
theorem dX1_firstOf_15 : decode cX1_firstOf 15 = .ok (.iload 4, 2) := by decide +kernel
theorem dX1_firstOf_17 : decode cX1_firstOf 17 = .ok (.invokevirtual 86, 3) := by decide +kernel
theorem dX1_firstOf_20 : decode cX1_firstOf 20 = .ok (.ifCond .eq 40, 3) := by decide +kernel
theorem dX1_firstOf_23 : decode cX1_firstOf 23 = .ok (.aload_n 0, 1) := by decide +kernel
theorem dX1_firstOf_24 : decode cX1_firstOf 24 = .ok (.getfield 34, 3) := by decide +kernel
theorem dX1_firstOf_27 : decode cX1_firstOf 27 = .ok (.iload 4, 2) := by decide +kernel
theorem dX1_firstOf_29 : decode cX1_firstOf 29 = .ok (.iaload, 1) := by decide +kernel
theorem dX1_firstOf_30 : decode cX1_firstOf 30 = .ok (.iload_n 1, 1) := by decide +kernel
theorem dX1_firstOf_31 : decode cX1_firstOf 31 = .ok (.if_icmp .ne 29, 3) := by decide +kernel
theorem dX1_firstOf_34 : decode cX1_firstOf 34 = .ok (.aload_n 0, 1) := by decide +kernel
theorem dX1_firstOf_35 : decode cX1_firstOf 35 = .ok (.getfield 40, 3) := by decide +kernel
theorem dX1_firstOf_38 : decode cX1_firstOf 38 = .ok (.iload 4, 2) := by decide +kernel
theorem dX1_firstOf_40 : decode cX1_firstOf 40 = .ok (.iaload, 1) := by decide +kernel
theorem dX1_firstOf_41 : decode cX1_firstOf 41 = .ok (.iload_n 2, 1) := by decide +kernel
theorem dX1_firstOf_42 : decode cX1_firstOf 42 = .ok (.if_icmp .ne 18, 3) := by decide +kernel
theorem dX1_firstOf_45 : decode cX1_firstOf 45 = .ok (.aload_n 0, 1) := by decide +kernel
theorem dX1_firstOf_46 : decode cX1_firstOf 46 = .ok (.iload 4, 2) := by decide +kernel
theorem dX1_firstOf_48 : decode cX1_firstOf 48 = .ok (.iload_n 3, 1) := by decide +kernel
theorem dX1_firstOf_49 : decode cX1_firstOf 49 = .ok (.invokevirtual 90, 3) := by decide +kernel
theorem dX1_firstOf_52 : decode cX1_firstOf 52 = .ok (.ifCond .eq 8, 3) := by decide +kernel
theorem dX1_firstOf_55 : decode cX1_firstOf 55 = .ok (.iload 4, 2) := by decide +kernel
theorem dX1_firstOf_57 : decode cX1_firstOf 57 = .ok (.goto 4, 3) := by decide +kernel
theorem dX1_firstOf_60 : decode cX1_firstOf 60 = .ok (.iload_n 3, 1) := by decide +kernel
theorem dX1_firstOf_61 : decode cX1_firstOf 61 = .ok (.istore_n 3, 1) := by decide +kernel
theorem dX1_firstOf_62 : decode cX1_firstOf 62 = .ok (.iinc 4 1, 3) := by decide +kernel
theorem dX1_firstOf_65 : decode cX1_firstOf 65 = .ok (.goto (-60), 3) := by decide +kernel
theorem dX1_firstOf_68 : decode cX1_firstOf 68 = .ok (.iload_n 3, 1) := by decide +kernel
theorem dX1_firstOf_69 : decode cX1_firstOf 69 = .ok (.ireturn, 1) := by decide +kernel
theorem dX1_toSteal_0 : decode cX1_toSteal 0 = .ok (.iconst (-1), 1) := by decide +kernel
theorem dX1_toSteal_1 : decode cX1_toSteal 1 = .ok (.istore_n 3, 1) := by decide +kernel
theorem dX1_toSteal_2 : decode cX1_toSteal 2 = .ok (.iconst 0, 1) := by decide +kernel
theorem dX1_toSteal_3 : decode cX1_toSteal 3 = .ok (.istore 4, 2) := by decide +kernel
theorem dX1_toSteal_5 : decode cX1_toSteal 5 = .ok (.iload 4, 2) := by decide +kernel
theorem dX1_toSteal_7 : decode cX1_toSteal 7 = .ok (.aload_n 0, 1) := by decide +kernel
theorem dX1_toSteal_8 : decode cX1_toSteal 8 = .ok (.getfield 69, 3) := by decide +kernel
theorem dX1_toSteal_11 : decode cX1_toSteal 11 = .ok (.if_icmp .ge 67, 3) := by decide +kernel
theorem dX1_toSteal_14 : decode cX1_toSteal 14 = .ok (.aload_n 0, 1) := by decide +kernel
theorem dX1_toSteal_15 : decode cX1_toSteal 15 = .ok (.getfield 62, 3) := by decide +kernel
theorem dX1_toSteal_18 : decode cX1_toSteal 18 = .ok (.ifCond .eq 60, 3) := by decide +kernel
theorem dX1_toSteal_21 : decode cX1_toSteal 21 = .ok (.aload_n 0, 1) := by decide +kernel
theorem dX1_toSteal_22 : decode cX1_toSteal 22 = .ok (.getfield 43, 3) := by decide +kernel
theorem dX1_toSteal_25 : decode cX1_toSteal 25 = .ok (.iload 4, 2) := by decide +kernel
theorem dX1_toSteal_27 : decode cX1_toSteal 27 = .ok (.iaload, 1) := by decide +kernel
theorem dX1_toSteal_28 : decode cX1_toSteal 28 = .ok (.ifCond .ne 42, 3) := by decide +kernel
theorem dX1_toSteal_31 : decode cX1_toSteal 31 = .ok (.aload_n 0, 1) := by decide +kernel
theorem dX1_toSteal_32 : decode cX1_toSteal 32 = .ok (.getfield 34, 3) := by decide +kernel
theorem dX1_toSteal_35 : decode cX1_toSteal 35 = .ok (.iload 4, 2) := by decide +kernel
theorem dX1_toSteal_37 : decode cX1_toSteal 37 = .ok (.iaload, 1) := by decide +kernel
theorem dX1_toSteal_38 : decode cX1_toSteal 38 = .ok (.iconst 2, 1) := by decide +kernel
theorem dX1_toSteal_39 : decode cX1_toSteal 39 = .ok (.idiv, 1) := by decide +kernel
theorem dX1_toSteal_40 : decode cX1_toSteal 40 = .ok (.iload_n 1, 1) := by decide +kernel
theorem dX1_toSteal_41 : decode cX1_toSteal 41 = .ok (.if_icmp .eq 29, 3) := by decide +kernel
theorem dX1_toSteal_44 : decode cX1_toSteal 44 = .ok (.aload_n 0, 1) := by decide +kernel
theorem dX1_toSteal_45 : decode cX1_toSteal 45 = .ok (.getfield 40, 3) := by decide +kernel
theorem dX1_toSteal_48 : decode cX1_toSteal 48 = .ok (.iload 4, 2) := by decide +kernel
theorem dX1_toSteal_50 : decode cX1_toSteal 50 = .ok (.iaload, 1) := by decide +kernel
theorem dX1_toSteal_51 : decode cX1_toSteal 51 = .ok (.iload_n 2, 1) := by decide +kernel
theorem dX1_toSteal_52 : decode cX1_toSteal 52 = .ok (.if_icmp .ne 18, 3) := by decide +kernel
theorem dX1_toSteal_55 : decode cX1_toSteal 55 = .ok (.aload_n 0, 1) := by decide +kernel
theorem dX1_toSteal_56 : decode cX1_toSteal 56 = .ok (.iload 4, 2) := by decide +kernel
theorem dX1_toSteal_58 : decode cX1_toSteal 58 = .ok (.iload_n 3, 1) := by decide +kernel
theorem dX1_toSteal_59 : decode cX1_toSteal 59 = .ok (.invokevirtual 90, 3) := by decide +kernel
theorem dX1_toSteal_62 : decode cX1_toSteal 62 = .ok (.ifCond .eq 8, 3) := by decide +kernel
theorem dX1_toSteal_65 : decode cX1_toSteal 65 = .ok (.iload 4, 2) := by decide +kernel
theorem dX1_toSteal_67 : decode cX1_toSteal 67 = .ok (.goto 4, 3) := by decide +kernel
theorem dX1_toSteal_70 : decode cX1_toSteal 70 = .ok (.iload_n 3, 1) := by decide +kernel
theorem dX1_toSteal_71 : decode cX1_toSteal 71 = .ok (.istore_n 3, 1) := by decide +kernel
theorem dX1_toSteal_72 : decode cX1_toSteal 72 = .ok (.iinc 4 1, 3) := by decide +kernel
theorem dX1_toSteal_75 : decode cX1_toSteal 75 = .ok (.goto (-70), 3) := by decide +kernel
theorem dX1_toSteal_78 : decode cX1_toSteal 78 = .ok (.iload_n 3, 1) := by decide +kernel
theorem dX1_toSteal_79 : decode cX1_toSteal 79 = .ok (.ireturn, 1) := by decide +kernel
theorem dX1_goesTo_0 : decode cX1_goesTo 0 = .ok (.aload_n 0, 1) := by decide +kernel
theorem dX1_goesTo_1 : decode cX1_goesTo 1 = .ok (.getfield 46, 3) := by decide +kernel
theorem dX1_goesTo_4 : decode cX1_goesTo 4 = .ok (.iload_n 1, 1) := by decide +kernel
theorem dX1_goesTo_5 : decode cX1_goesTo 5 = .ok (.aload_n 0, 1) := by decide +kernel
theorem dX1_goesTo_6 : decode cX1_goesTo 6 = .ok (.iload_n 1, 1) := by decide +kernel
theorem dX1_goesTo_7 : decode cX1_goesTo 7 = .ok (.invokevirtual 82, 3) := by decide +kernel
theorem dX1_goesTo_10 : decode cX1_goesTo 10 = .ok (.aload_n 0, 1) := by decide +kernel
theorem dX1_goesTo_11 : decode cX1_goesTo 11 = .ok (.getfield 13, 3) := by decide +kernel
theorem dX1_goesTo_14 : decode cX1_goesTo 14 = .ok (.iload_n 2, 1) := by decide +kernel
theorem dX1_goesTo_15 : decode cX1_goesTo 15 = .ok (.laload, 1) := by decide +kernel
theorem dX1_goesTo_16 : decode cX1_goesTo 16 = .ok (.ladd, 1) := by decide +kernel
theorem dX1_goesTo_17 : decode cX1_goesTo 17 = .ok (.lastore, 1) := by decide +kernel
theorem dX1_goesTo_18 : decode cX1_goesTo 18 = .ok (.aload_n 0, 1) := by decide +kernel
theorem dX1_goesTo_19 : decode cX1_goesTo 19 = .ok (.getfield 34, 3) := by decide +kernel
theorem dX1_goesTo_22 : decode cX1_goesTo 22 = .ok (.iload_n 1, 1) := by decide +kernel
theorem dX1_goesTo_23 : decode cX1_goesTo 23 = .ok (.iload_n 2, 1) := by decide +kernel
theorem dX1_goesTo_24 : decode cX1_goesTo 24 = .ok (.iastore, 1) := by decide +kernel
theorem dX1_goesTo_25 : decode cX1_goesTo 25 = .ok (.return_, 1) := by decide +kernel
theorem dX1_queued_0 : decode cX1_queued 0 = .ok (.iconst 0, 1) := by decide +kernel
theorem dX1_queued_1 : decode cX1_queued 1 = .ok (.istore_n 2, 1) := by decide +kernel
theorem dX1_queued_2 : decode cX1_queued 2 = .ok (.iconst 0, 1) := by decide +kernel
theorem dX1_queued_3 : decode cX1_queued 3 = .ok (.istore_n 3, 1) := by decide +kernel
theorem dX1_queued_4 : decode cX1_queued 4 = .ok (.iload_n 3, 1) := by decide +kernel
theorem dX1_queued_5 : decode cX1_queued 5 = .ok (.aload_n 0, 1) := by decide +kernel
theorem dX1_queued_6 : decode cX1_queued 6 = .ok (.getfield 69, 3) := by decide +kernel
theorem dX1_queued_9 : decode cX1_queued 9 = .ok (.if_icmp .ge 35, 3) := by decide +kernel
theorem dX1_queued_12 : decode cX1_queued 12 = .ok (.iload_n 2, 1) := by decide +kernel
theorem dX1_queued_13 : decode cX1_queued 13 = .ok (.aload_n 0, 1) := by decide +kernel
theorem dX1_queued_14 : decode cX1_queued 14 = .ok (.iload_n 3, 1) := by decide +kernel
theorem dX1_queued_15 : decode cX1_queued 15 = .ok (.invokevirtual 86, 3) := by decide +kernel
theorem dX1_queued_18 : decode cX1_queued 18 = .ok (.ifCond .eq 17, 3) := by decide +kernel
theorem dX1_queued_21 : decode cX1_queued 21 = .ok (.aload_n 0, 1) := by decide +kernel
theorem dX1_queued_22 : decode cX1_queued 22 = .ok (.getfield 34, 3) := by decide +kernel
theorem dX1_queued_25 : decode cX1_queued 25 = .ok (.iload_n 3, 1) := by decide +kernel
theorem dX1_queued_26 : decode cX1_queued 26 = .ok (.iaload, 1) := by decide +kernel
theorem dX1_queued_27 : decode cX1_queued 27 = .ok (.iload_n 1, 1) := by decide +kernel
theorem dX1_queued_28 : decode cX1_queued 28 = .ok (.if_icmp .ne 7, 3) := by decide +kernel
theorem dX1_queued_31 : decode cX1_queued 31 = .ok (.iconst 1, 1) := by decide +kernel
theorem dX1_queued_32 : decode cX1_queued 32 = .ok (.goto 4, 3) := by decide +kernel
theorem dX1_queued_35 : decode cX1_queued 35 = .ok (.iconst 0, 1) := by decide +kernel
theorem dX1_queued_36 : decode cX1_queued 36 = .ok (.iadd, 1) := by decide +kernel
theorem dX1_queued_37 : decode cX1_queued 37 = .ok (.istore_n 2, 1) := by decide +kernel
theorem dX1_queued_38 : decode cX1_queued 38 = .ok (.iinc 3 1, 3) := by decide +kernel
theorem dX1_queued_41 : decode cX1_queued 41 = .ok (.goto (-37), 3) := by decide +kernel
theorem dX1_queued_44 : decode cX1_queued 44 = .ok (.iload_n 2, 1) := by decide +kernel
theorem dX1_queued_45 : decode cX1_queued 45 = .ok (.ireturn, 1) := by decide +kernel
theorem dX1_picks_0 : decode cX1_picks 0 = .ok (.aload_n 0, 1) := by decide +kernel
theorem dX1_picks_1 : decode cX1_picks 1 = .ok (.iload_n 1, 1) := by decide +kernel
theorem dX1_picks_2 : decode cX1_picks 2 = .ok (.invokevirtual 94, 3) := by decide +kernel
theorem dX1_picks_5 : decode cX1_picks 5 = .ok (.istore_n 2, 1) := by decide +kernel
theorem dX1_picks_6 : decode cX1_picks 6 = .ok (.aload_n 0, 1) := by decide +kernel
theorem dX1_picks_7 : decode cX1_picks 7 = .ok (.getfield 31, 3) := by decide +kernel
theorem dX1_picks_10 : decode cX1_picks 10 = .ok (.iload_n 1, 1) := by decide +kernel
theorem dX1_picks_11 : decode cX1_picks 11 = .ok (.iload_n 2, 1) := by decide +kernel
theorem dX1_picks_12 : decode cX1_picks 12 = .ok (.iconst (-1), 1) := by decide +kernel
theorem dX1_picks_13 : decode cX1_picks 13 = .ok (.if_icmp .ne 7, 3) := by decide +kernel
theorem dX1_picks_16 : decode cX1_picks 16 = .ok (.iconst (-1), 1) := by decide +kernel
theorem dX1_picks_17 : decode cX1_picks 17 = .ok (.goto 9, 3) := by decide +kernel
theorem dX1_picks_20 : decode cX1_picks 20 = .ok (.aload_n 0, 1) := by decide +kernel
theorem dX1_picks_21 : decode cX1_picks 21 = .ok (.getfield 40, 3) := by decide +kernel
theorem dX1_picks_24 : decode cX1_picks 24 = .ok (.iload_n 2, 1) := by decide +kernel
theorem dX1_picks_25 : decode cX1_picks 25 = .ok (.iaload, 1) := by decide +kernel
theorem dX1_picks_26 : decode cX1_picks 26 = .ok (.iastore, 1) := by decide +kernel
theorem dX1_picks_27 : decode cX1_picks 27 = .ok (.iconst 2, 1) := by decide +kernel
theorem dX1_picks_28 : decode cX1_picks 28 = .ok (.iload_n 1, 1) := by decide +kernel
theorem dX1_picks_29 : decode cX1_picks 29 = .ok (.imul, 1) := by decide +kernel
theorem dX1_picks_30 : decode cX1_picks 30 = .ok (.istore_n 3, 1) := by decide +kernel
theorem dX1_picks_31 : decode cX1_picks 31 = .ok (.iload_n 3, 1) := by decide +kernel
theorem dX1_picks_32 : decode cX1_picks 32 = .ok (.iconst 2, 1) := by decide +kernel
theorem dX1_picks_33 : decode cX1_picks 33 = .ok (.iload_n 1, 1) := by decide +kernel
theorem dX1_picks_34 : decode cX1_picks 34 = .ok (.imul, 1) := by decide +kernel
theorem dX1_picks_35 : decode cX1_picks 35 = .ok (.iconst 2, 1) := by decide +kernel
theorem dX1_picks_36 : decode cX1_picks 36 = .ok (.iadd, 1) := by decide +kernel
theorem dX1_picks_37 : decode cX1_picks 37 = .ok (.if_icmp .ge 111, 3) := by decide +kernel
theorem dX1_picks_40 : decode cX1_picks 40 = .ok (.iload_n 2, 1) := by decide +kernel
theorem dX1_picks_41 : decode cX1_picks 41 = .ok (.iconst (-1), 1) := by decide +kernel
theorem dX1_picks_42 : decode cX1_picks 42 = .ok (.if_icmp .ne 7, 3) := by decide +kernel
theorem dX1_picks_45 : decode cX1_picks 45 = .ok (.iconst (-1), 1) := by decide +kernel
theorem dX1_picks_46 : decode cX1_picks 46 = .ok (.goto 14, 3) := by decide +kernel
theorem dX1_picks_49 : decode cX1_picks 49 = .ok (.aload_n 0, 1) := by decide +kernel
theorem dX1_picks_50 : decode cX1_picks 50 = .ok (.iload_n 3, 1) := by decide +kernel
theorem dX1_picks_51 : decode cX1_picks 51 = .ok (.aload_n 0, 1) := by decide +kernel
theorem dX1_picks_52 : decode cX1_picks 52 = .ok (.getfield 31, 3) := by decide +kernel
theorem dX1_picks_55 : decode cX1_picks 55 = .ok (.iload_n 1, 1) := by decide +kernel
theorem dX1_picks_56 : decode cX1_picks 56 = .ok (.iaload, 1) := by decide +kernel
theorem dX1_picks_57 : decode cX1_picks 57 = .ok (.invokevirtual 98, 3) := by decide +kernel
theorem dX1_picks_60 : decode cX1_picks 60 = .ok (.istore 4, 2) := by decide +kernel
theorem dX1_picks_62 : decode cX1_picks 62 = .ok (.iload 4, 2) := by decide +kernel
theorem dX1_picks_64 : decode cX1_picks 64 = .ok (.iconst (-1), 1) := by decide +kernel
theorem dX1_picks_65 : decode cX1_picks 65 = .ok (.if_icmp .ne 44, 3) := by decide +kernel
theorem dX1_picks_68 : decode cX1_picks 68 = .ok (.iload_n 2, 1) := by decide +kernel
theorem dX1_picks_69 : decode cX1_picks 69 = .ok (.iconst (-1), 1) := by decide +kernel
theorem dX1_picks_70 : decode cX1_picks 70 = .ok (.if_icmp .eq 39, 3) := by decide +kernel
theorem dX1_picks_73 : decode cX1_picks 73 = .ok (.aload_n 0, 1) := by decide +kernel
theorem dX1_picks_74 : decode cX1_picks 74 = .ok (.iload_n 1, 1) := by decide +kernel
theorem dX1_picks_75 : decode cX1_picks 75 = .ok (.aload_n 0, 1) := by decide +kernel
theorem dX1_picks_76 : decode cX1_picks 76 = .ok (.getfield 31, 3) := by decide +kernel
theorem dX1_picks_79 : decode cX1_picks 79 = .ok (.iload_n 1, 1) := by decide +kernel
theorem dX1_picks_80 : decode cX1_picks 80 = .ok (.iaload, 1) := by decide +kernel
theorem dX1_picks_81 : decode cX1_picks 81 = .ok (.invokevirtual 102, 3) := by decide +kernel
theorem dX1_picks_84 : decode cX1_picks 84 = .ok (.istore 4, 2) := by decide +kernel
theorem dX1_picks_86 : decode cX1_picks 86 = .ok (.iload 4, 2) := by decide +kernel
theorem dX1_picks_88 : decode cX1_picks 88 = .ok (.iconst (-1), 1) := by decide +kernel
theorem dX1_picks_89 : decode cX1_picks 89 = .ok (.if_icmp .eq 20, 3) := by decide +kernel
theorem dX1_picks_92 : decode cX1_picks 92 = .ok (.aload_n 0, 1) := by decide +kernel
theorem dX1_picks_93 : decode cX1_picks 93 = .ok (.iload 4, 2) := by decide +kernel
theorem dX1_picks_95 : decode cX1_picks 95 = .ok (.iload_n 3, 1) := by decide +kernel
theorem dX1_picks_96 : decode cX1_picks 96 = .ok (.invokevirtual 105, 3) := by decide +kernel
theorem dX1_picks_99 : decode cX1_picks 99 = .ok (.aload_n 0, 1) := by decide +kernel
theorem dX1_picks_100 : decode cX1_picks 100 = .ok (.dup, 1) := by decide +kernel
theorem dX1_picks_101 : decode cX1_picks 101 = .ok (.getfield 66, 3) := by decide +kernel
theorem dX1_picks_104 : decode cX1_picks 104 = .ok (.iconst 1, 1) := by decide +kernel
theorem dX1_picks_105 : decode cX1_picks 105 = .ok (.iadd, 1) := by decide +kernel
theorem dX1_picks_106 : decode cX1_picks 106 = .ok (.putfield 66, 3) := by decide +kernel
theorem dX1_picks_109 : decode cX1_picks 109 = .ok (.aload_n 0, 1) := by decide +kernel
theorem dX1_picks_110 : decode cX1_picks 110 = .ok (.getfield 17, 3) := by decide +kernel
theorem dX1_picks_113 : decode cX1_picks 113 = .ok (.iload_n 3, 1) := by decide +kernel
theorem dX1_picks_114 : decode cX1_picks 114 = .ok (.iload 4, 2) := by decide +kernel
theorem dX1_picks_116 : decode cX1_picks 116 = .ok (.iastore, 1) := by decide +kernel
theorem dX1_picks_117 : decode cX1_picks 117 = .ok (.aload_n 0, 1) := by decide +kernel
theorem dX1_picks_118 : decode cX1_picks 118 = .ok (.getfield 21, 3) := by decide +kernel
theorem dX1_picks_121 : decode cX1_picks 121 = .ok (.iload_n 3, 1) := by decide +kernel
theorem dX1_picks_122 : decode cX1_picks 122 = .ok (.iload 4, 2) := by decide +kernel
theorem dX1_picks_124 : decode cX1_picks 124 = .ok (.iconst (-1), 1) := by decide +kernel
theorem dX1_picks_125 : decode cX1_picks 125 = .ok (.if_icmp .ne 15, 3) := by decide +kernel
theorem dX1_picks_128 : decode cX1_picks 128 = .ok (.aload_n 0, 1) := by decide +kernel
theorem dX1_picks_129 : decode cX1_picks 129 = .ok (.iload_n 3, 1) := by decide +kernel
theorem dX1_picks_130 : decode cX1_picks 130 = .ok (.invokevirtual 109, 3) := by decide +kernel
theorem dX1_picks_133 : decode cX1_picks 133 = .ok (.ifCond .le 7, 3) := by decide +kernel
theorem dX1_picks_136 : decode cX1_picks 136 = .ok (.iconst 1, 1) := by decide +kernel
theorem dX1_picks_137 : decode cX1_picks 137 = .ok (.goto 4, 3) := by decide +kernel
theorem dX1_picks_140 : decode cX1_picks 140 = .ok (.iconst 0, 1) := by decide +kernel
theorem dX1_picks_141 : decode cX1_picks 141 = .ok (.bastore, 1) := by decide +kernel
theorem dX1_picks_142 : decode cX1_picks 142 = .ok (.iinc 3 1, 3) := by decide +kernel
theorem dX1_picks_145 : decode cX1_picks 145 = .ok (.goto (-114), 3) := by decide +kernel
theorem dX1_picks_148 : decode cX1_picks 148 = .ok (.iconst 0, 1) := by decide +kernel
theorem dX1_picks_149 : decode cX1_picks 149 = .ok (.istore_n 3, 1) := by decide +kernel
theorem dX1_picks_150 : decode cX1_picks 150 = .ok (.iload_n 3, 1) := by decide +kernel
theorem dX1_picks_151 : decode cX1_picks 151 = .ok (.aload_n 0, 1) := by decide +kernel
theorem dX1_picks_152 : decode cX1_picks 152 = .ok (.getfield 69, 3) := by decide +kernel
theorem dX1_picks_155 : decode cX1_picks 155 = .ok (.if_icmp .ge 55, 3) := by decide +kernel
theorem dX1_picks_158 : decode cX1_picks 158 = .ok (.aload_n 0, 1) := by decide +kernel
theorem dX1_picks_159 : decode cX1_picks 159 = .ok (.iload_n 3, 1) := by decide +kernel
theorem dX1_picks_160 : decode cX1_picks 160 = .ok (.invokevirtual 86, 3) := by decide +kernel
theorem dX1_picks_163 : decode cX1_picks 163 = .ok (.ifCond .eq 41, 3) := by decide +kernel
theorem dX1_picks_166 : decode cX1_picks 166 = .ok (.aload_n 0, 1) := by decide +kernel
theorem dX1_picks_167 : decode cX1_picks 167 = .ok (.getfield 34, 3) := by decide +kernel
theorem dX1_picks_170 : decode cX1_picks 170 = .ok (.iload_n 3, 1) := by decide +kernel
theorem dX1_picks_171 : decode cX1_picks 171 = .ok (.iaload, 1) := by decide +kernel
theorem dX1_picks_172 : decode cX1_picks 172 = .ok (.iconst 2, 1) := by decide +kernel
theorem dX1_picks_173 : decode cX1_picks 173 = .ok (.idiv, 1) := by decide +kernel
theorem dX1_picks_174 : decode cX1_picks 174 = .ok (.iload_n 1, 1) := by decide +kernel
theorem dX1_picks_175 : decode cX1_picks 175 = .ok (.if_icmp .ne 29, 3) := by decide +kernel
theorem dX1_picks_178 : decode cX1_picks 178 = .ok (.aload_n 0, 1) := by decide +kernel
theorem dX1_picks_179 : decode cX1_picks 179 = .ok (.getfield 43, 3) := by decide +kernel
theorem dX1_picks_182 : decode cX1_picks 182 = .ok (.iload_n 3, 1) := by decide +kernel
theorem dX1_picks_183 : decode cX1_picks 183 = .ok (.aload_n 0, 1) := by decide +kernel
theorem dX1_picks_184 : decode cX1_picks 184 = .ok (.getfield 17, 3) := by decide +kernel
theorem dX1_picks_187 : decode cX1_picks 187 = .ok (.aload_n 0, 1) := by decide +kernel
theorem dX1_picks_188 : decode cX1_picks 188 = .ok (.getfield 34, 3) := by decide +kernel
theorem dX1_picks_191 : decode cX1_picks 191 = .ok (.iload_n 3, 1) := by decide +kernel
theorem dX1_picks_192 : decode cX1_picks 192 = .ok (.iaload, 1) := by decide +kernel
theorem dX1_picks_193 : decode cX1_picks 193 = .ok (.iaload, 1) := by decide +kernel
theorem dX1_picks_194 : decode cX1_picks 194 = .ok (.iload_n 3, 1) := by decide +kernel
theorem dX1_picks_195 : decode cX1_picks 195 = .ok (.if_icmp .ne 7, 3) := by decide +kernel
theorem dX1_picks_198 : decode cX1_picks 198 = .ok (.iconst 1, 1) := by decide +kernel
theorem dX1_picks_199 : decode cX1_picks 199 = .ok (.goto 4, 3) := by decide +kernel
theorem dX1_picks_202 : decode cX1_picks 202 = .ok (.iconst 0, 1) := by decide +kernel
theorem dX1_picks_203 : decode cX1_picks 203 = .ok (.iastore, 1) := by decide +kernel
theorem dX1_picks_204 : decode cX1_picks 204 = .ok (.iinc 3 1, 3) := by decide +kernel
theorem dX1_picks_207 : decode cX1_picks 207 = .ok (.goto (-57), 3) := by decide +kernel
theorem dX1_picks_210 : decode cX1_picks 210 = .ok (.return_, 1) := by decide +kernel
theorem dX1_tickOne_0 : decode cX1_tickOne 0 = .ok (.iconst 0, 1) := by decide +kernel
theorem dX1_tickOne_1 : decode cX1_tickOne 1 = .ok (.istore_n 1, 1) := by decide +kernel
theorem dX1_tickOne_2 : decode cX1_tickOne 2 = .ok (.iload_n 1, 1) := by decide +kernel
theorem dX1_tickOne_3 : decode cX1_tickOne 3 = .ok (.aload_n 0, 1) := by decide +kernel
theorem dX1_tickOne_4 : decode cX1_tickOne 4 = .ok (.getfield 7, 3) := by decide +kernel
theorem dX1_tickOne_7 : decode cX1_tickOne 7 = .ok (.if_icmp .ge 14, 3) := by decide +kernel
theorem dX1_tickOne_10 : decode cX1_tickOne 10 = .ok (.aload_n 0, 1) := by decide +kernel
theorem dX1_tickOne_11 : decode cX1_tickOne 11 = .ok (.iload_n 1, 1) := by decide +kernel
theorem dX1_tickOne_12 : decode cX1_tickOne 12 = .ok (.invokevirtual 112, 3) := by decide +kernel
theorem dX1_tickOne_15 : decode cX1_tickOne 15 = .ok (.iinc 1 1, 3) := by decide +kernel
theorem dX1_tickOne_18 : decode cX1_tickOne 18 = .ok (.goto (-16), 3) := by decide +kernel
theorem dX1_tickOne_21 : decode cX1_tickOne 21 = .ok (.iconst 0, 1) := by decide +kernel
theorem dX1_tickOne_22 : decode cX1_tickOne 22 = .ok (.istore_n 1, 1) := by decide +kernel
theorem dX1_tickOne_23 : decode cX1_tickOne 23 = .ok (.iconst 0, 1) := by decide +kernel
theorem dX1_tickOne_24 : decode cX1_tickOne 24 = .ok (.istore_n 2, 1) := by decide +kernel
theorem dX1_tickOne_25 : decode cX1_tickOne 25 = .ok (.iload_n 2, 1) := by decide +kernel
theorem dX1_tickOne_26 : decode cX1_tickOne 26 = .ok (.aload_n 0, 1) := by decide +kernel
theorem dX1_tickOne_27 : decode cX1_tickOne 27 = .ok (.getfield 69, 3) := by decide +kernel
theorem dX1_tickOne_30 : decode cX1_tickOne 30 = .ok (.if_icmp .ge 75, 3) := by decide +kernel
theorem dX1_tickOne_33 : decode cX1_tickOne 33 = .ok (.aload_n 0, 1) := by decide +kernel
theorem dX1_tickOne_34 : decode cX1_tickOne 34 = .ok (.getfield 43, 3) := by decide +kernel
theorem dX1_tickOne_37 : decode cX1_tickOne 37 = .ok (.iload_n 2, 1) := by decide +kernel
theorem dX1_tickOne_38 : decode cX1_tickOne 38 = .ok (.iaload, 1) := by decide +kernel
theorem dX1_tickOne_39 : decode cX1_tickOne 39 = .ok (.iconst 1, 1) := by decide +kernel
theorem dX1_tickOne_40 : decode cX1_tickOne 40 = .ok (.if_icmp .ne 36, 3) := by decide +kernel
theorem dX1_tickOne_43 : decode cX1_tickOne 43 = .ok (.aload_n 0, 1) := by decide +kernel
theorem dX1_tickOne_44 : decode cX1_tickOne 44 = .ok (.getfield 49, 3) := by decide +kernel
theorem dX1_tickOne_47 : decode cX1_tickOne 47 = .ok (.iload_n 2, 1) := by decide +kernel
theorem dX1_tickOne_48 : decode cX1_tickOne 48 = .ok (.dup2, 1) := by decide +kernel
theorem dX1_tickOne_49 : decode cX1_tickOne 49 = .ok (.iaload, 1) := by decide +kernel
theorem dX1_tickOne_50 : decode cX1_tickOne 50 = .ok (.iconst 1, 1) := by decide +kernel
theorem dX1_tickOne_51 : decode cX1_tickOne 51 = .ok (.iadd, 1) := by decide +kernel
theorem dX1_tickOne_52 : decode cX1_tickOne 52 = .ok (.iastore, 1) := by decide +kernel
theorem dX1_tickOne_53 : decode cX1_tickOne 53 = .ok (.aload_n 0, 1) := by decide +kernel
theorem dX1_tickOne_54 : decode cX1_tickOne 54 = .ok (.getfield 46, 3) := by decide +kernel
theorem dX1_tickOne_57 : decode cX1_tickOne 57 = .ok (.iload_n 2, 1) := by decide +kernel
theorem dX1_tickOne_58 : decode cX1_tickOne 58 = .ok (.dup2, 1) := by decide +kernel
theorem dX1_tickOne_59 : decode cX1_tickOne 59 = .ok (.laload, 1) := by decide +kernel
theorem dX1_tickOne_60 : decode cX1_tickOne 60 = .ok (.sipush 5040, 3) := by decide +kernel
theorem dX1_tickOne_63 : decode cX1_tickOne 63 = .ok (.aload_n 0, 1) := by decide +kernel
theorem dX1_tickOne_64 : decode cX1_tickOne 64 = .ok (.getfield 37, 3) := by decide +kernel
theorem dX1_tickOne_67 : decode cX1_tickOne 67 = .ok (.iload_n 2, 1) := by decide +kernel
theorem dX1_tickOne_68 : decode cX1_tickOne 68 = .ok (.iaload, 1) := by decide +kernel
theorem dX1_tickOne_69 : decode cX1_tickOne 69 = .ok (.idiv, 1) := by decide +kernel
theorem dX1_tickOne_70 : decode cX1_tickOne 70 = .ok (.i2l, 1) := by decide +kernel
theorem dX1_tickOne_71 : decode cX1_tickOne 71 = .ok (.ladd, 1) := by decide +kernel
theorem dX1_tickOne_72 : decode cX1_tickOne 72 = .ok (.lastore, 1) := by decide +kernel
theorem dX1_tickOne_73 : decode cX1_tickOne 73 = .ok (.iinc 1 1, 3) := by decide +kernel
theorem dX1_tickOne_76 : decode cX1_tickOne 76 = .ok (.aload_n 0, 1) := by decide +kernel
theorem dX1_tickOne_77 : decode cX1_tickOne 77 = .ok (.getfield 52, 3) := by decide +kernel
theorem dX1_tickOne_80 : decode cX1_tickOne 80 = .ok (.iload_n 2, 1) := by decide +kernel
theorem dX1_tickOne_81 : decode cX1_tickOne 81 = .ok (.dup2, 1) := by decide +kernel
theorem dX1_tickOne_82 : decode cX1_tickOne 82 = .ok (.iaload, 1) := by decide +kernel
theorem dX1_tickOne_83 : decode cX1_tickOne 83 = .ok (.aload_n 0, 1) := by decide +kernel
theorem dX1_tickOne_84 : decode cX1_tickOne 84 = .ok (.getfield 43, 3) := by decide +kernel
theorem dX1_tickOne_87 : decode cX1_tickOne 87 = .ok (.iload_n 2, 1) := by decide +kernel
theorem dX1_tickOne_88 : decode cX1_tickOne 88 = .ok (.iaload, 1) := by decide +kernel
theorem dX1_tickOne_89 : decode cX1_tickOne 89 = .ok (.ifCond .ne 7, 3) := by decide +kernel
theorem dX1_tickOne_92 : decode cX1_tickOne 92 = .ok (.iconst 1, 1) := by decide +kernel
theorem dX1_tickOne_93 : decode cX1_tickOne 93 = .ok (.goto 4, 3) := by decide +kernel
theorem dX1_tickOne_96 : decode cX1_tickOne 96 = .ok (.iconst 0, 1) := by decide +kernel
theorem dX1_tickOne_97 : decode cX1_tickOne 97 = .ok (.iadd, 1) := by decide +kernel
theorem dX1_tickOne_98 : decode cX1_tickOne 98 = .ok (.iastore, 1) := by decide +kernel
theorem dX1_tickOne_99 : decode cX1_tickOne 99 = .ok (.iinc 2 1, 3) := by decide +kernel
theorem dX1_tickOne_102 : decode cX1_tickOne 102 = .ok (.goto (-77), 3) := by decide +kernel
theorem dX1_tickOne_105 : decode cX1_tickOne 105 = .ok (.iconst 0, 1) := by decide +kernel
theorem dX1_tickOne_106 : decode cX1_tickOne 106 = .ok (.istore_n 2, 1) := by decide +kernel
theorem dX1_tickOne_107 : decode cX1_tickOne 107 = .ok (.iload_n 2, 1) := by decide +kernel
theorem dX1_tickOne_108 : decode cX1_tickOne 108 = .ok (.iconst 2, 1) := by decide +kernel
theorem dX1_tickOne_109 : decode cX1_tickOne 109 = .ok (.aload_n 0, 1) := by decide +kernel
theorem dX1_tickOne_110 : decode cX1_tickOne 110 = .ok (.getfield 7, 3) := by decide +kernel
theorem dX1_tickOne_113 : decode cX1_tickOne 113 = .ok (.imul, 1) := by decide +kernel
theorem dX1_tickOne_114 : decode cX1_tickOne 114 = .ok (.if_icmp .ge 186, 3) := by decide +kernel
theorem dX1_tickOne_117 : decode cX1_tickOne 117 = .ok (.aload_n 0, 1) := by decide +kernel
theorem dX1_tickOne_118 : decode cX1_tickOne 118 = .ok (.getfield 25, 3) := by decide +kernel
theorem dX1_tickOne_121 : decode cX1_tickOne 121 = .ok (.iload_n 2, 1) := by decide +kernel
theorem dX1_tickOne_122 : decode cX1_tickOne 122 = .ok (.dup2, 1) := by decide +kernel
theorem dX1_tickOne_123 : decode cX1_tickOne 123 = .ok (.iaload, 1) := by decide +kernel
theorem dX1_tickOne_124 : decode cX1_tickOne 124 = .ok (.aload_n 0, 1) := by decide +kernel
theorem dX1_tickOne_125 : decode cX1_tickOne 125 = .ok (.getfield 17, 3) := by decide +kernel
theorem dX1_tickOne_128 : decode cX1_tickOne 128 = .ok (.iload_n 2, 1) := by decide +kernel
theorem dX1_tickOne_129 : decode cX1_tickOne 129 = .ok (.iaload, 1) := by decide +kernel
theorem dX1_tickOne_130 : decode cX1_tickOne 130 = .ok (.iconst (-1), 1) := by decide +kernel
theorem dX1_tickOne_131 : decode cX1_tickOne 131 = .ok (.if_icmp .ne 16, 3) := by decide +kernel
theorem dX1_tickOne_134 : decode cX1_tickOne 134 = .ok (.aload_n 0, 1) := by decide +kernel
theorem dX1_tickOne_135 : decode cX1_tickOne 135 = .ok (.getfield 21, 3) := by decide +kernel
theorem dX1_tickOne_138 : decode cX1_tickOne 138 = .ok (.iload_n 2, 1) := by decide +kernel
theorem dX1_tickOne_139 : decode cX1_tickOne 139 = .ok (.baload, 1) := by decide +kernel
theorem dX1_tickOne_140 : decode cX1_tickOne 140 = .ok (.ifCond .ne 7, 3) := by decide +kernel
theorem dX1_tickOne_143 : decode cX1_tickOne 143 = .ok (.iconst 1, 1) := by decide +kernel
theorem dX1_tickOne_144 : decode cX1_tickOne 144 = .ok (.goto 4, 3) := by decide +kernel
theorem dX1_tickOne_147 : decode cX1_tickOne 147 = .ok (.iconst 0, 1) := by decide +kernel
theorem dX1_tickOne_148 : decode cX1_tickOne 148 = .ok (.iadd, 1) := by decide +kernel
theorem dX1_tickOne_149 : decode cX1_tickOne 149 = .ok (.iastore, 1) := by decide +kernel
theorem dX1_tickOne_150 : decode cX1_tickOne 150 = .ok (.aload_n 0, 1) := by decide +kernel
theorem dX1_tickOne_151 : decode cX1_tickOne 151 = .ok (.getfield 28, 3) := by decide +kernel
theorem dX1_tickOne_154 : decode cX1_tickOne 154 = .ok (.iload_n 2, 1) := by decide +kernel
theorem dX1_tickOne_155 : decode cX1_tickOne 155 = .ok (.dup2, 1) := by decide +kernel
theorem dX1_tickOne_156 : decode cX1_tickOne 156 = .ok (.iaload, 1) := by decide +kernel
theorem dX1_tickOne_157 : decode cX1_tickOne 157 = .ok (.aload_n 0, 1) := by decide +kernel
theorem dX1_tickOne_158 : decode cX1_tickOne 158 = .ok (.getfield 17, 3) := by decide +kernel
theorem dX1_tickOne_161 : decode cX1_tickOne 161 = .ok (.iload_n 2, 1) := by decide +kernel
theorem dX1_tickOne_162 : decode cX1_tickOne 162 = .ok (.iaload, 1) := by decide +kernel
theorem dX1_tickOne_163 : decode cX1_tickOne 163 = .ok (.iconst (-1), 1) := by decide +kernel
theorem dX1_tickOne_164 : decode cX1_tickOne 164 = .ok (.if_icmp .ne 16, 3) := by decide +kernel
theorem dX1_tickOne_167 : decode cX1_tickOne 167 = .ok (.aload_n 0, 1) := by decide +kernel
theorem dX1_tickOne_168 : decode cX1_tickOne 168 = .ok (.getfield 21, 3) := by decide +kernel
theorem dX1_tickOne_171 : decode cX1_tickOne 171 = .ok (.iload_n 2, 1) := by decide +kernel
theorem dX1_tickOne_172 : decode cX1_tickOne 172 = .ok (.baload, 1) := by decide +kernel
theorem dX1_tickOne_173 : decode cX1_tickOne 173 = .ok (.ifCond .eq 7, 3) := by decide +kernel
theorem dX1_tickOne_176 : decode cX1_tickOne 176 = .ok (.iconst 1, 1) := by decide +kernel
theorem dX1_tickOne_177 : decode cX1_tickOne 177 = .ok (.goto 4, 3) := by decide +kernel
theorem dX1_tickOne_180 : decode cX1_tickOne 180 = .ok (.iconst 0, 1) := by decide +kernel
theorem dX1_tickOne_181 : decode cX1_tickOne 181 = .ok (.iadd, 1) := by decide +kernel
theorem dX1_tickOne_182 : decode cX1_tickOne 182 = .ok (.iastore, 1) := by decide +kernel
theorem dX1_tickOne_183 : decode cX1_tickOne 183 = .ok (.iconst (-1), 1) := by decide +kernel
theorem dX1_tickOne_184 : decode cX1_tickOne 184 = .ok (.istore_n 3, 1) := by decide +kernel
theorem dX1_tickOne_185 : decode cX1_tickOne 185 = .ok (.iconst 0, 1) := by decide +kernel
theorem dX1_tickOne_186 : decode cX1_tickOne 186 = .ok (.istore 4, 2) := by decide +kernel
theorem dX1_tickOne_188 : decode cX1_tickOne 188 = .ok (.iload 4, 2) := by decide +kernel
theorem dX1_tickOne_190 : decode cX1_tickOne 190 = .ok (.aload_n 0, 1) := by decide +kernel
theorem dX1_tickOne_191 : decode cX1_tickOne 191 = .ok (.getfield 69, 3) := by decide +kernel
theorem dX1_tickOne_194 : decode cX1_tickOne 194 = .ok (.if_icmp .ge 58, 3) := by decide +kernel
theorem dX1_tickOne_197 : decode cX1_tickOne 197 = .ok (.aload_n 0, 1) := by decide +kernel
theorem dX1_tickOne_198 : decode cX1_tickOne 198 = .ok (.iload 4, 2) := by decide +kernel
theorem dX1_tickOne_200 : decode cX1_tickOne 200 = .ok (.invokevirtual 86, 3) := by decide +kernel
theorem dX1_tickOne_203 : decode cX1_tickOne 203 = .ok (.ifCond .eq 41, 3) := by decide +kernel
theorem dX1_tickOne_206 : decode cX1_tickOne 206 = .ok (.aload_n 0, 1) := by decide +kernel
theorem dX1_tickOne_207 : decode cX1_tickOne 207 = .ok (.getfield 34, 3) := by decide +kernel
theorem dX1_tickOne_210 : decode cX1_tickOne 210 = .ok (.iload 4, 2) := by decide +kernel
theorem dX1_tickOne_212 : decode cX1_tickOne 212 = .ok (.iaload, 1) := by decide +kernel
theorem dX1_tickOne_213 : decode cX1_tickOne 213 = .ok (.iload_n 2, 1) := by decide +kernel
theorem dX1_tickOne_214 : decode cX1_tickOne 214 = .ok (.if_icmp .ne 30, 3) := by decide +kernel
theorem dX1_tickOne_217 : decode cX1_tickOne 217 = .ok (.iload_n 3, 1) := by decide +kernel
theorem dX1_tickOne_218 : decode cX1_tickOne 218 = .ok (.iconst (-1), 1) := by decide +kernel
theorem dX1_tickOne_219 : decode cX1_tickOne 219 = .ok (.if_icmp .eq 20, 3) := by decide +kernel
theorem dX1_tickOne_222 : decode cX1_tickOne 222 = .ok (.aload_n 0, 1) := by decide +kernel
theorem dX1_tickOne_223 : decode cX1_tickOne 223 = .ok (.getfield 46, 3) := by decide +kernel
theorem dX1_tickOne_226 : decode cX1_tickOne 226 = .ok (.iload 4, 2) := by decide +kernel
theorem dX1_tickOne_228 : decode cX1_tickOne 228 = .ok (.laload, 1) := by decide +kernel
theorem dX1_tickOne_229 : decode cX1_tickOne 229 = .ok (.aload_n 0, 1) := by decide +kernel
theorem dX1_tickOne_230 : decode cX1_tickOne 230 = .ok (.getfield 46, 3) := by decide +kernel
theorem dX1_tickOne_233 : decode cX1_tickOne 233 = .ok (.iload_n 3, 1) := by decide +kernel
theorem dX1_tickOne_234 : decode cX1_tickOne 234 = .ok (.laload, 1) := by decide +kernel
theorem dX1_tickOne_235 : decode cX1_tickOne 235 = .ok (.lcmp, 1) := by decide +kernel
theorem dX1_tickOne_236 : decode cX1_tickOne 236 = .ok (.ifCond .ge 8, 3) := by decide +kernel
theorem dX1_tickOne_239 : decode cX1_tickOne 239 = .ok (.iload 4, 2) := by decide +kernel
theorem dX1_tickOne_241 : decode cX1_tickOne 241 = .ok (.goto 4, 3) := by decide +kernel
theorem dX1_tickOne_244 : decode cX1_tickOne 244 = .ok (.iload_n 3, 1) := by decide +kernel
theorem dX1_tickOne_245 : decode cX1_tickOne 245 = .ok (.istore_n 3, 1) := by decide +kernel
theorem dX1_tickOne_246 : decode cX1_tickOne 246 = .ok (.iinc 4 1, 3) := by decide +kernel
theorem dX1_tickOne_249 : decode cX1_tickOne 249 = .ok (.goto (-61), 3) := by decide +kernel
theorem dX1_tickOne_252 : decode cX1_tickOne 252 = .ok (.aload_n 0, 1) := by decide +kernel
theorem dX1_tickOne_253 : decode cX1_tickOne 253 = .ok (.getfield 13, 3) := by decide +kernel
theorem dX1_tickOne_256 : decode cX1_tickOne 256 = .ok (.iload_n 2, 1) := by decide +kernel
theorem dX1_tickOne_257 : decode cX1_tickOne 257 = .ok (.iload_n 3, 1) := by decide +kernel
theorem dX1_tickOne_258 : decode cX1_tickOne 258 = .ok (.iconst (-1), 1) := by decide +kernel
theorem dX1_tickOne_259 : decode cX1_tickOne 259 = .ok (.if_icmp .eq 28, 3) := by decide +kernel
theorem dX1_tickOne_262 : decode cX1_tickOne 262 = .ok (.aload_n 0, 1) := by decide +kernel
theorem dX1_tickOne_263 : decode cX1_tickOne 263 = .ok (.getfield 46, 3) := by decide +kernel
theorem dX1_tickOne_266 : decode cX1_tickOne 266 = .ok (.iload_n 3, 1) := by decide +kernel
theorem dX1_tickOne_267 : decode cX1_tickOne 267 = .ok (.laload, 1) := by decide +kernel
theorem dX1_tickOne_268 : decode cX1_tickOne 268 = .ok (.aload_n 0, 1) := by decide +kernel
theorem dX1_tickOne_269 : decode cX1_tickOne 269 = .ok (.getfield 13, 3) := by decide +kernel
theorem dX1_tickOne_272 : decode cX1_tickOne 272 = .ok (.iload_n 2, 1) := by decide +kernel
theorem dX1_tickOne_273 : decode cX1_tickOne 273 = .ok (.laload, 1) := by decide +kernel
theorem dX1_tickOne_274 : decode cX1_tickOne 274 = .ok (.lcmp, 1) := by decide +kernel
theorem dX1_tickOne_275 : decode cX1_tickOne 275 = .ok (.ifCond .le 12, 3) := by decide +kernel
theorem dX1_tickOne_278 : decode cX1_tickOne 278 = .ok (.aload_n 0, 1) := by decide +kernel
theorem dX1_tickOne_279 : decode cX1_tickOne 279 = .ok (.getfield 46, 3) := by decide +kernel
theorem dX1_tickOne_282 : decode cX1_tickOne 282 = .ok (.iload_n 3, 1) := by decide +kernel
theorem dX1_tickOne_283 : decode cX1_tickOne 283 = .ok (.laload, 1) := by decide +kernel
theorem dX1_tickOne_284 : decode cX1_tickOne 284 = .ok (.goto 9, 3) := by decide +kernel
theorem dX1_tickOne_287 : decode cX1_tickOne 287 = .ok (.aload_n 0, 1) := by decide +kernel
theorem dX1_tickOne_288 : decode cX1_tickOne 288 = .ok (.getfield 13, 3) := by decide +kernel
theorem dX1_tickOne_291 : decode cX1_tickOne 291 = .ok (.iload_n 2, 1) := by decide +kernel
theorem dX1_tickOne_292 : decode cX1_tickOne 292 = .ok (.laload, 1) := by decide +kernel
theorem dX1_tickOne_293 : decode cX1_tickOne 293 = .ok (.lastore, 1) := by decide +kernel
theorem dX1_tickOne_294 : decode cX1_tickOne 294 = .ok (.iinc 2 1, 3) := by decide +kernel
theorem dX1_tickOne_297 : decode cX1_tickOne 297 = .ok (.goto (-190), 3) := by decide +kernel
theorem dX1_tickOne_300 : decode cX1_tickOne 300 = .ok (.iload_n 1, 1) := by decide +kernel
theorem dX1_tickOne_301 : decode cX1_tickOne 301 = .ok (.ireturn, 1) := by decide +kernel
theorem dX1_tick_0 : decode cX1_tick 0 = .ok (.aload_n 0, 1) := by decide +kernel
theorem dX1_tick_1 : decode cX1_tick 1 = .ok (.iload_n 1, 1) := by decide +kernel
theorem dX1_tick_2 : decode cX1_tick 2 = .ok (.i2l, 1) := by decide +kernel
theorem dX1_tick_3 : decode cX1_tick 3 = .ok (.lconst 1, 1) := by decide +kernel
theorem dX1_tick_4 : decode cX1_tick 4 = .ok (.ldc2_w 115, 3) := by decide +kernel
theorem dX1_tick_7 : decode cX1_tick 7 = .ok (.invokestatic 72, 3) := by decide +kernel
theorem dX1_tick_10 : decode cX1_tick 10 = .ok (.ifCond .ne 7, 3) := by decide +kernel
theorem dX1_tick_13 : decode cX1_tick 13 = .ok (.iconst 1, 1) := by decide +kernel
theorem dX1_tick_14 : decode cX1_tick 14 = .ok (.goto 4, 3) := by decide +kernel
theorem dX1_tick_17 : decode cX1_tick 17 = .ok (.iconst 0, 1) := by decide +kernel
theorem dX1_tick_18 : decode cX1_tick 18 = .ok (.iconst 0, 1) := by decide +kernel
theorem dX1_tick_19 : decode cX1_tick 19 = .ok (.invokevirtual 78, 3) := by decide +kernel
theorem dX1_tick_22 : decode cX1_tick 22 = .ok (.ifCond .eq 5, 3) := by decide +kernel
theorem dX1_tick_25 : decode cX1_tick 25 = .ok (.iconst 0, 1) := by decide +kernel
theorem dX1_tick_26 : decode cX1_tick 26 = .ok (.ireturn, 1) := by decide +kernel
theorem dX1_tick_27 : decode cX1_tick 27 = .ok (.iconst 0, 1) := by decide +kernel
theorem dX1_tick_28 : decode cX1_tick 28 = .ok (.istore_n 2, 1) := by decide +kernel
theorem dX1_tick_29 : decode cX1_tick 29 = .ok (.iconst 0, 1) := by decide +kernel
theorem dX1_tick_30 : decode cX1_tick 30 = .ok (.istore_n 3, 1) := by decide +kernel
theorem dX1_tick_31 : decode cX1_tick 31 = .ok (.iload_n 3, 1) := by decide +kernel
theorem dX1_tick_32 : decode cX1_tick 32 = .ok (.iload_n 1, 1) := by decide +kernel
theorem dX1_tick_33 : decode cX1_tick 33 = .ok (.if_icmp .ge 16, 3) := by decide +kernel
theorem dX1_tick_36 : decode cX1_tick 36 = .ok (.iload_n 2, 1) := by decide +kernel
theorem dX1_tick_37 : decode cX1_tick 37 = .ok (.aload_n 0, 1) := by decide +kernel
theorem dX1_tick_38 : decode cX1_tick 38 = .ok (.invokevirtual 117, 3) := by decide +kernel
theorem dX1_tick_41 : decode cX1_tick 41 = .ok (.iadd, 1) := by decide +kernel
theorem dX1_tick_42 : decode cX1_tick 42 = .ok (.istore_n 2, 1) := by decide +kernel
theorem dX1_tick_43 : decode cX1_tick 43 = .ok (.iinc 3 1, 3) := by decide +kernel
theorem dX1_tick_46 : decode cX1_tick 46 = .ok (.goto (-15), 3) := by decide +kernel
theorem dX1_tick_49 : decode cX1_tick 49 = .ok (.iload_n 2, 1) := by decide +kernel
theorem dX1_tick_50 : decode cX1_tick 50 = .ok (.ireturn, 1) := by decide +kernel
theorem dX1_noWeight_0 : decode cX1_noWeight 0 = .ok (.iload_n 0, 1) := by decide +kernel
theorem dX1_noWeight_1 : decode cX1_noWeight 1 = .ok (.i2l, 1) := by decide +kernel
theorem dX1_noWeight_2 : decode cX1_noWeight 2 = .ok (.lconst 1, 1) := by decide +kernel
theorem dX1_noWeight_3 : decode cX1_noWeight 3 = .ok (.ldc2_w 121, 3) := by decide +kernel
theorem dX1_noWeight_6 : decode cX1_noWeight 6 = .ok (.invokestatic 72, 3) := by decide +kernel
theorem dX1_noWeight_9 : decode cX1_noWeight 9 = .ok (.ifCond .ne 7, 3) := by decide +kernel
theorem dX1_noWeight_12 : decode cX1_noWeight 12 = .ok (.iconst 1, 1) := by decide +kernel
theorem dX1_noWeight_13 : decode cX1_noWeight 13 = .ok (.goto 4, 3) := by decide +kernel
theorem dX1_noWeight_16 : decode cX1_noWeight 16 = .ok (.iconst 0, 1) := by decide +kernel
theorem dX1_noWeight_17 : decode cX1_noWeight 17 = .ok (.ireturn, 1) := by decide +kernel
theorem dX1_noCookie_0 : decode cX1_noCookie 0 = .ok (.iload_n 0, 1) := by decide +kernel
theorem dX1_noCookie_1 : decode cX1_noCookie 1 = .ok (.i2l, 1) := by decide +kernel
theorem dX1_noCookie_2 : decode cX1_noCookie 2 = .ok (.lconst 0, 1) := by decide +kernel
theorem dX1_noCookie_3 : decode cX1_noCookie 3 = .ok (.ldc2_w 123, 3) := by decide +kernel
theorem dX1_noCookie_6 : decode cX1_noCookie 6 = .ok (.invokestatic 72, 3) := by decide +kernel
theorem dX1_noCookie_9 : decode cX1_noCookie 9 = .ok (.ifCond .ne 7, 3) := by decide +kernel
theorem dX1_noCookie_12 : decode cX1_noCookie 12 = .ok (.iconst 1, 1) := by decide +kernel
theorem dX1_noCookie_13 : decode cX1_noCookie 13 = .ok (.goto 4, 3) := by decide +kernel
theorem dX1_noCookie_16 : decode cX1_noCookie 16 = .ok (.iconst 0, 1) := by decide +kernel
theorem dX1_noCookie_17 : decode cX1_noCookie 17 = .ok (.ireturn, 1) := by decide +kernel
theorem dX1_createTask_0 : decode cX1_createTask 0 = .ok (.aload_n 0, 1) := by decide +kernel
theorem dX1_createTask_1 : decode cX1_createTask 1 = .ok (.aload_n 0, 1) := by decide +kernel
theorem dX1_createTask_2 : decode cX1_createTask 2 = .ok (.iload_n 1, 1) := by decide +kernel
theorem dX1_createTask_3 : decode cX1_createTask 3 = .ok (.invokevirtual 125, 3) := by decide +kernel
theorem dX1_createTask_6 : decode cX1_createTask 6 = .ok (.ifCond .ne 17, 3) := by decide +kernel
theorem dX1_createTask_9 : decode cX1_createTask 9 = .ok (.iload_n 2, 1) := by decide +kernel
theorem dX1_createTask_10 : decode cX1_createTask 10 = .ok (.invokestatic 128, 3) := by decide +kernel
theorem dX1_createTask_13 : decode cX1_createTask 13 = .ok (.ifCond .ne 10, 3) := by decide +kernel
theorem dX1_createTask_16 : decode cX1_createTask 16 = .ok (.iload_n 3, 1) := by decide +kernel
theorem dX1_createTask_17 : decode cX1_createTask 17 = .ok (.invokestatic 131, 3) := by decide +kernel
theorem dX1_createTask_20 : decode cX1_createTask 20 = .ok (.ifCond .eq 7, 3) := by decide +kernel
theorem dX1_createTask_23 : decode cX1_createTask 23 = .ok (.iconst 1, 1) := by decide +kernel
theorem dX1_createTask_24 : decode cX1_createTask 24 = .ok (.goto 4, 3) := by decide +kernel
theorem dX1_createTask_27 : decode cX1_createTask 27 = .ok (.iconst 0, 1) := by decide +kernel
theorem dX1_createTask_28 : decode cX1_createTask 28 = .ok (.aload_n 0, 1) := by decide +kernel
theorem dX1_createTask_29 : decode cX1_createTask 29 = .ok (.getfield 69, 3) := by decide +kernel
theorem dX1_createTask_32 : decode cX1_createTask 32 = .ok (.bipush 16, 2) := by decide +kernel
theorem dX1_createTask_34 : decode cX1_createTask 34 = .ok (.if_icmp .ne 7, 3) := by decide +kernel
theorem dX1_createTask_37 : decode cX1_createTask 37 = .ok (.iconst 1, 1) := by decide +kernel
theorem dX1_createTask_38 : decode cX1_createTask 38 = .ok (.goto 4, 3) := by decide +kernel
theorem dX1_createTask_41 : decode cX1_createTask 41 = .ok (.iconst 0, 1) := by decide +kernel
theorem dX1_createTask_42 : decode cX1_createTask 42 = .ok (.invokevirtual 78, 3) := by decide +kernel
theorem dX1_createTask_45 : decode cX1_createTask 45 = .ok (.ifCond .eq 5, 3) := by decide +kernel
theorem dX1_createTask_48 : decode cX1_createTask 48 = .ok (.iconst 0, 1) := by decide +kernel
theorem dX1_createTask_49 : decode cX1_createTask 49 = .ok (.ireturn, 1) := by decide +kernel
theorem dX1_createTask_50 : decode cX1_createTask 50 = .ok (.aload_n 0, 1) := by decide +kernel
theorem dX1_createTask_51 : decode cX1_createTask 51 = .ok (.getfield 69, 3) := by decide +kernel
theorem dX1_createTask_54 : decode cX1_createTask 54 = .ok (.istore 4, 2) := by decide +kernel
theorem dX1_createTask_56 : decode cX1_createTask 56 = .ok (.aload_n 0, 1) := by decide +kernel
theorem dX1_createTask_57 : decode cX1_createTask 57 = .ok (.dup, 1) := by decide +kernel
theorem dX1_createTask_58 : decode cX1_createTask 58 = .ok (.getfield 69, 3) := by decide +kernel
theorem dX1_createTask_61 : decode cX1_createTask 61 = .ok (.iconst 1, 1) := by decide +kernel
theorem dX1_createTask_62 : decode cX1_createTask 62 = .ok (.iadd, 1) := by decide +kernel
theorem dX1_createTask_63 : decode cX1_createTask 63 = .ok (.putfield 69, 3) := by decide +kernel
theorem dX1_createTask_66 : decode cX1_createTask 66 = .ok (.aload_n 0, 1) := by decide +kernel
theorem dX1_createTask_67 : decode cX1_createTask 67 = .ok (.getfield 34, 3) := by decide +kernel
theorem dX1_createTask_70 : decode cX1_createTask 70 = .ok (.iload 4, 2) := by decide +kernel
theorem dX1_createTask_72 : decode cX1_createTask 72 = .ok (.iload_n 1, 1) := by decide +kernel
theorem dX1_createTask_73 : decode cX1_createTask 73 = .ok (.iastore, 1) := by decide +kernel
theorem dX1_createTask_74 : decode cX1_createTask 74 = .ok (.aload_n 0, 1) := by decide +kernel
theorem dX1_createTask_75 : decode cX1_createTask 75 = .ok (.getfield 37, 3) := by decide +kernel
theorem dX1_createTask_78 : decode cX1_createTask 78 = .ok (.iload 4, 2) := by decide +kernel
theorem dX1_createTask_80 : decode cX1_createTask 80 = .ok (.iload_n 2, 1) := by decide +kernel
theorem dX1_createTask_81 : decode cX1_createTask 81 = .ok (.iastore, 1) := by decide +kernel
theorem dX1_createTask_82 : decode cX1_createTask 82 = .ok (.aload_n 0, 1) := by decide +kernel
theorem dX1_createTask_83 : decode cX1_createTask 83 = .ok (.getfield 40, 3) := by decide +kernel
theorem dX1_createTask_86 : decode cX1_createTask 86 = .ok (.iload 4, 2) := by decide +kernel
theorem dX1_createTask_88 : decode cX1_createTask 88 = .ok (.iload_n 3, 1) := by decide +kernel
theorem dX1_createTask_89 : decode cX1_createTask 89 = .ok (.iastore, 1) := by decide +kernel
theorem dX1_createTask_90 : decode cX1_createTask 90 = .ok (.aload_n 0, 1) := by decide +kernel
theorem dX1_createTask_91 : decode cX1_createTask 91 = .ok (.getfield 43, 3) := by decide +kernel
theorem dX1_createTask_94 : decode cX1_createTask 94 = .ok (.iload 4, 2) := by decide +kernel
theorem dX1_createTask_96 : decode cX1_createTask 96 = .ok (.iconst 0, 1) := by decide +kernel
theorem dX1_createTask_97 : decode cX1_createTask 97 = .ok (.iastore, 1) := by decide +kernel
theorem dX1_createTask_98 : decode cX1_createTask 98 = .ok (.aload_n 0, 1) := by decide +kernel
theorem dX1_createTask_99 : decode cX1_createTask 99 = .ok (.getfield 46, 3) := by decide +kernel
theorem dX1_createTask_102 : decode cX1_createTask 102 = .ok (.iload 4, 2) := by decide +kernel
theorem dX1_createTask_104 : decode cX1_createTask 104 = .ok (.aload_n 0, 1) := by decide +kernel
theorem dX1_createTask_105 : decode cX1_createTask 105 = .ok (.getfield 13, 3) := by decide +kernel
theorem dX1_createTask_108 : decode cX1_createTask 108 = .ok (.iload_n 1, 1) := by decide +kernel
theorem dX1_createTask_109 : decode cX1_createTask 109 = .ok (.laload, 1) := by decide +kernel
theorem dX1_createTask_110 : decode cX1_createTask 110 = .ok (.lconst 0, 1) := by decide +kernel
theorem dX1_createTask_111 : decode cX1_createTask 111 = .ok (.lcmp, 1) := by decide +kernel
theorem dX1_createTask_112 : decode cX1_createTask 112 = .ok (.ifCond .le 12, 3) := by decide +kernel
theorem dX1_createTask_115 : decode cX1_createTask 115 = .ok (.aload_n 0, 1) := by decide +kernel
theorem dX1_createTask_116 : decode cX1_createTask 116 = .ok (.getfield 13, 3) := by decide +kernel
theorem dX1_createTask_119 : decode cX1_createTask 119 = .ok (.iload_n 1, 1) := by decide +kernel
theorem dX1_createTask_120 : decode cX1_createTask 120 = .ok (.laload, 1) := by decide +kernel
theorem dX1_createTask_121 : decode cX1_createTask 121 = .ok (.goto 4, 3) := by decide +kernel
theorem dX1_createTask_124 : decode cX1_createTask 124 = .ok (.lconst 0, 1) := by decide +kernel
theorem dX1_createTask_125 : decode cX1_createTask 125 = .ok (.lastore, 1) := by decide +kernel
theorem dX1_createTask_126 : decode cX1_createTask 126 = .ok (.aload_n 0, 1) := by decide +kernel
theorem dX1_createTask_127 : decode cX1_createTask 127 = .ok (.getfield 49, 3) := by decide +kernel
theorem dX1_createTask_130 : decode cX1_createTask 130 = .ok (.iload 4, 2) := by decide +kernel
theorem dX1_createTask_132 : decode cX1_createTask 132 = .ok (.iconst 0, 1) := by decide +kernel
theorem dX1_createTask_133 : decode cX1_createTask 133 = .ok (.iastore, 1) := by decide +kernel
theorem dX1_createTask_134 : decode cX1_createTask 134 = .ok (.aload_n 0, 1) := by decide +kernel
theorem dX1_createTask_135 : decode cX1_createTask 135 = .ok (.getfield 52, 3) := by decide +kernel
theorem dX1_createTask_138 : decode cX1_createTask 138 = .ok (.iload 4, 2) := by decide +kernel
theorem dX1_createTask_140 : decode cX1_createTask 140 = .ok (.iconst 0, 1) := by decide +kernel
theorem dX1_createTask_141 : decode cX1_createTask 141 = .ok (.iastore, 1) := by decide +kernel
theorem dX1_createTask_142 : decode cX1_createTask 142 = .ok (.iload 4, 2) := by decide +kernel
theorem dX1_createTask_144 : decode cX1_createTask 144 = .ok (.ireturn, 1) := by decide +kernel
theorem dX1_becomes_0 : decode cX1_becomes 0 = .ok (.aload_n 0, 1) := by decide +kernel
theorem dX1_becomes_1 : decode cX1_becomes 1 = .ok (.getfield 43, 3) := by decide +kernel
theorem dX1_becomes_4 : decode cX1_becomes 4 = .ok (.iload_n 1, 1) := by decide +kernel
theorem dX1_becomes_5 : decode cX1_becomes 5 = .ok (.iaload, 1) := by decide +kernel
theorem dX1_becomes_6 : decode cX1_becomes 6 = .ok (.istore_n 3, 1) := by decide +kernel
theorem dX1_becomes_7 : decode cX1_becomes 7 = .ok (.iload_n 3, 1) := by decide +kernel
theorem dX1_becomes_8 : decode cX1_becomes 8 = .ok (.iconst 1, 1) := by decide +kernel
theorem dX1_becomes_9 : decode cX1_becomes 9 = .ok (.if_icmp .ne 15, 3) := by decide +kernel
theorem dX1_becomes_12 : decode cX1_becomes 12 = .ok (.aload_n 0, 1) := by decide +kernel
theorem dX1_becomes_13 : decode cX1_becomes 13 = .ok (.getfield 17, 3) := by decide +kernel
theorem dX1_becomes_16 : decode cX1_becomes 16 = .ok (.aload_n 0, 1) := by decide +kernel
theorem dX1_becomes_17 : decode cX1_becomes 17 = .ok (.getfield 34, 3) := by decide +kernel
theorem dX1_becomes_20 : decode cX1_becomes 20 = .ok (.iload_n 1, 1) := by decide +kernel
theorem dX1_becomes_21 : decode cX1_becomes 21 = .ok (.iaload, 1) := by decide +kernel
theorem dX1_becomes_22 : decode cX1_becomes 22 = .ok (.iconst (-1), 1) := by decide +kernel
theorem dX1_becomes_23 : decode cX1_becomes 23 = .ok (.iastore, 1) := by decide +kernel
theorem dX1_becomes_24 : decode cX1_becomes 24 = .ok (.aload_n 0, 1) := by decide +kernel
theorem dX1_becomes_25 : decode cX1_becomes 25 = .ok (.getfield 43, 3) := by decide +kernel
theorem dX1_becomes_28 : decode cX1_becomes 28 = .ok (.iload_n 1, 1) := by decide +kernel
theorem dX1_becomes_29 : decode cX1_becomes 29 = .ok (.iload_n 2, 1) := by decide +kernel
theorem dX1_becomes_30 : decode cX1_becomes 30 = .ok (.iastore, 1) := by decide +kernel
theorem dX1_becomes_31 : decode cX1_becomes 31 = .ok (.iload_n 3, 1) := by decide +kernel
theorem dX1_becomes_32 : decode cX1_becomes 32 = .ok (.ireturn, 1) := by decide +kernel
theorem dX1_sleep_0 : decode cX1_sleep 0 = .ok (.aload_n 0, 1) := by decide +kernel
theorem dX1_sleep_1 : decode cX1_sleep 1 = .ok (.aload_n 0, 1) := by decide +kernel
theorem dX1_sleep_2 : decode cX1_sleep 2 = .ok (.iload_n 1, 1) := by decide +kernel
theorem dX1_sleep_3 : decode cX1_sleep 3 = .ok (.invokevirtual 134, 3) := by decide +kernel
theorem dX1_sleep_6 : decode cX1_sleep 6 = .ok (.aload_n 0, 1) := by decide +kernel
theorem dX1_sleep_7 : decode cX1_sleep 7 = .ok (.iload_n 1, 1) := by decide +kernel
theorem dX1_sleep_8 : decode cX1_sleep 8 = .ok (.invokevirtual 134, 3) := by decide +kernel
theorem dX1_sleep_11 : decode cX1_sleep 11 = .ok (.ifCond .ne 15, 3) := by decide +kernel
theorem dX1_sleep_14 : decode cX1_sleep 14 = .ok (.aload_n 0, 1) := by decide +kernel
theorem dX1_sleep_15 : decode cX1_sleep 15 = .ok (.iload_n 1, 1) := by decide +kernel
theorem dX1_sleep_16 : decode cX1_sleep 16 = .ok (.invokevirtual 86, 3) := by decide +kernel
theorem dX1_sleep_19 : decode cX1_sleep 19 = .ok (.ifCond .ne 7, 3) := by decide +kernel
theorem dX1_sleep_22 : decode cX1_sleep 22 = .ok (.iconst 1, 1) := by decide +kernel
theorem dX1_sleep_23 : decode cX1_sleep 23 = .ok (.goto 4, 3) := by decide +kernel
theorem dX1_sleep_26 : decode cX1_sleep 26 = .ok (.iconst 0, 1) := by decide +kernel
theorem dX1_sleep_27 : decode cX1_sleep 27 = .ok (.invokevirtual 78, 3) := by decide +kernel
theorem dX1_sleep_30 : decode cX1_sleep 30 = .ok (.ifCond .eq 5, 3) := by decide +kernel
theorem dX1_sleep_33 : decode cX1_sleep 33 = .ok (.iconst 0, 1) := by decide +kernel
theorem dX1_sleep_34 : decode cX1_sleep 34 = .ok (.ireturn, 1) := by decide +kernel
theorem dX1_sleep_35 : decode cX1_sleep 35 = .ok (.aload_n 0, 1) := by decide +kernel
theorem dX1_sleep_36 : decode cX1_sleep 36 = .ok (.iload_n 1, 1) := by decide +kernel
theorem dX1_sleep_37 : decode cX1_sleep 37 = .ok (.iconst 2, 1) := by decide +kernel
theorem dX1_sleep_38 : decode cX1_sleep 38 = .ok (.invokevirtual 137, 3) := by decide +kernel
theorem dX1_sleep_41 : decode cX1_sleep 41 = .ok (.ireturn, 1) := by decide +kernel
theorem dX1_wake_0 : decode cX1_wake 0 = .ok (.aload_n 0, 1) := by decide +kernel
theorem dX1_wake_1 : decode cX1_wake 1 = .ok (.aload_n 0, 1) := by decide +kernel
theorem dX1_wake_2 : decode cX1_wake 2 = .ok (.iload_n 1, 1) := by decide +kernel
theorem dX1_wake_3 : decode cX1_wake 3 = .ok (.invokevirtual 134, 3) := by decide +kernel
theorem dX1_wake_6 : decode cX1_wake 6 = .ok (.aload_n 0, 1) := by decide +kernel
theorem dX1_wake_7 : decode cX1_wake 7 = .ok (.iload_n 1, 1) := by decide +kernel
theorem dX1_wake_8 : decode cX1_wake 8 = .ok (.invokevirtual 134, 3) := by decide +kernel
theorem dX1_wake_11 : decode cX1_wake 11 = .ok (.ifCond .ne 17, 3) := by decide +kernel
theorem dX1_wake_14 : decode cX1_wake 14 = .ok (.aload_n 0, 1) := by decide +kernel
theorem dX1_wake_15 : decode cX1_wake 15 = .ok (.getfield 43, 3) := by decide +kernel
theorem dX1_wake_18 : decode cX1_wake 18 = .ok (.iload_n 1, 1) := by decide +kernel
theorem dX1_wake_19 : decode cX1_wake 19 = .ok (.iaload, 1) := by decide +kernel
theorem dX1_wake_20 : decode cX1_wake 20 = .ok (.iconst 2, 1) := by decide +kernel
theorem dX1_wake_21 : decode cX1_wake 21 = .ok (.if_icmp .eq 7, 3) := by decide +kernel
theorem dX1_wake_24 : decode cX1_wake 24 = .ok (.iconst 1, 1) := by decide +kernel
theorem dX1_wake_25 : decode cX1_wake 25 = .ok (.goto 4, 3) := by decide +kernel
theorem dX1_wake_28 : decode cX1_wake 28 = .ok (.iconst 0, 1) := by decide +kernel
theorem dX1_wake_29 : decode cX1_wake 29 = .ok (.invokevirtual 78, 3) := by decide +kernel
theorem dX1_wake_32 : decode cX1_wake 32 = .ok (.ifCond .eq 5, 3) := by decide +kernel
theorem dX1_wake_35 : decode cX1_wake 35 = .ok (.lconst 0, 1) := by decide +kernel
theorem dX1_wake_36 : decode cX1_wake 36 = .ok (.lreturn, 1) := by decide +kernel
theorem dX1_wake_37 : decode cX1_wake 37 = .ok (.aload_n 0, 1) := by decide +kernel
theorem dX1_wake_38 : decode cX1_wake 38 = .ok (.getfield 43, 3) := by decide +kernel
theorem dX1_wake_41 : decode cX1_wake 41 = .ok (.iload_n 1, 1) := by decide +kernel
theorem dX1_wake_42 : decode cX1_wake 42 = .ok (.iconst 0, 1) := by decide +kernel
theorem dX1_wake_43 : decode cX1_wake 43 = .ok (.iastore, 1) := by decide +kernel
theorem dX1_wake_44 : decode cX1_wake 44 = .ok (.aload_n 0, 1) := by decide +kernel
theorem dX1_wake_45 : decode cX1_wake 45 = .ok (.getfield 46, 3) := by decide +kernel
theorem dX1_wake_48 : decode cX1_wake 48 = .ok (.iload_n 1, 1) := by decide +kernel
theorem dX1_wake_49 : decode cX1_wake 49 = .ok (.aload_n 0, 1) := by decide +kernel
theorem dX1_wake_50 : decode cX1_wake 50 = .ok (.getfield 46, 3) := by decide +kernel
theorem dX1_wake_53 : decode cX1_wake 53 = .ok (.iload_n 1, 1) := by decide +kernel
theorem dX1_wake_54 : decode cX1_wake 54 = .ok (.laload, 1) := by decide +kernel
theorem dX1_wake_55 : decode cX1_wake 55 = .ok (.aload_n 0, 1) := by decide +kernel
theorem dX1_wake_56 : decode cX1_wake 56 = .ok (.getfield 13, 3) := by decide +kernel
theorem dX1_wake_59 : decode cX1_wake 59 = .ok (.aload_n 0, 1) := by decide +kernel
theorem dX1_wake_60 : decode cX1_wake 60 = .ok (.getfield 34, 3) := by decide +kernel
theorem dX1_wake_63 : decode cX1_wake 63 = .ok (.iload_n 1, 1) := by decide +kernel
theorem dX1_wake_64 : decode cX1_wake 64 = .ok (.iaload, 1) := by decide +kernel
theorem dX1_wake_65 : decode cX1_wake 65 = .ok (.laload, 1) := by decide +kernel
theorem dX1_wake_66 : decode cX1_wake 66 = .ok (.lcmp, 1) := by decide +kernel
theorem dX1_wake_67 : decode cX1_wake 67 = .ok (.ifCond .le 12, 3) := by decide +kernel
theorem dX1_wake_70 : decode cX1_wake 70 = .ok (.aload_n 0, 1) := by decide +kernel
theorem dX1_wake_71 : decode cX1_wake 71 = .ok (.getfield 46, 3) := by decide +kernel
theorem dX1_wake_74 : decode cX1_wake 74 = .ok (.iload_n 1, 1) := by decide +kernel
theorem dX1_wake_75 : decode cX1_wake 75 = .ok (.laload, 1) := by decide +kernel
theorem dX1_wake_76 : decode cX1_wake 76 = .ok (.goto 14, 3) := by decide +kernel
theorem dX1_wake_79 : decode cX1_wake 79 = .ok (.aload_n 0, 1) := by decide +kernel
theorem dX1_wake_80 : decode cX1_wake 80 = .ok (.getfield 13, 3) := by decide +kernel
theorem dX1_wake_83 : decode cX1_wake 83 = .ok (.aload_n 0, 1) := by decide +kernel
theorem dX1_wake_84 : decode cX1_wake 84 = .ok (.getfield 34, 3) := by decide +kernel
theorem dX1_wake_87 : decode cX1_wake 87 = .ok (.iload_n 1, 1) := by decide +kernel
theorem dX1_wake_88 : decode cX1_wake 88 = .ok (.iaload, 1) := by decide +kernel
theorem dX1_wake_89 : decode cX1_wake 89 = .ok (.laload, 1) := by decide +kernel
theorem dX1_wake_90 : decode cX1_wake 90 = .ok (.lastore, 1) := by decide +kernel
theorem dX1_wake_91 : decode cX1_wake 91 = .ok (.aload_n 0, 1) := by decide +kernel
theorem dX1_wake_92 : decode cX1_wake 92 = .ok (.getfield 46, 3) := by decide +kernel
theorem dX1_wake_95 : decode cX1_wake 95 = .ok (.iload_n 1, 1) := by decide +kernel
theorem dX1_wake_96 : decode cX1_wake 96 = .ok (.laload, 1) := by decide +kernel
theorem dX1_wake_97 : decode cX1_wake 97 = .ok (.lreturn, 1) := by decide +kernel
theorem dX1_hasExited_0 : decode cX1_hasExited 0 = .ok (.aload_n 0, 1) := by decide +kernel
theorem dX1_hasExited_1 : decode cX1_hasExited 1 = .ok (.iload_n 1, 1) := by decide +kernel
theorem dX1_hasExited_2 : decode cX1_hasExited 2 = .ok (.invokevirtual 134, 3) := by decide +kernel
theorem dX1_hasExited_5 : decode cX1_hasExited 5 = .ok (.ifCond .ne 17, 3) := by decide +kernel
theorem dX1_hasExited_8 : decode cX1_hasExited 8 = .ok (.aload_n 0, 1) := by decide +kernel
theorem dX1_hasExited_9 : decode cX1_hasExited 9 = .ok (.getfield 43, 3) := by decide +kernel
theorem dX1_hasExited_12 : decode cX1_hasExited 12 = .ok (.iload_n 1, 1) := by decide +kernel
theorem dX1_hasExited_13 : decode cX1_hasExited 13 = .ok (.iaload, 1) := by decide +kernel
theorem dX1_hasExited_14 : decode cX1_hasExited 14 = .ok (.iconst 3, 1) := by decide +kernel
theorem dX1_hasExited_15 : decode cX1_hasExited 15 = .ok (.if_icmp .ne 7, 3) := by decide +kernel
theorem dX1_hasExited_18 : decode cX1_hasExited 18 = .ok (.iconst 1, 1) := by decide +kernel
theorem dX1_hasExited_19 : decode cX1_hasExited 19 = .ok (.goto 4, 3) := by decide +kernel
theorem dX1_hasExited_22 : decode cX1_hasExited 22 = .ok (.iconst 0, 1) := by decide +kernel
theorem dX1_hasExited_23 : decode cX1_hasExited 23 = .ok (.ireturn, 1) := by decide +kernel
theorem dX1_exit_0 : decode cX1_exit 0 = .ok (.aload_n 0, 1) := by decide +kernel
theorem dX1_exit_1 : decode cX1_exit 1 = .ok (.aload_n 0, 1) := by decide +kernel
theorem dX1_exit_2 : decode cX1_exit 2 = .ok (.iload_n 1, 1) := by decide +kernel
theorem dX1_exit_3 : decode cX1_exit 3 = .ok (.invokevirtual 134, 3) := by decide +kernel
theorem dX1_exit_6 : decode cX1_exit 6 = .ok (.aload_n 0, 1) := by decide +kernel
theorem dX1_exit_7 : decode cX1_exit 7 = .ok (.iload_n 1, 1) := by decide +kernel
theorem dX1_exit_8 : decode cX1_exit 8 = .ok (.invokevirtual 140, 3) := by decide +kernel
theorem dX1_exit_11 : decode cX1_exit 11 = .ok (.invokevirtual 78, 3) := by decide +kernel
theorem dX1_exit_14 : decode cX1_exit 14 = .ok (.ifCond .eq 5, 3) := by decide +kernel
theorem dX1_exit_17 : decode cX1_exit 17 = .ok (.iconst 0, 1) := by decide +kernel
theorem dX1_exit_18 : decode cX1_exit 18 = .ok (.ireturn, 1) := by decide +kernel
theorem dX1_exit_19 : decode cX1_exit 19 = .ok (.aload_n 0, 1) := by decide +kernel
theorem dX1_exit_20 : decode cX1_exit 20 = .ok (.iload_n 1, 1) := by decide +kernel
theorem dX1_exit_21 : decode cX1_exit 21 = .ok (.iconst 3, 1) := by decide +kernel
theorem dX1_exit_22 : decode cX1_exit 22 = .ok (.invokevirtual 137, 3) := by decide +kernel
theorem dX1_exit_25 : decode cX1_exit 25 = .ok (.ireturn, 1) := by decide +kernel
theorem dX1_setWeight_0 : decode cX1_setWeight 0 = .ok (.aload_n 0, 1) := by decide +kernel
theorem dX1_setWeight_1 : decode cX1_setWeight 1 = .ok (.aload_n 0, 1) := by decide +kernel
theorem dX1_setWeight_2 : decode cX1_setWeight 2 = .ok (.iload_n 1, 1) := by decide +kernel
theorem dX1_setWeight_3 : decode cX1_setWeight 3 = .ok (.invokevirtual 134, 3) := by decide +kernel
theorem dX1_setWeight_6 : decode cX1_setWeight 6 = .ok (.ifCond .ne 10, 3) := by decide +kernel
theorem dX1_setWeight_9 : decode cX1_setWeight 9 = .ok (.iload_n 2, 1) := by decide +kernel
theorem dX1_setWeight_10 : decode cX1_setWeight 10 = .ok (.invokestatic 128, 3) := by decide +kernel
theorem dX1_setWeight_13 : decode cX1_setWeight 13 = .ok (.ifCond .eq 7, 3) := by decide +kernel
theorem dX1_setWeight_16 : decode cX1_setWeight 16 = .ok (.iconst 1, 1) := by decide +kernel
theorem dX1_setWeight_17 : decode cX1_setWeight 17 = .ok (.goto 4, 3) := by decide +kernel
theorem dX1_setWeight_20 : decode cX1_setWeight 20 = .ok (.iconst 0, 1) := by decide +kernel
theorem dX1_setWeight_21 : decode cX1_setWeight 21 = .ok (.aload_n 0, 1) := by decide +kernel
theorem dX1_setWeight_22 : decode cX1_setWeight 22 = .ok (.iload_n 1, 1) := by decide +kernel
theorem dX1_setWeight_23 : decode cX1_setWeight 23 = .ok (.invokevirtual 140, 3) := by decide +kernel
theorem dX1_setWeight_26 : decode cX1_setWeight 26 = .ok (.invokevirtual 78, 3) := by decide +kernel
theorem dX1_setWeight_29 : decode cX1_setWeight 29 = .ok (.ifCond .eq 5, 3) := by decide +kernel
theorem dX1_setWeight_32 : decode cX1_setWeight 32 = .ok (.iconst 0, 1) := by decide +kernel
theorem dX1_setWeight_33 : decode cX1_setWeight 33 = .ok (.ireturn, 1) := by decide +kernel
theorem dX1_setWeight_34 : decode cX1_setWeight 34 = .ok (.aload_n 0, 1) := by decide +kernel
theorem dX1_setWeight_35 : decode cX1_setWeight 35 = .ok (.getfield 37, 3) := by decide +kernel
theorem dX1_setWeight_38 : decode cX1_setWeight 38 = .ok (.iload_n 1, 1) := by decide +kernel
theorem dX1_setWeight_39 : decode cX1_setWeight 39 = .ok (.iaload, 1) := by decide +kernel
theorem dX1_setWeight_40 : decode cX1_setWeight 40 = .ok (.istore_n 3, 1) := by decide +kernel
theorem dX1_setWeight_41 : decode cX1_setWeight 41 = .ok (.aload_n 0, 1) := by decide +kernel
theorem dX1_setWeight_42 : decode cX1_setWeight 42 = .ok (.getfield 37, 3) := by decide +kernel
theorem dX1_setWeight_45 : decode cX1_setWeight 45 = .ok (.iload_n 1, 1) := by decide +kernel
theorem dX1_setWeight_46 : decode cX1_setWeight 46 = .ok (.iload_n 2, 1) := by decide +kernel
theorem dX1_setWeight_47 : decode cX1_setWeight 47 = .ok (.iastore, 1) := by decide +kernel
theorem dX1_setWeight_48 : decode cX1_setWeight 48 = .ok (.iload_n 3, 1) := by decide +kernel
theorem dX1_setWeight_49 : decode cX1_setWeight 49 = .ok (.ireturn, 1) := by decide +kernel
theorem dX1_setCookie_0 : decode cX1_setCookie 0 = .ok (.aload_n 0, 1) := by decide +kernel
theorem dX1_setCookie_1 : decode cX1_setCookie 1 = .ok (.aload_n 0, 1) := by decide +kernel
theorem dX1_setCookie_2 : decode cX1_setCookie 2 = .ok (.iload_n 1, 1) := by decide +kernel
theorem dX1_setCookie_3 : decode cX1_setCookie 3 = .ok (.invokevirtual 134, 3) := by decide +kernel
theorem dX1_setCookie_6 : decode cX1_setCookie 6 = .ok (.ifCond .ne 10, 3) := by decide +kernel
theorem dX1_setCookie_9 : decode cX1_setCookie 9 = .ok (.iload_n 2, 1) := by decide +kernel
theorem dX1_setCookie_10 : decode cX1_setCookie 10 = .ok (.invokestatic 131, 3) := by decide +kernel
theorem dX1_setCookie_13 : decode cX1_setCookie 13 = .ok (.ifCond .eq 7, 3) := by decide +kernel
theorem dX1_setCookie_16 : decode cX1_setCookie 16 = .ok (.iconst 1, 1) := by decide +kernel
theorem dX1_setCookie_17 : decode cX1_setCookie 17 = .ok (.goto 4, 3) := by decide +kernel
theorem dX1_setCookie_20 : decode cX1_setCookie 20 = .ok (.iconst 0, 1) := by decide +kernel
theorem dX1_setCookie_21 : decode cX1_setCookie 21 = .ok (.aload_n 0, 1) := by decide +kernel
theorem dX1_setCookie_22 : decode cX1_setCookie 22 = .ok (.iload_n 1, 1) := by decide +kernel
theorem dX1_setCookie_23 : decode cX1_setCookie 23 = .ok (.invokevirtual 140, 3) := by decide +kernel
theorem dX1_setCookie_26 : decode cX1_setCookie 26 = .ok (.invokevirtual 78, 3) := by decide +kernel
theorem dX1_setCookie_29 : decode cX1_setCookie 29 = .ok (.ifCond .eq 5, 3) := by decide +kernel
theorem dX1_setCookie_32 : decode cX1_setCookie 32 = .ok (.iconst 0, 1) := by decide +kernel
theorem dX1_setCookie_33 : decode cX1_setCookie 33 = .ok (.ireturn, 1) := by decide +kernel
theorem dX1_setCookie_34 : decode cX1_setCookie 34 = .ok (.aload_n 0, 1) := by decide +kernel
theorem dX1_setCookie_35 : decode cX1_setCookie 35 = .ok (.getfield 40, 3) := by decide +kernel
theorem dX1_setCookie_38 : decode cX1_setCookie 38 = .ok (.iload_n 1, 1) := by decide +kernel
theorem dX1_setCookie_39 : decode cX1_setCookie 39 = .ok (.iaload, 1) := by decide +kernel
theorem dX1_setCookie_40 : decode cX1_setCookie 40 = .ok (.istore_n 3, 1) := by decide +kernel
theorem dX1_setCookie_41 : decode cX1_setCookie 41 = .ok (.aload_n 0, 1) := by decide +kernel
theorem dX1_setCookie_42 : decode cX1_setCookie 42 = .ok (.getfield 40, 3) := by decide +kernel
theorem dX1_setCookie_45 : decode cX1_setCookie 45 = .ok (.iload_n 1, 1) := by decide +kernel
theorem dX1_setCookie_46 : decode cX1_setCookie 46 = .ok (.iload_n 2, 1) := by decide +kernel
theorem dX1_setCookie_47 : decode cX1_setCookie 47 = .ok (.iastore, 1) := by decide +kernel
theorem dX1_setCookie_48 : decode cX1_setCookie 48 = .ok (.iload_n 3, 1) := by decide +kernel
theorem dX1_setCookie_49 : decode cX1_setCookie 49 = .ok (.ireturn, 1) := by decide +kernel
theorem dX1_moveTask_0 : decode cX1_moveTask 0 = .ok (.aload_n 0, 1) := by decide +kernel
theorem dX1_moveTask_1 : decode cX1_moveTask 1 = .ok (.iload_n 1, 1) := by decide +kernel
theorem dX1_moveTask_2 : decode cX1_moveTask 2 = .ok (.invokevirtual 134, 3) := by decide +kernel
theorem dX1_moveTask_5 : decode cX1_moveTask 5 = .ok (.ifCond .ne 11, 3) := by decide +kernel
theorem dX1_moveTask_8 : decode cX1_moveTask 8 = .ok (.aload_n 0, 1) := by decide +kernel
theorem dX1_moveTask_9 : decode cX1_moveTask 9 = .ok (.iload_n 2, 1) := by decide +kernel
theorem dX1_moveTask_10 : decode cX1_moveTask 10 = .ok (.invokevirtual 125, 3) := by decide +kernel
theorem dX1_moveTask_13 : decode cX1_moveTask 13 = .ok (.ifCond .eq 7, 3) := by decide +kernel
theorem dX1_moveTask_16 : decode cX1_moveTask 16 = .ok (.iconst 1, 1) := by decide +kernel
theorem dX1_moveTask_17 : decode cX1_moveTask 17 = .ok (.goto 4, 3) := by decide +kernel
theorem dX1_moveTask_20 : decode cX1_moveTask 20 = .ok (.iconst 0, 1) := by decide +kernel
theorem dX1_moveTask_21 : decode cX1_moveTask 21 = .ok (.istore_n 3, 1) := by decide +kernel
theorem dX1_moveTask_22 : decode cX1_moveTask 22 = .ok (.aload_n 0, 1) := by decide +kernel
theorem dX1_moveTask_23 : decode cX1_moveTask 23 = .ok (.iload_n 3, 1) := by decide +kernel
theorem dX1_moveTask_24 : decode cX1_moveTask 24 = .ok (.iload_n 3, 1) := by decide +kernel
theorem dX1_moveTask_25 : decode cX1_moveTask 25 = .ok (.ifCond .ne 27, 3) := by decide +kernel
theorem dX1_moveTask_28 : decode cX1_moveTask 28 = .ok (.aload_n 0, 1) := by decide +kernel
theorem dX1_moveTask_29 : decode cX1_moveTask 29 = .ok (.getfield 43, 3) := by decide +kernel
theorem dX1_moveTask_32 : decode cX1_moveTask 32 = .ok (.iload_n 1, 1) := by decide +kernel
theorem dX1_moveTask_33 : decode cX1_moveTask 33 = .ok (.iaload, 1) := by decide +kernel
theorem dX1_moveTask_34 : decode cX1_moveTask 34 = .ok (.iconst 1, 1) := by decide +kernel
theorem dX1_moveTask_35 : decode cX1_moveTask 35 = .ok (.if_icmp .eq 13, 3) := by decide +kernel
theorem dX1_moveTask_38 : decode cX1_moveTask 38 = .ok (.aload_n 0, 1) := by decide +kernel
theorem dX1_moveTask_39 : decode cX1_moveTask 39 = .ok (.getfield 43, 3) := by decide +kernel
theorem dX1_moveTask_42 : decode cX1_moveTask 42 = .ok (.iload_n 1, 1) := by decide +kernel
theorem dX1_moveTask_43 : decode cX1_moveTask 43 = .ok (.iaload, 1) := by decide +kernel
theorem dX1_moveTask_44 : decode cX1_moveTask 44 = .ok (.iconst 3, 1) := by decide +kernel
theorem dX1_moveTask_45 : decode cX1_moveTask 45 = .ok (.if_icmp .ne 7, 3) := by decide +kernel
theorem dX1_moveTask_48 : decode cX1_moveTask 48 = .ok (.iconst 1, 1) := by decide +kernel
theorem dX1_moveTask_49 : decode cX1_moveTask 49 = .ok (.goto 4, 3) := by decide +kernel
theorem dX1_moveTask_52 : decode cX1_moveTask 52 = .ok (.iconst 0, 1) := by decide +kernel
theorem dX1_moveTask_53 : decode cX1_moveTask 53 = .ok (.invokevirtual 78, 3) := by decide +kernel
theorem dX1_moveTask_56 : decode cX1_moveTask 56 = .ok (.ifCond .eq 5, 3) := by decide +kernel
theorem dX1_moveTask_59 : decode cX1_moveTask 59 = .ok (.iconst 0, 1) := by decide +kernel
theorem dX1_moveTask_60 : decode cX1_moveTask 60 = .ok (.ireturn, 1) := by decide +kernel
theorem dX1_moveTask_61 : decode cX1_moveTask 61 = .ok (.aload_n 0, 1) := by decide +kernel
theorem dX1_moveTask_62 : decode cX1_moveTask 62 = .ok (.getfield 34, 3) := by decide +kernel
theorem dX1_moveTask_65 : decode cX1_moveTask 65 = .ok (.iload_n 1, 1) := by decide +kernel
theorem dX1_moveTask_66 : decode cX1_moveTask 66 = .ok (.iaload, 1) := by decide +kernel
theorem dX1_moveTask_67 : decode cX1_moveTask 67 = .ok (.istore 4, 2) := by decide +kernel
theorem dX1_moveTask_69 : decode cX1_moveTask 69 = .ok (.aload_n 0, 1) := by decide +kernel
theorem dX1_moveTask_70 : decode cX1_moveTask 70 = .ok (.getfield 43, 3) := by decide +kernel
theorem dX1_moveTask_73 : decode cX1_moveTask 73 = .ok (.iload_n 1, 1) := by decide +kernel
theorem dX1_moveTask_74 : decode cX1_moveTask 74 = .ok (.iaload, 1) := by decide +kernel
theorem dX1_moveTask_75 : decode cX1_moveTask 75 = .ok (.ifCond .ne 12, 3) := by decide +kernel
theorem dX1_moveTask_78 : decode cX1_moveTask 78 = .ok (.aload_n 0, 1) := by decide +kernel
theorem dX1_moveTask_79 : decode cX1_moveTask 79 = .ok (.iload_n 1, 1) := by decide +kernel
theorem dX1_moveTask_80 : decode cX1_moveTask 80 = .ok (.iload_n 2, 1) := by decide +kernel
theorem dX1_moveTask_81 : decode cX1_moveTask 81 = .ok (.invokevirtual 105, 3) := by decide +kernel
theorem dX1_moveTask_84 : decode cX1_moveTask 84 = .ok (.goto 10, 3) := by decide +kernel
theorem dX1_moveTask_87 : decode cX1_moveTask 87 = .ok (.aload_n 0, 1) := by decide +kernel
theorem dX1_moveTask_88 : decode cX1_moveTask 88 = .ok (.getfield 34, 3) := by decide +kernel
theorem dX1_moveTask_91 : decode cX1_moveTask 91 = .ok (.iload_n 1, 1) := by decide +kernel
theorem dX1_moveTask_92 : decode cX1_moveTask 92 = .ok (.iload_n 2, 1) := by decide +kernel
theorem dX1_moveTask_93 : decode cX1_moveTask 93 = .ok (.iastore, 1) := by decide +kernel
theorem dX1_moveTask_94 : decode cX1_moveTask 94 = .ok (.iload 4, 2) := by decide +kernel
theorem dX1_moveTask_96 : decode cX1_moveTask 96 = .ok (.ireturn, 1) := by decide +kernel
theorem dX1_taskCount_0 : decode cX1_taskCount 0 = .ok (.aload_n 0, 1) := by decide +kernel
theorem dX1_taskCount_1 : decode cX1_taskCount 1 = .ok (.iconst 0, 1) := by decide +kernel
theorem dX1_taskCount_2 : decode cX1_taskCount 2 = .ok (.putfield 59, 3) := by decide +kernel
theorem dX1_taskCount_5 : decode cX1_taskCount 5 = .ok (.aload_n 0, 1) := by decide +kernel
theorem dX1_taskCount_6 : decode cX1_taskCount 6 = .ok (.getfield 69, 3) := by decide +kernel
theorem dX1_taskCount_9 : decode cX1_taskCount 9 = .ok (.ireturn, 1) := by decide +kernel
theorem dX1_stateOf_0 : decode cX1_stateOf 0 = .ok (.aload_n 0, 1) := by decide +kernel
theorem dX1_stateOf_1 : decode cX1_stateOf 1 = .ok (.aload_n 0, 1) := by decide +kernel
theorem dX1_stateOf_2 : decode cX1_stateOf 2 = .ok (.iload_n 1, 1) := by decide +kernel
theorem dX1_stateOf_3 : decode cX1_stateOf 3 = .ok (.invokevirtual 134, 3) := by decide +kernel
theorem dX1_stateOf_6 : decode cX1_stateOf 6 = .ok (.iconst 0, 1) := by decide +kernel
theorem dX1_stateOf_7 : decode cX1_stateOf 7 = .ok (.invokevirtual 78, 3) := by decide +kernel
theorem dX1_stateOf_10 : decode cX1_stateOf 10 = .ok (.ifCond .eq 7, 3) := by decide +kernel
theorem dX1_stateOf_13 : decode cX1_stateOf 13 = .ok (.iconst 0, 1) := by decide +kernel
theorem dX1_stateOf_14 : decode cX1_stateOf 14 = .ok (.goto 9, 3) := by decide +kernel
theorem dX1_stateOf_17 : decode cX1_stateOf 17 = .ok (.aload_n 0, 1) := by decide +kernel
theorem dX1_stateOf_18 : decode cX1_stateOf 18 = .ok (.getfield 43, 3) := by decide +kernel
theorem dX1_stateOf_21 : decode cX1_stateOf 21 = .ok (.iload_n 1, 1) := by decide +kernel
theorem dX1_stateOf_22 : decode cX1_stateOf 22 = .ok (.iaload, 1) := by decide +kernel
theorem dX1_stateOf_23 : decode cX1_stateOf 23 = .ok (.ireturn, 1) := by decide +kernel
theorem dX1_cpuOf_0 : decode cX1_cpuOf 0 = .ok (.aload_n 0, 1) := by decide +kernel
theorem dX1_cpuOf_1 : decode cX1_cpuOf 1 = .ok (.aload_n 0, 1) := by decide +kernel
theorem dX1_cpuOf_2 : decode cX1_cpuOf 2 = .ok (.iload_n 1, 1) := by decide +kernel
theorem dX1_cpuOf_3 : decode cX1_cpuOf 3 = .ok (.invokevirtual 134, 3) := by decide +kernel
theorem dX1_cpuOf_6 : decode cX1_cpuOf 6 = .ok (.iconst 0, 1) := by decide +kernel
theorem dX1_cpuOf_7 : decode cX1_cpuOf 7 = .ok (.invokevirtual 78, 3) := by decide +kernel
theorem dX1_cpuOf_10 : decode cX1_cpuOf 10 = .ok (.ifCond .eq 7, 3) := by decide +kernel
theorem dX1_cpuOf_13 : decode cX1_cpuOf 13 = .ok (.iconst 0, 1) := by decide +kernel
theorem dX1_cpuOf_14 : decode cX1_cpuOf 14 = .ok (.goto 9, 3) := by decide +kernel
theorem dX1_cpuOf_17 : decode cX1_cpuOf 17 = .ok (.aload_n 0, 1) := by decide +kernel
theorem dX1_cpuOf_18 : decode cX1_cpuOf 18 = .ok (.getfield 34, 3) := by decide +kernel
theorem dX1_cpuOf_21 : decode cX1_cpuOf 21 = .ok (.iload_n 1, 1) := by decide +kernel
theorem dX1_cpuOf_22 : decode cX1_cpuOf 22 = .ok (.iaload, 1) := by decide +kernel
theorem dX1_cpuOf_23 : decode cX1_cpuOf 23 = .ok (.ireturn, 1) := by decide +kernel
theorem dX1_virtualTime_0 : decode cX1_virtualTime 0 = .ok (.aload_n 0, 1) := by decide +kernel
theorem dX1_virtualTime_1 : decode cX1_virtualTime 1 = .ok (.aload_n 0, 1) := by decide +kernel
theorem dX1_virtualTime_2 : decode cX1_virtualTime 2 = .ok (.iload_n 1, 1) := by decide +kernel
theorem dX1_virtualTime_3 : decode cX1_virtualTime 3 = .ok (.invokevirtual 134, 3) := by decide +kernel
theorem dX1_virtualTime_6 : decode cX1_virtualTime 6 = .ok (.iconst 0, 1) := by decide +kernel
theorem dX1_virtualTime_7 : decode cX1_virtualTime 7 = .ok (.invokevirtual 78, 3) := by decide +kernel
theorem dX1_virtualTime_10 : decode cX1_virtualTime 10 = .ok (.ifCond .eq 7, 3) := by decide +kernel
theorem dX1_virtualTime_13 : decode cX1_virtualTime 13 = .ok (.lconst 0, 1) := by decide +kernel
theorem dX1_virtualTime_14 : decode cX1_virtualTime 14 = .ok (.goto 9, 3) := by decide +kernel
theorem dX1_virtualTime_17 : decode cX1_virtualTime 17 = .ok (.aload_n 0, 1) := by decide +kernel
theorem dX1_virtualTime_18 : decode cX1_virtualTime 18 = .ok (.getfield 46, 3) := by decide +kernel
theorem dX1_virtualTime_21 : decode cX1_virtualTime 21 = .ok (.iload_n 1, 1) := by decide +kernel
theorem dX1_virtualTime_22 : decode cX1_virtualTime 22 = .ok (.laload, 1) := by decide +kernel
theorem dX1_virtualTime_23 : decode cX1_virtualTime 23 = .ok (.lreturn, 1) := by decide +kernel
theorem dX1_runTicks_0 : decode cX1_runTicks 0 = .ok (.aload_n 0, 1) := by decide +kernel
theorem dX1_runTicks_1 : decode cX1_runTicks 1 = .ok (.aload_n 0, 1) := by decide +kernel
theorem dX1_runTicks_2 : decode cX1_runTicks 2 = .ok (.iload_n 1, 1) := by decide +kernel
theorem dX1_runTicks_3 : decode cX1_runTicks 3 = .ok (.invokevirtual 134, 3) := by decide +kernel
theorem dX1_runTicks_6 : decode cX1_runTicks 6 = .ok (.iconst 0, 1) := by decide +kernel
theorem dX1_runTicks_7 : decode cX1_runTicks 7 = .ok (.invokevirtual 78, 3) := by decide +kernel
theorem dX1_runTicks_10 : decode cX1_runTicks 10 = .ok (.ifCond .eq 7, 3) := by decide +kernel
theorem dX1_runTicks_13 : decode cX1_runTicks 13 = .ok (.iconst 0, 1) := by decide +kernel
theorem dX1_runTicks_14 : decode cX1_runTicks 14 = .ok (.goto 9, 3) := by decide +kernel
theorem dX1_runTicks_17 : decode cX1_runTicks 17 = .ok (.aload_n 0, 1) := by decide +kernel
theorem dX1_runTicks_18 : decode cX1_runTicks 18 = .ok (.getfield 49, 3) := by decide +kernel
theorem dX1_runTicks_21 : decode cX1_runTicks 21 = .ok (.iload_n 1, 1) := by decide +kernel
theorem dX1_runTicks_22 : decode cX1_runTicks 22 = .ok (.iaload, 1) := by decide +kernel
theorem dX1_runTicks_23 : decode cX1_runTicks 23 = .ok (.ireturn, 1) := by decide +kernel
theorem dX1_waitTicks_0 : decode cX1_waitTicks 0 = .ok (.aload_n 0, 1) := by decide +kernel
theorem dX1_waitTicks_1 : decode cX1_waitTicks 1 = .ok (.aload_n 0, 1) := by decide +kernel
theorem dX1_waitTicks_2 : decode cX1_waitTicks 2 = .ok (.iload_n 1, 1) := by decide +kernel
theorem dX1_waitTicks_3 : decode cX1_waitTicks 3 = .ok (.invokevirtual 134, 3) := by decide +kernel
theorem dX1_waitTicks_6 : decode cX1_waitTicks 6 = .ok (.iconst 0, 1) := by decide +kernel
theorem dX1_waitTicks_7 : decode cX1_waitTicks 7 = .ok (.invokevirtual 78, 3) := by decide +kernel
theorem dX1_waitTicks_10 : decode cX1_waitTicks 10 = .ok (.ifCond .eq 7, 3) := by decide +kernel
theorem dX1_waitTicks_13 : decode cX1_waitTicks 13 = .ok (.iconst 0, 1) := by decide +kernel
theorem dX1_waitTicks_14 : decode cX1_waitTicks 14 = .ok (.goto 9, 3) := by decide +kernel
theorem dX1_waitTicks_17 : decode cX1_waitTicks 17 = .ok (.aload_n 0, 1) := by decide +kernel
theorem dX1_waitTicks_18 : decode cX1_waitTicks 18 = .ok (.getfield 52, 3) := by decide +kernel
theorem dX1_waitTicks_21 : decode cX1_waitTicks 21 = .ok (.iload_n 1, 1) := by decide +kernel
theorem dX1_waitTicks_22 : decode cX1_waitTicks 22 = .ok (.iaload, 1) := by decide +kernel
theorem dX1_waitTicks_23 : decode cX1_waitTicks 23 = .ok (.ireturn, 1) := by decide +kernel
theorem dX1_share_0 : decode cX1_share 0 = .ok (.aload_n 0, 1) := by decide +kernel
theorem dX1_share_1 : decode cX1_share 1 = .ok (.aload_n 0, 1) := by decide +kernel
theorem dX1_share_2 : decode cX1_share 2 = .ok (.iload_n 1, 1) := by decide +kernel
theorem dX1_share_3 : decode cX1_share 3 = .ok (.invokevirtual 134, 3) := by decide +kernel
theorem dX1_share_6 : decode cX1_share 6 = .ok (.iconst 0, 1) := by decide +kernel
theorem dX1_share_7 : decode cX1_share 7 = .ok (.invokevirtual 78, 3) := by decide +kernel
theorem dX1_share_10 : decode cX1_share 10 = .ok (.ifCond .ne 19, 3) := by decide +kernel
theorem dX1_share_13 : decode cX1_share 13 = .ok (.aload_n 0, 1) := by decide +kernel
theorem dX1_share_14 : decode cX1_share 14 = .ok (.getfield 49, 3) := by decide +kernel
theorem dX1_share_17 : decode cX1_share 17 = .ok (.iload_n 1, 1) := by decide +kernel
theorem dX1_share_18 : decode cX1_share 18 = .ok (.iaload, 1) := by decide +kernel
theorem dX1_share_19 : decode cX1_share 19 = .ok (.aload_n 0, 1) := by decide +kernel
theorem dX1_share_20 : decode cX1_share 20 = .ok (.getfield 52, 3) := by decide +kernel
theorem dX1_share_23 : decode cX1_share 23 = .ok (.iload_n 1, 1) := by decide +kernel
theorem dX1_share_24 : decode cX1_share 24 = .ok (.iaload, 1) := by decide +kernel
theorem dX1_share_25 : decode cX1_share 25 = .ok (.iadd, 1) := by decide +kernel
theorem dX1_share_26 : decode cX1_share 26 = .ok (.ifCond .ne 5, 3) := by decide +kernel
theorem dX1_share_29 : decode cX1_share 29 = .ok (.dconst 0, 1) := by decide +kernel
theorem dX1_share_30 : decode cX1_share 30 = .ok (.dreturn, 1) := by decide +kernel
theorem dX1_share_31 : decode cX1_share 31 = .ok (.aload_n 0, 1) := by decide +kernel
theorem dX1_share_32 : decode cX1_share 32 = .ok (.getfield 49, 3) := by decide +kernel
theorem dX1_share_35 : decode cX1_share 35 = .ok (.iload_n 1, 1) := by decide +kernel
theorem dX1_share_36 : decode cX1_share 36 = .ok (.iaload, 1) := by decide +kernel
theorem dX1_share_37 : decode cX1_share 37 = .ok (.i2d, 1) := by decide +kernel
theorem dX1_share_38 : decode cX1_share 38 = .ok (.aload_n 0, 1) := by decide +kernel
theorem dX1_share_39 : decode cX1_share 39 = .ok (.getfield 49, 3) := by decide +kernel
theorem dX1_share_42 : decode cX1_share 42 = .ok (.iload_n 1, 1) := by decide +kernel
theorem dX1_share_43 : decode cX1_share 43 = .ok (.iaload, 1) := by decide +kernel
theorem dX1_share_44 : decode cX1_share 44 = .ok (.aload_n 0, 1) := by decide +kernel
theorem dX1_share_45 : decode cX1_share 45 = .ok (.getfield 52, 3) := by decide +kernel
theorem dX1_share_48 : decode cX1_share 48 = .ok (.iload_n 1, 1) := by decide +kernel
theorem dX1_share_49 : decode cX1_share 49 = .ok (.iaload, 1) := by decide +kernel
theorem dX1_share_50 : decode cX1_share 50 = .ok (.iadd, 1) := by decide +kernel
theorem dX1_share_51 : decode cX1_share 51 = .ok (.i2d, 1) := by decide +kernel
theorem dX1_share_52 : decode cX1_share 52 = .ok (.ddiv, 1) := by decide +kernel
theorem dX1_share_53 : decode cX1_share 53 = .ok (.dreturn, 1) := by decide +kernel
theorem dX1_runningTask_0 : decode cX1_runningTask 0 = .ok (.aload_n 0, 1) := by decide +kernel
theorem dX1_runningTask_1 : decode cX1_runningTask 1 = .ok (.aload_n 0, 1) := by decide +kernel
theorem dX1_runningTask_2 : decode cX1_runningTask 2 = .ok (.iload_n 1, 1) := by decide +kernel
theorem dX1_runningTask_3 : decode cX1_runningTask 3 = .ok (.invokevirtual 125, 3) := by decide +kernel
theorem dX1_runningTask_6 : decode cX1_runningTask 6 = .ok (.iconst 0, 1) := by decide +kernel
theorem dX1_runningTask_7 : decode cX1_runningTask 7 = .ok (.invokevirtual 78, 3) := by decide +kernel
theorem dX1_runningTask_10 : decode cX1_runningTask 10 = .ok (.ifCond .eq 7, 3) := by decide +kernel
theorem dX1_runningTask_13 : decode cX1_runningTask 13 = .ok (.iconst 0, 1) := by decide +kernel
theorem dX1_runningTask_14 : decode cX1_runningTask 14 = .ok (.goto 9, 3) := by decide +kernel
theorem dX1_runningTask_17 : decode cX1_runningTask 17 = .ok (.aload_n 0, 1) := by decide +kernel
theorem dX1_runningTask_18 : decode cX1_runningTask 18 = .ok (.getfield 17, 3) := by decide +kernel
theorem dX1_runningTask_21 : decode cX1_runningTask 21 = .ok (.iload_n 1, 1) := by decide +kernel
theorem dX1_runningTask_22 : decode cX1_runningTask 22 = .ok (.iaload, 1) := by decide +kernel
theorem dX1_runningTask_23 : decode cX1_runningTask 23 = .ok (.ireturn, 1) := by decide +kernel
theorem dX1_coreCookie_0 : decode cX1_coreCookie 0 = .ok (.aload_n 0, 1) := by decide +kernel
theorem dX1_coreCookie_1 : decode cX1_coreCookie 1 = .ok (.aload_n 0, 1) := by decide +kernel
theorem dX1_coreCookie_2 : decode cX1_coreCookie 2 = .ok (.iload_n 1, 1) := by decide +kernel
theorem dX1_coreCookie_3 : decode cX1_coreCookie 3 = .ok (.invokevirtual 143, 3) := by decide +kernel
theorem dX1_coreCookie_6 : decode cX1_coreCookie 6 = .ok (.iconst 0, 1) := by decide +kernel
theorem dX1_coreCookie_7 : decode cX1_coreCookie 7 = .ok (.invokevirtual 78, 3) := by decide +kernel
theorem dX1_coreCookie_10 : decode cX1_coreCookie 10 = .ok (.ifCond .eq 7, 3) := by decide +kernel
theorem dX1_coreCookie_13 : decode cX1_coreCookie 13 = .ok (.iconst 0, 1) := by decide +kernel
theorem dX1_coreCookie_14 : decode cX1_coreCookie 14 = .ok (.goto 9, 3) := by decide +kernel
theorem dX1_coreCookie_17 : decode cX1_coreCookie 17 = .ok (.aload_n 0, 1) := by decide +kernel
theorem dX1_coreCookie_18 : decode cX1_coreCookie 18 = .ok (.getfield 31, 3) := by decide +kernel
theorem dX1_coreCookie_21 : decode cX1_coreCookie 21 = .ok (.iload_n 1, 1) := by decide +kernel
theorem dX1_coreCookie_22 : decode cX1_coreCookie 22 = .ok (.iaload, 1) := by decide +kernel
theorem dX1_coreCookie_23 : decode cX1_coreCookie 23 = .ok (.ireturn, 1) := by decide +kernel
theorem dX1_leaderOf_0 : decode cX1_leaderOf 0 = .ok (.aload_n 0, 1) := by decide +kernel
theorem dX1_leaderOf_1 : decode cX1_leaderOf 1 = .ok (.aload_n 0, 1) := by decide +kernel
theorem dX1_leaderOf_2 : decode cX1_leaderOf 2 = .ok (.iload_n 1, 1) := by decide +kernel
theorem dX1_leaderOf_3 : decode cX1_leaderOf 3 = .ok (.invokevirtual 143, 3) := by decide +kernel
theorem dX1_leaderOf_6 : decode cX1_leaderOf 6 = .ok (.iconst 0, 1) := by decide +kernel
theorem dX1_leaderOf_7 : decode cX1_leaderOf 7 = .ok (.invokevirtual 78, 3) := by decide +kernel
theorem dX1_leaderOf_10 : decode cX1_leaderOf 10 = .ok (.ifCond .eq 7, 3) := by decide +kernel
theorem dX1_leaderOf_13 : decode cX1_leaderOf 13 = .ok (.iconst 0, 1) := by decide +kernel
theorem dX1_leaderOf_14 : decode cX1_leaderOf 14 = .ok (.goto 8, 3) := by decide +kernel
theorem dX1_leaderOf_17 : decode cX1_leaderOf 17 = .ok (.aload_n 0, 1) := by decide +kernel
theorem dX1_leaderOf_18 : decode cX1_leaderOf 18 = .ok (.iload_n 1, 1) := by decide +kernel
theorem dX1_leaderOf_19 : decode cX1_leaderOf 19 = .ok (.invokevirtual 94, 3) := by decide +kernel
theorem dX1_leaderOf_22 : decode cX1_leaderOf 22 = .ok (.ireturn, 1) := by decide +kernel
theorem dX1_queueLength_0 : decode cX1_queueLength 0 = .ok (.aload_n 0, 1) := by decide +kernel
theorem dX1_queueLength_1 : decode cX1_queueLength 1 = .ok (.aload_n 0, 1) := by decide +kernel
theorem dX1_queueLength_2 : decode cX1_queueLength 2 = .ok (.iload_n 1, 1) := by decide +kernel
theorem dX1_queueLength_3 : decode cX1_queueLength 3 = .ok (.invokevirtual 125, 3) := by decide +kernel
theorem dX1_queueLength_6 : decode cX1_queueLength 6 = .ok (.iconst 0, 1) := by decide +kernel
theorem dX1_queueLength_7 : decode cX1_queueLength 7 = .ok (.invokevirtual 78, 3) := by decide +kernel
theorem dX1_queueLength_10 : decode cX1_queueLength 10 = .ok (.ifCond .eq 7, 3) := by decide +kernel
theorem dX1_queueLength_13 : decode cX1_queueLength 13 = .ok (.iconst 0, 1) := by decide +kernel
theorem dX1_queueLength_14 : decode cX1_queueLength 14 = .ok (.goto 8, 3) := by decide +kernel
theorem dX1_queueLength_17 : decode cX1_queueLength 17 = .ok (.aload_n 0, 1) := by decide +kernel
theorem dX1_queueLength_18 : decode cX1_queueLength 18 = .ok (.iload_n 1, 1) := by decide +kernel
theorem dX1_queueLength_19 : decode cX1_queueLength 19 = .ok (.invokevirtual 109, 3) := by decide +kernel
theorem dX1_queueLength_22 : decode cX1_queueLength 22 = .ok (.ireturn, 1) := by decide +kernel
theorem dX1_queuedTask_0 : decode cX1_queuedTask 0 = .ok (.aload_n 0, 1) := by decide +kernel
theorem dX1_queuedTask_1 : decode cX1_queuedTask 1 = .ok (.iload_n 1, 1) := by decide +kernel
theorem dX1_queuedTask_2 : decode cX1_queuedTask 2 = .ok (.invokevirtual 125, 3) := by decide +kernel
theorem dX1_queuedTask_5 : decode cX1_queuedTask 5 = .ok (.istore_n 3, 1) := by decide +kernel
theorem dX1_queuedTask_6 : decode cX1_queuedTask 6 = .ok (.aload_n 0, 1) := by decide +kernel
theorem dX1_queuedTask_7 : decode cX1_queuedTask 7 = .ok (.iload_n 3, 1) := by decide +kernel
theorem dX1_queuedTask_8 : decode cX1_queuedTask 8 = .ok (.iload_n 3, 1) := by decide +kernel
theorem dX1_queuedTask_9 : decode cX1_queuedTask 9 = .ok (.ifCond .ne 24, 3) := by decide +kernel
theorem dX1_queuedTask_12 : decode cX1_queuedTask 12 = .ok (.iload_n 2, 1) := by decide +kernel
theorem dX1_queuedTask_13 : decode cX1_queuedTask 13 = .ok (.i2l, 1) := by decide +kernel
theorem dX1_queuedTask_14 : decode cX1_queuedTask 14 = .ok (.lconst 0, 1) := by decide +kernel
theorem dX1_queuedTask_15 : decode cX1_queuedTask 15 = .ok (.aload_n 0, 1) := by decide +kernel
theorem dX1_queuedTask_16 : decode cX1_queuedTask 16 = .ok (.iload_n 1, 1) := by decide +kernel
theorem dX1_queuedTask_17 : decode cX1_queuedTask 17 = .ok (.invokevirtual 109, 3) := by decide +kernel
theorem dX1_queuedTask_20 : decode cX1_queuedTask 20 = .ok (.iconst 1, 1) := by decide +kernel
theorem dX1_queuedTask_21 : decode cX1_queuedTask 21 = .ok (.isub, 1) := by decide +kernel
theorem dX1_queuedTask_22 : decode cX1_queuedTask 22 = .ok (.i2l, 1) := by decide +kernel
theorem dX1_queuedTask_23 : decode cX1_queuedTask 23 = .ok (.invokestatic 72, 3) := by decide +kernel
theorem dX1_queuedTask_26 : decode cX1_queuedTask 26 = .ok (.ifCond .ne 7, 3) := by decide +kernel
theorem dX1_queuedTask_29 : decode cX1_queuedTask 29 = .ok (.iconst 1, 1) := by decide +kernel
theorem dX1_queuedTask_30 : decode cX1_queuedTask 30 = .ok (.goto 4, 3) := by decide +kernel
theorem dX1_queuedTask_33 : decode cX1_queuedTask 33 = .ok (.iconst 0, 1) := by decide +kernel
theorem dX1_queuedTask_34 : decode cX1_queuedTask 34 = .ok (.invokevirtual 78, 3) := by decide +kernel
theorem dX1_queuedTask_37 : decode cX1_queuedTask 37 = .ok (.ifCond .eq 5, 3) := by decide +kernel
theorem dX1_queuedTask_40 : decode cX1_queuedTask 40 = .ok (.iconst 0, 1) := by decide +kernel
theorem dX1_queuedTask_41 : decode cX1_queuedTask 41 = .ok (.ireturn, 1) := by decide +kernel
theorem dX1_queuedTask_42 : decode cX1_queuedTask 42 = .ok (.iconst 0, 1) := by decide +kernel
theorem dX1_queuedTask_43 : decode cX1_queuedTask 43 = .ok (.istore 4, 2) := by decide +kernel
theorem dX1_queuedTask_45 : decode cX1_queuedTask 45 = .ok (.iload 4, 2) := by decide +kernel
theorem dX1_queuedTask_47 : decode cX1_queuedTask 47 = .ok (.aload_n 0, 1) := by decide +kernel
theorem dX1_queuedTask_48 : decode cX1_queuedTask 48 = .ok (.getfield 69, 3) := by decide +kernel
theorem dX1_queuedTask_51 : decode cX1_queuedTask 51 = .ok (.if_icmp .ge 107, 3) := by decide +kernel
theorem dX1_queuedTask_54 : decode cX1_queuedTask 54 = .ok (.iconst 0, 1) := by decide +kernel
theorem dX1_queuedTask_55 : decode cX1_queuedTask 55 = .ok (.istore 5, 2) := by decide +kernel
theorem dX1_queuedTask_57 : decode cX1_queuedTask 57 = .ok (.iconst 0, 1) := by decide +kernel
theorem dX1_queuedTask_58 : decode cX1_queuedTask 58 = .ok (.istore 6, 2) := by decide +kernel
theorem dX1_queuedTask_60 : decode cX1_queuedTask 60 = .ok (.iload 6, 2) := by decide +kernel
theorem dX1_queuedTask_62 : decode cX1_queuedTask 62 = .ok (.aload_n 0, 1) := by decide +kernel
theorem dX1_queuedTask_63 : decode cX1_queuedTask 63 = .ok (.getfield 69, 3) := by decide +kernel
theorem dX1_queuedTask_66 : decode cX1_queuedTask 66 = .ok (.if_icmp .ge 57, 3) := by decide +kernel
theorem dX1_queuedTask_69 : decode cX1_queuedTask 69 = .ok (.iload 5, 2) := by decide +kernel
theorem dX1_queuedTask_71 : decode cX1_queuedTask 71 = .ok (.iload 6, 2) := by decide +kernel
theorem dX1_queuedTask_73 : decode cX1_queuedTask 73 = .ok (.iload 4, 2) := by decide +kernel
theorem dX1_queuedTask_75 : decode cX1_queuedTask 75 = .ok (.if_icmp .eq 38, 3) := by decide +kernel
theorem dX1_queuedTask_78 : decode cX1_queuedTask 78 = .ok (.aload_n 0, 1) := by decide +kernel
theorem dX1_queuedTask_79 : decode cX1_queuedTask 79 = .ok (.iload 6, 2) := by decide +kernel
theorem dX1_queuedTask_81 : decode cX1_queuedTask 81 = .ok (.invokevirtual 86, 3) := by decide +kernel
theorem dX1_queuedTask_84 : decode cX1_queuedTask 84 = .ok (.ifCond .eq 29, 3) := by decide +kernel
theorem dX1_queuedTask_87 : decode cX1_queuedTask 87 = .ok (.aload_n 0, 1) := by decide +kernel
theorem dX1_queuedTask_88 : decode cX1_queuedTask 88 = .ok (.getfield 34, 3) := by decide +kernel
theorem dX1_queuedTask_91 : decode cX1_queuedTask 91 = .ok (.iload 6, 2) := by decide +kernel
theorem dX1_queuedTask_93 : decode cX1_queuedTask 93 = .ok (.iaload, 1) := by decide +kernel
theorem dX1_queuedTask_94 : decode cX1_queuedTask 94 = .ok (.iload_n 1, 1) := by decide +kernel
theorem dX1_queuedTask_95 : decode cX1_queuedTask 95 = .ok (.if_icmp .ne 18, 3) := by decide +kernel
theorem dX1_queuedTask_98 : decode cX1_queuedTask 98 = .ok (.aload_n 0, 1) := by decide +kernel
theorem dX1_queuedTask_99 : decode cX1_queuedTask 99 = .ok (.iload 6, 2) := by decide +kernel
theorem dX1_queuedTask_101 : decode cX1_queuedTask 101 = .ok (.iload 4, 2) := by decide +kernel
theorem dX1_queuedTask_103 : decode cX1_queuedTask 103 = .ok (.invokevirtual 90, 3) := by decide +kernel
theorem dX1_queuedTask_106 : decode cX1_queuedTask 106 = .ok (.ifCond .eq 7, 3) := by decide +kernel
theorem dX1_queuedTask_109 : decode cX1_queuedTask 109 = .ok (.iconst 1, 1) := by decide +kernel
theorem dX1_queuedTask_110 : decode cX1_queuedTask 110 = .ok (.goto 4, 3) := by decide +kernel
theorem dX1_queuedTask_113 : decode cX1_queuedTask 113 = .ok (.iconst 0, 1) := by decide +kernel
theorem dX1_queuedTask_114 : decode cX1_queuedTask 114 = .ok (.iadd, 1) := by decide +kernel
theorem dX1_queuedTask_115 : decode cX1_queuedTask 115 = .ok (.istore 5, 2) := by decide +kernel
theorem dX1_queuedTask_117 : decode cX1_queuedTask 117 = .ok (.iinc 6 1, 3) := by decide +kernel
theorem dX1_queuedTask_120 : decode cX1_queuedTask 120 = .ok (.goto (-60), 3) := by decide +kernel
theorem dX1_queuedTask_123 : decode cX1_queuedTask 123 = .ok (.aload_n 0, 1) := by decide +kernel
theorem dX1_queuedTask_124 : decode cX1_queuedTask 124 = .ok (.iload 4, 2) := by decide +kernel
theorem dX1_queuedTask_126 : decode cX1_queuedTask 126 = .ok (.invokevirtual 86, 3) := by decide +kernel
theorem dX1_queuedTask_129 : decode cX1_queuedTask 129 = .ok (.ifCond .eq 23, 3) := by decide +kernel
theorem dX1_queuedTask_132 : decode cX1_queuedTask 132 = .ok (.aload_n 0, 1) := by decide +kernel
theorem dX1_queuedTask_133 : decode cX1_queuedTask 133 = .ok (.getfield 34, 3) := by decide +kernel
theorem dX1_queuedTask_136 : decode cX1_queuedTask 136 = .ok (.iload 4, 2) := by decide +kernel
theorem dX1_queuedTask_138 : decode cX1_queuedTask 138 = .ok (.iaload, 1) := by decide +kernel
theorem dX1_queuedTask_139 : decode cX1_queuedTask 139 = .ok (.iload_n 1, 1) := by decide +kernel
theorem dX1_queuedTask_140 : decode cX1_queuedTask 140 = .ok (.if_icmp .ne 12, 3) := by decide +kernel
theorem dX1_queuedTask_143 : decode cX1_queuedTask 143 = .ok (.iload 5, 2) := by decide +kernel
theorem dX1_queuedTask_145 : decode cX1_queuedTask 145 = .ok (.iload_n 2, 1) := by decide +kernel
theorem dX1_queuedTask_146 : decode cX1_queuedTask 146 = .ok (.if_icmp .ne 6, 3) := by decide +kernel
theorem dX1_queuedTask_149 : decode cX1_queuedTask 149 = .ok (.iload 4, 2) := by decide +kernel
theorem dX1_queuedTask_151 : decode cX1_queuedTask 151 = .ok (.ireturn, 1) := by decide +kernel
theorem dX1_queuedTask_152 : decode cX1_queuedTask 152 = .ok (.iinc 4 1, 3) := by decide +kernel
theorem dX1_queuedTask_155 : decode cX1_queuedTask 155 = .ok (.goto (-110), 3) := by decide +kernel
theorem dX1_queuedTask_158 : decode cX1_queuedTask 158 = .ok (.iconst 0, 1) := by decide +kernel
theorem dX1_queuedTask_159 : decode cX1_queuedTask 159 = .ok (.ireturn, 1) := by decide +kernel
theorem dX1_baseOf_0 : decode cX1_baseOf 0 = .ok (.aload_n 0, 1) := by decide +kernel
theorem dX1_baseOf_1 : decode cX1_baseOf 1 = .ok (.aload_n 0, 1) := by decide +kernel
theorem dX1_baseOf_2 : decode cX1_baseOf 2 = .ok (.iload_n 1, 1) := by decide +kernel
theorem dX1_baseOf_3 : decode cX1_baseOf 3 = .ok (.invokevirtual 125, 3) := by decide +kernel
theorem dX1_baseOf_6 : decode cX1_baseOf 6 = .ok (.iconst 0, 1) := by decide +kernel
theorem dX1_baseOf_7 : decode cX1_baseOf 7 = .ok (.invokevirtual 78, 3) := by decide +kernel
theorem dX1_baseOf_10 : decode cX1_baseOf 10 = .ok (.ifCond .eq 7, 3) := by decide +kernel
theorem dX1_baseOf_13 : decode cX1_baseOf 13 = .ok (.lconst 0, 1) := by decide +kernel
theorem dX1_baseOf_14 : decode cX1_baseOf 14 = .ok (.goto 9, 3) := by decide +kernel
theorem dX1_baseOf_17 : decode cX1_baseOf 17 = .ok (.aload_n 0, 1) := by decide +kernel
theorem dX1_baseOf_18 : decode cX1_baseOf 18 = .ok (.getfield 13, 3) := by decide +kernel
theorem dX1_baseOf_21 : decode cX1_baseOf 21 = .ok (.iload_n 1, 1) := by decide +kernel
theorem dX1_baseOf_22 : decode cX1_baseOf 22 = .ok (.laload, 1) := by decide +kernel
theorem dX1_baseOf_23 : decode cX1_baseOf 23 = .ok (.lreturn, 1) := by decide +kernel
theorem dX1_idleTicks_0 : decode cX1_idleTicks 0 = .ok (.aload_n 0, 1) := by decide +kernel
theorem dX1_idleTicks_1 : decode cX1_idleTicks 1 = .ok (.aload_n 0, 1) := by decide +kernel
theorem dX1_idleTicks_2 : decode cX1_idleTicks 2 = .ok (.iload_n 1, 1) := by decide +kernel
theorem dX1_idleTicks_3 : decode cX1_idleTicks 3 = .ok (.invokevirtual 125, 3) := by decide +kernel
theorem dX1_idleTicks_6 : decode cX1_idleTicks 6 = .ok (.iconst 0, 1) := by decide +kernel
theorem dX1_idleTicks_7 : decode cX1_idleTicks 7 = .ok (.invokevirtual 78, 3) := by decide +kernel
theorem dX1_idleTicks_10 : decode cX1_idleTicks 10 = .ok (.ifCond .eq 7, 3) := by decide +kernel
theorem dX1_idleTicks_13 : decode cX1_idleTicks 13 = .ok (.iconst 0, 1) := by decide +kernel
theorem dX1_idleTicks_14 : decode cX1_idleTicks 14 = .ok (.goto 9, 3) := by decide +kernel
theorem dX1_idleTicks_17 : decode cX1_idleTicks 17 = .ok (.aload_n 0, 1) := by decide +kernel
theorem dX1_idleTicks_18 : decode cX1_idleTicks 18 = .ok (.getfield 25, 3) := by decide +kernel
theorem dX1_idleTicks_21 : decode cX1_idleTicks 21 = .ok (.iload_n 1, 1) := by decide +kernel
theorem dX1_idleTicks_22 : decode cX1_idleTicks 22 = .ok (.iaload, 1) := by decide +kernel
theorem dX1_idleTicks_23 : decode cX1_idleTicks 23 = .ok (.ireturn, 1) := by decide +kernel
theorem dX1_forcedIdleTicks_0 : decode cX1_forcedIdleTicks 0 = .ok (.aload_n 0, 1) := by decide +kernel
theorem dX1_forcedIdleTicks_1 : decode cX1_forcedIdleTicks 1 = .ok (.aload_n 0, 1) := by decide +kernel
theorem dX1_forcedIdleTicks_2 : decode cX1_forcedIdleTicks 2 = .ok (.iload_n 1, 1) := by decide +kernel
theorem dX1_forcedIdleTicks_3 : decode cX1_forcedIdleTicks 3 = .ok (.invokevirtual 125, 3) := by decide +kernel
theorem dX1_forcedIdleTicks_6 : decode cX1_forcedIdleTicks 6 = .ok (.iconst 0, 1) := by decide +kernel
theorem dX1_forcedIdleTicks_7 : decode cX1_forcedIdleTicks 7 = .ok (.invokevirtual 78, 3) := by decide +kernel
theorem dX1_forcedIdleTicks_10 : decode cX1_forcedIdleTicks 10 = .ok (.ifCond .eq 7, 3) := by decide +kernel
theorem dX1_forcedIdleTicks_13 : decode cX1_forcedIdleTicks 13 = .ok (.iconst 0, 1) := by decide +kernel
theorem dX1_forcedIdleTicks_14 : decode cX1_forcedIdleTicks 14 = .ok (.goto 9, 3) := by decide +kernel
theorem dX1_forcedIdleTicks_17 : decode cX1_forcedIdleTicks 17 = .ok (.aload_n 0, 1) := by decide +kernel
theorem dX1_forcedIdleTicks_18 : decode cX1_forcedIdleTicks 18 = .ok (.getfield 28, 3) := by decide +kernel
theorem dX1_forcedIdleTicks_21 : decode cX1_forcedIdleTicks 21 = .ok (.iload_n 1, 1) := by decide +kernel
theorem dX1_forcedIdleTicks_22 : decode cX1_forcedIdleTicks 22 = .ok (.iaload, 1) := by decide +kernel
theorem dX1_forcedIdleTicks_23 : decode cX1_forcedIdleTicks 23 = .ok (.ireturn, 1) := by decide +kernel
theorem dX1_stolenTasks_0 : decode cX1_stolenTasks 0 = .ok (.aload_n 0, 1) := by decide +kernel
theorem dX1_stolenTasks_1 : decode cX1_stolenTasks 1 = .ok (.iconst 0, 1) := by decide +kernel
theorem dX1_stolenTasks_2 : decode cX1_stolenTasks 2 = .ok (.putfield 59, 3) := by decide +kernel
theorem dX1_stolenTasks_5 : decode cX1_stolenTasks 5 = .ok (.aload_n 0, 1) := by decide +kernel
theorem dX1_stolenTasks_6 : decode cX1_stolenTasks 6 = .ok (.getfield 66, 3) := by decide +kernel
theorem dX1_stolenTasks_9 : decode cX1_stolenTasks 9 = .ok (.ireturn, 1) := by decide +kernel
