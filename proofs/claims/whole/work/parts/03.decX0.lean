theorem dX0_init_0 : decode cX0_init 0 = .ok (.aload_n 0, 1) := by decide +kernel
theorem dX0_init_1 : decode cX0_init 1 = .ok (.invokespecial 1, 3) := by decide +kernel
theorem dX0_init_4 : decode cX0_init 4 = .ok (.aload_n 0, 1) := by decide +kernel
theorem dX0_init_5 : decode cX0_init 5 = .ok (.bipush 16, 2) := by decide +kernel
theorem dX0_init_7 : decode cX0_init 7 = .ok (.newarray .int, 2) := by decide +kernel
theorem dX0_init_9 : decode cX0_init 9 = .ok (.putfield 9, 3) := by decide +kernel
theorem dX0_init_12 : decode cX0_init 12 = .ok (.aload_n 0, 1) := by decide +kernel
theorem dX0_init_13 : decode cX0_init 13 = .ok (.bipush 16, 2) := by decide +kernel
theorem dX0_init_15 : decode cX0_init 15 = .ok (.newarray .int, 2) := by decide +kernel
theorem dX0_init_17 : decode cX0_init 17 = .ok (.putfield 13, 3) := by decide +kernel
theorem dX0_init_20 : decode cX0_init 20 = .ok (.aload_n 0, 1) := by decide +kernel
theorem dX0_init_21 : decode cX0_init 21 = .ok (.bipush 16, 2) := by decide +kernel
theorem dX0_init_23 : decode cX0_init 23 = .ok (.newarray .int, 2) := by decide +kernel
theorem dX0_init_25 : decode cX0_init 25 = .ok (.putfield 16, 3) := by decide +kernel
theorem dX0_init_28 : decode cX0_init 28 = .ok (.aload_n 0, 1) := by decide +kernel
theorem dX0_init_29 : decode cX0_init 29 = .ok (.bipush 16, 2) := by decide +kernel
theorem dX0_init_31 : decode cX0_init 31 = .ok (.newarray .int, 2) := by decide +kernel
theorem dX0_init_33 : decode cX0_init 33 = .ok (.putfield 19, 3) := by decide +kernel
theorem dX0_init_36 : decode cX0_init 36 = .ok (.aload_n 0, 1) := by decide +kernel
theorem dX0_init_37 : decode cX0_init 37 = .ok (.bipush 16, 2) := by decide +kernel
theorem dX0_init_39 : decode cX0_init 39 = .ok (.newarray .long, 2) := by decide +kernel
theorem dX0_init_41 : decode cX0_init 41 = .ok (.putfield 22, 3) := by decide +kernel
theorem dX0_init_44 : decode cX0_init 44 = .ok (.aload_n 0, 1) := by decide +kernel
theorem dX0_init_45 : decode cX0_init 45 = .ok (.bipush 16, 2) := by decide +kernel
theorem dX0_init_47 : decode cX0_init 47 = .ok (.newarray .int, 2) := by decide +kernel
theorem dX0_init_49 : decode cX0_init 49 = .ok (.putfield 26, 3) := by decide +kernel
theorem dX0_init_52 : decode cX0_init 52 = .ok (.aload_n 0, 1) := by decide +kernel
theorem dX0_init_53 : decode cX0_init 53 = .ok (.bipush 16, 2) := by decide +kernel
theorem dX0_init_55 : decode cX0_init 55 = .ok (.newarray .int, 2) := by decide +kernel
theorem dX0_init_57 : decode cX0_init 57 = .ok (.putfield 29, 3) := by decide +kernel
theorem dX0_init_60 : decode cX0_init 60 = .ok (.aload_n 0, 1) := by decide +kernel
theorem dX0_init_61 : decode cX0_init 61 = .ok (.bipush 8, 2) := by decide +kernel
theorem dX0_init_63 : decode cX0_init 63 = .ok (.newarray .long, 2) := by decide +kernel
theorem dX0_init_65 : decode cX0_init 65 = .ok (.putfield 32, 3) := by decide +kernel
theorem dX0_init_68 : decode cX0_init 68 = .ok (.aload_n 0, 1) := by decide +kernel
theorem dX0_init_69 : decode cX0_init 69 = .ok (.bipush 8, 2) := by decide +kernel
theorem dX0_init_71 : decode cX0_init 71 = .ok (.newarray .int, 2) := by decide +kernel
theorem dX0_init_73 : decode cX0_init 73 = .ok (.putfield 35, 3) := by decide +kernel
theorem dX0_init_76 : decode cX0_init 76 = .ok (.aload_n 0, 1) := by decide +kernel
theorem dX0_init_77 : decode cX0_init 77 = .ok (.bipush 8, 2) := by decide +kernel
theorem dX0_init_79 : decode cX0_init 79 = .ok (.newarray .boolean, 2) := by decide +kernel
theorem dX0_init_81 : decode cX0_init 81 = .ok (.putfield 38, 3) := by decide +kernel
theorem dX0_init_84 : decode cX0_init 84 = .ok (.aload_n 0, 1) := by decide +kernel
theorem dX0_init_85 : decode cX0_init 85 = .ok (.bipush 8, 2) := by decide +kernel
theorem dX0_init_87 : decode cX0_init 87 = .ok (.newarray .int, 2) := by decide +kernel
theorem dX0_init_89 : decode cX0_init 89 = .ok (.putfield 42, 3) := by decide +kernel
theorem dX0_init_92 : decode cX0_init 92 = .ok (.aload_n 0, 1) := by decide +kernel
theorem dX0_init_93 : decode cX0_init 93 = .ok (.bipush 8, 2) := by decide +kernel
theorem dX0_init_95 : decode cX0_init 95 = .ok (.newarray .int, 2) := by decide +kernel
theorem dX0_init_97 : decode cX0_init 97 = .ok (.putfield 45, 3) := by decide +kernel
theorem dX0_init_100 : decode cX0_init 100 = .ok (.aload_n 0, 1) := by decide +kernel
theorem dX0_init_101 : decode cX0_init 101 = .ok (.iconst 4, 1) := by decide +kernel
theorem dX0_init_102 : decode cX0_init 102 = .ok (.newarray .int, 2) := by decide +kernel
theorem dX0_init_104 : decode cX0_init 104 = .ok (.putfield 48, 3) := by decide +kernel
theorem dX0_init_107 : decode cX0_init 107 = .ok (.aload_n 0, 1) := by decide +kernel
theorem dX0_init_108 : decode cX0_init 108 = .ok (.iconst 2, 1) := by decide +kernel
theorem dX0_init_109 : decode cX0_init 109 = .ok (.invokevirtual 51, 3) := by decide +kernel
theorem dX0_init_112 : decode cX0_init 112 = .ok (.return_, 1) := by decide +kernel
theorem dX0_reset_0 : decode cX0_reset 0 = .ok (.iload_n 1, 1) := by decide +kernel
theorem dX0_reset_1 : decode cX0_reset 1 = .ok (.iconst 1, 1) := by decide +kernel
theorem dX0_reset_2 : decode cX0_reset 2 = .ok (.if_icmp .lt 8, 3) := by decide +kernel
theorem dX0_reset_5 : decode cX0_reset 5 = .ok (.iload_n 1, 1) := by decide +kernel
theorem dX0_reset_6 : decode cX0_reset 6 = .ok (.iconst 4, 1) := by decide +kernel
theorem dX0_reset_7 : decode cX0_reset 7 = .ok (.if_icmp .le 13, 3) := by decide +kernel
theorem dX0_reset_10 : decode cX0_reset 10 = .ok (.new 55, 3) := by decide +kernel
theorem dX0_reset_13 : decode cX0_reset 13 = .ok (.dup, 1) := by decide +kernel
theorem dX0_reset_14 : decode cX0_reset 14 = .ok (.ldc 57, 2) := by decide +kernel
theorem dX0_reset_16 : decode cX0_reset 16 = .ok (.invokespecial 59, 3) := by decide +kernel
theorem dX0_reset_19 : decode cX0_reset 19 = .ok (.athrow, 1) := by decide +kernel
theorem dX0_reset_20 : decode cX0_reset 20 = .ok (.aload_n 0, 1) := by decide +kernel
theorem dX0_reset_21 : decode cX0_reset 21 = .ok (.getfield 62, 3) := by decide +kernel
theorem dX0_reset_24 : decode cX0_reset 24 = .ok (.istore_n 2, 1) := by decide +kernel
theorem dX0_reset_25 : decode cX0_reset 25 = .ok (.aload_n 0, 1) := by decide +kernel
theorem dX0_reset_26 : decode cX0_reset 26 = .ok (.iload_n 1, 1) := by decide +kernel
theorem dX0_reset_27 : decode cX0_reset 27 = .ok (.invokevirtual 51, 3) := by decide +kernel
theorem dX0_reset_30 : decode cX0_reset 30 = .ok (.iload_n 2, 1) := by decide +kernel
theorem dX0_reset_31 : decode cX0_reset 31 = .ok (.ireturn, 1) := by decide +kernel
theorem dX0_setStealing_0 : decode cX0_setStealing 0 = .ok (.aload_n 0, 1) := by decide +kernel
theorem dX0_setStealing_1 : decode cX0_setStealing 1 = .ok (.getfield 66, 3) := by decide +kernel
theorem dX0_setStealing_4 : decode cX0_setStealing 4 = .ok (.istore_n 2, 1) := by decide +kernel
theorem dX0_setStealing_5 : decode cX0_setStealing 5 = .ok (.aload_n 0, 1) := by decide +kernel
theorem dX0_setStealing_6 : decode cX0_setStealing 6 = .ok (.iload_n 1, 1) := by decide +kernel
theorem dX0_setStealing_7 : decode cX0_setStealing 7 = .ok (.putfield 66, 3) := by decide +kernel
theorem dX0_setStealing_10 : decode cX0_setStealing 10 = .ok (.iload_n 2, 1) := by decide +kernel
theorem dX0_setStealing_11 : decode cX0_setStealing 11 = .ok (.ireturn, 1) := by decide +kernel
theorem dX0_tick_0 : decode cX0_tick 0 = .ok (.iload_n 1, 1) := by decide +kernel
theorem dX0_tick_1 : decode cX0_tick 1 = .ok (.iconst 1, 1) := by decide +kernel
theorem dX0_tick_2 : decode cX0_tick 2 = .ok (.if_icmp .lt 9, 3) := by decide +kernel
theorem dX0_tick_5 : decode cX0_tick 5 = .ok (.iload_n 1, 1) := by decide +kernel
theorem dX0_tick_6 : decode cX0_tick 6 = .ok (.bipush 100, 2) := by decide +kernel
theorem dX0_tick_8 : decode cX0_tick 8 = .ok (.if_icmp .le 13, 3) := by decide +kernel
theorem dX0_tick_11 : decode cX0_tick 11 = .ok (.new 55, 3) := by decide +kernel
theorem dX0_tick_14 : decode cX0_tick 14 = .ok (.dup, 1) := by decide +kernel
theorem dX0_tick_15 : decode cX0_tick 15 = .ok (.ldc 70, 2) := by decide +kernel
theorem dX0_tick_17 : decode cX0_tick 17 = .ok (.invokespecial 59, 3) := by decide +kernel
theorem dX0_tick_20 : decode cX0_tick 20 = .ok (.athrow, 1) := by decide +kernel
theorem dX0_tick_21 : decode cX0_tick 21 = .ok (.iconst 0, 1) := by decide +kernel
theorem dX0_tick_22 : decode cX0_tick 22 = .ok (.istore_n 2, 1) := by decide +kernel
theorem dX0_tick_23 : decode cX0_tick 23 = .ok (.iconst 0, 1) := by decide +kernel
theorem dX0_tick_24 : decode cX0_tick 24 = .ok (.istore_n 3, 1) := by decide +kernel
theorem dX0_tick_25 : decode cX0_tick 25 = .ok (.iload_n 3, 1) := by decide +kernel
theorem dX0_tick_26 : decode cX0_tick 26 = .ok (.iload_n 1, 1) := by decide +kernel
theorem dX0_tick_27 : decode cX0_tick 27 = .ok (.if_icmp .ge 16, 3) := by decide +kernel
theorem dX0_tick_30 : decode cX0_tick 30 = .ok (.iload_n 2, 1) := by decide +kernel
theorem dX0_tick_31 : decode cX0_tick 31 = .ok (.aload_n 0, 1) := by decide +kernel
theorem dX0_tick_32 : decode cX0_tick 32 = .ok (.invokevirtual 72, 3) := by decide +kernel
theorem dX0_tick_35 : decode cX0_tick 35 = .ok (.iadd, 1) := by decide +kernel
theorem dX0_tick_36 : decode cX0_tick 36 = .ok (.istore_n 2, 1) := by decide +kernel
theorem dX0_tick_37 : decode cX0_tick 37 = .ok (.iinc 3 1, 3) := by decide +kernel
theorem dX0_tick_40 : decode cX0_tick 40 = .ok (.goto (-15), 3) := by decide +kernel
theorem dX0_tick_43 : decode cX0_tick 43 = .ok (.iload_n 2, 1) := by decide +kernel
theorem dX0_tick_44 : decode cX0_tick 44 = .ok (.ireturn, 1) := by decide +kernel
theorem dX0_createTask_0 : decode cX0_createTask 0 = .ok (.aload_n 0, 1) := by decide +kernel
theorem dX0_createTask_1 : decode cX0_createTask 1 = .ok (.iload_n 1, 1) := by decide +kernel
theorem dX0_createTask_2 : decode cX0_createTask 2 = .ok (.invokevirtual 76, 3) := by decide +kernel
theorem dX0_createTask_5 : decode cX0_createTask 5 = .ok (.iload_n 2, 1) := by decide +kernel
theorem dX0_createTask_6 : decode cX0_createTask 6 = .ok (.invokestatic 79, 3) := by decide +kernel
theorem dX0_createTask_9 : decode cX0_createTask 9 = .ok (.iload_n 3, 1) := by decide +kernel
theorem dX0_createTask_10 : decode cX0_createTask 10 = .ok (.invokestatic 82, 3) := by decide +kernel
theorem dX0_createTask_13 : decode cX0_createTask 13 = .ok (.aload_n 0, 1) := by decide +kernel
theorem dX0_createTask_14 : decode cX0_createTask 14 = .ok (.getfield 85, 3) := by decide +kernel
theorem dX0_createTask_17 : decode cX0_createTask 17 = .ok (.bipush 16, 2) := by decide +kernel
theorem dX0_createTask_19 : decode cX0_createTask 19 = .ok (.if_icmp .lt 13, 3) := by decide +kernel
theorem dX0_createTask_22 : decode cX0_createTask 22 = .ok (.new 88, 3) := by decide +kernel
theorem dX0_createTask_25 : decode cX0_createTask 25 = .ok (.dup, 1) := by decide +kernel
theorem dX0_createTask_26 : decode cX0_createTask 26 = .ok (.ldc 90, 2) := by decide +kernel
theorem dX0_createTask_28 : decode cX0_createTask 28 = .ok (.invokespecial 92, 3) := by decide +kernel
theorem dX0_createTask_31 : decode cX0_createTask 31 = .ok (.athrow, 1) := by decide +kernel
theorem dX0_createTask_32 : decode cX0_createTask 32 = .ok (.aload_n 0, 1) := by decide +kernel
theorem dX0_createTask_33 : decode cX0_createTask 33 = .ok (.getfield 85, 3) := by decide +kernel
theorem dX0_createTask_36 : decode cX0_createTask 36 = .ok (.istore 4, 2) := by decide +kernel
theorem dX0_createTask_38 : decode cX0_createTask 38 = .ok (.aload_n 0, 1) := by decide +kernel
theorem dX0_createTask_39 : decode cX0_createTask 39 = .ok (.dup, 1) := by decide +kernel
theorem dX0_createTask_40 : decode cX0_createTask 40 = .ok (.getfield 85, 3) := by decide +kernel
theorem dX0_createTask_43 : decode cX0_createTask 43 = .ok (.iconst 1, 1) := by decide +kernel
theorem dX0_createTask_44 : decode cX0_createTask 44 = .ok (.iadd, 1) := by decide +kernel
theorem dX0_createTask_45 : decode cX0_createTask 45 = .ok (.putfield 85, 3) := by decide +kernel
theorem dX0_createTask_48 : decode cX0_createTask 48 = .ok (.aload_n 0, 1) := by decide +kernel
theorem dX0_createTask_49 : decode cX0_createTask 49 = .ok (.getfield 9, 3) := by decide +kernel
theorem dX0_createTask_52 : decode cX0_createTask 52 = .ok (.iload 4, 2) := by decide +kernel
theorem dX0_createTask_54 : decode cX0_createTask 54 = .ok (.iload_n 1, 1) := by decide +kernel
theorem dX0_createTask_55 : decode cX0_createTask 55 = .ok (.iastore, 1) := by decide +kernel
theorem dX0_createTask_56 : decode cX0_createTask 56 = .ok (.aload_n 0, 1) := by decide +kernel
theorem dX0_createTask_57 : decode cX0_createTask 57 = .ok (.getfield 13, 3) := by decide +kernel
theorem dX0_createTask_60 : decode cX0_createTask 60 = .ok (.iload 4, 2) := by decide +kernel
theorem dX0_createTask_62 : decode cX0_createTask 62 = .ok (.iload_n 2, 1) := by decide +kernel
theorem dX0_createTask_63 : decode cX0_createTask 63 = .ok (.iastore, 1) := by decide +kernel
theorem dX0_createTask_64 : decode cX0_createTask 64 = .ok (.aload_n 0, 1) := by decide +kernel
theorem dX0_createTask_65 : decode cX0_createTask 65 = .ok (.getfield 16, 3) := by decide +kernel
theorem dX0_createTask_68 : decode cX0_createTask 68 = .ok (.iload 4, 2) := by decide +kernel
theorem dX0_createTask_70 : decode cX0_createTask 70 = .ok (.iload_n 3, 1) := by decide +kernel
theorem dX0_createTask_71 : decode cX0_createTask 71 = .ok (.iastore, 1) := by decide +kernel
theorem dX0_createTask_72 : decode cX0_createTask 72 = .ok (.aload_n 0, 1) := by decide +kernel
theorem dX0_createTask_73 : decode cX0_createTask 73 = .ok (.getfield 22, 3) := by decide +kernel
theorem dX0_createTask_76 : decode cX0_createTask 76 = .ok (.iload 4, 2) := by decide +kernel
theorem dX0_createTask_78 : decode cX0_createTask 78 = .ok (.lconst 0, 1) := by decide +kernel
theorem dX0_createTask_79 : decode cX0_createTask 79 = .ok (.lastore, 1) := by decide +kernel
theorem dX0_createTask_80 : decode cX0_createTask 80 = .ok (.aload_n 0, 1) := by decide +kernel
theorem dX0_createTask_81 : decode cX0_createTask 81 = .ok (.getfield 26, 3) := by decide +kernel
theorem dX0_createTask_84 : decode cX0_createTask 84 = .ok (.iload 4, 2) := by decide +kernel
theorem dX0_createTask_86 : decode cX0_createTask 86 = .ok (.iconst 0, 1) := by decide +kernel
theorem dX0_createTask_87 : decode cX0_createTask 87 = .ok (.iastore, 1) := by decide +kernel
theorem dX0_createTask_88 : decode cX0_createTask 88 = .ok (.aload_n 0, 1) := by decide +kernel
theorem dX0_createTask_89 : decode cX0_createTask 89 = .ok (.getfield 29, 3) := by decide +kernel
theorem dX0_createTask_92 : decode cX0_createTask 92 = .ok (.iload 4, 2) := by decide +kernel
theorem dX0_createTask_94 : decode cX0_createTask 94 = .ok (.iconst 0, 1) := by decide +kernel
theorem dX0_createTask_95 : decode cX0_createTask 95 = .ok (.iastore, 1) := by decide +kernel
theorem dX0_createTask_96 : decode cX0_createTask 96 = .ok (.aload_n 0, 1) := by decide +kernel
theorem dX0_createTask_97 : decode cX0_createTask 97 = .ok (.iload 4, 2) := by decide +kernel
theorem dX0_createTask_99 : decode cX0_createTask 99 = .ok (.invokevirtual 93, 3) := by decide +kernel
theorem dX0_createTask_102 : decode cX0_createTask 102 = .ok (.iload 4, 2) := by decide +kernel
theorem dX0_createTask_104 : decode cX0_createTask 104 = .ok (.ireturn, 1) := by decide +kernel
theorem dX0_sleep_0 : decode cX0_sleep 0 = .ok (.aload_n 0, 1) := by decide +kernel
theorem dX0_sleep_1 : decode cX0_sleep 1 = .ok (.iload_n 1, 1) := by decide +kernel
theorem dX0_sleep_2 : decode cX0_sleep 2 = .ok (.invokevirtual 96, 3) := by decide +kernel
theorem dX0_sleep_5 : decode cX0_sleep 5 = .ok (.aload_n 0, 1) := by decide +kernel
theorem dX0_sleep_6 : decode cX0_sleep 6 = .ok (.iload_n 1, 1) := by decide +kernel
theorem dX0_sleep_7 : decode cX0_sleep 7 = .ok (.invokevirtual 99, 3) := by decide +kernel
theorem dX0_sleep_10 : decode cX0_sleep 10 = .ok (.ifCond .ne 13, 3) := by decide +kernel
theorem dX0_sleep_13 : decode cX0_sleep 13 = .ok (.new 88, 3) := by decide +kernel
theorem dX0_sleep_16 : decode cX0_sleep 16 = .ok (.dup, 1) := by decide +kernel
theorem dX0_sleep_17 : decode cX0_sleep 17 = .ok (.ldc 103, 2) := by decide +kernel
theorem dX0_sleep_19 : decode cX0_sleep 19 = .ok (.invokespecial 92, 3) := by decide +kernel
theorem dX0_sleep_22 : decode cX0_sleep 22 = .ok (.athrow, 1) := by decide +kernel
theorem dX0_sleep_23 : decode cX0_sleep 23 = .ok (.aload_n 0, 1) := by decide +kernel
theorem dX0_sleep_24 : decode cX0_sleep 24 = .ok (.iload_n 1, 1) := by decide +kernel
theorem dX0_sleep_25 : decode cX0_sleep 25 = .ok (.iconst 2, 1) := by decide +kernel
theorem dX0_sleep_26 : decode cX0_sleep 26 = .ok (.invokevirtual 105, 3) := by decide +kernel
theorem dX0_sleep_29 : decode cX0_sleep 29 = .ok (.ireturn, 1) := by decide +kernel
theorem dX0_wake_0 : decode cX0_wake 0 = .ok (.aload_n 0, 1) := by decide +kernel
theorem dX0_wake_1 : decode cX0_wake 1 = .ok (.iload_n 1, 1) := by decide +kernel
theorem dX0_wake_2 : decode cX0_wake 2 = .ok (.invokevirtual 96, 3) := by decide +kernel
theorem dX0_wake_5 : decode cX0_wake 5 = .ok (.aload_n 0, 1) := by decide +kernel
theorem dX0_wake_6 : decode cX0_wake 6 = .ok (.getfield 19, 3) := by decide +kernel
theorem dX0_wake_9 : decode cX0_wake 9 = .ok (.iload_n 1, 1) := by decide +kernel
theorem dX0_wake_10 : decode cX0_wake 10 = .ok (.iaload, 1) := by decide +kernel
theorem dX0_wake_11 : decode cX0_wake 11 = .ok (.iconst 2, 1) := by decide +kernel
theorem dX0_wake_12 : decode cX0_wake 12 = .ok (.if_icmp .eq 13, 3) := by decide +kernel
theorem dX0_wake_15 : decode cX0_wake 15 = .ok (.new 88, 3) := by decide +kernel
theorem dX0_wake_18 : decode cX0_wake 18 = .ok (.dup, 1) := by decide +kernel
theorem dX0_wake_19 : decode cX0_wake 19 = .ok (.ldc 109, 2) := by decide +kernel
theorem dX0_wake_21 : decode cX0_wake 21 = .ok (.invokespecial 92, 3) := by decide +kernel
theorem dX0_wake_24 : decode cX0_wake 24 = .ok (.athrow, 1) := by decide +kernel
theorem dX0_wake_25 : decode cX0_wake 25 = .ok (.aload_n 0, 1) := by decide +kernel
theorem dX0_wake_26 : decode cX0_wake 26 = .ok (.iload_n 1, 1) := by decide +kernel
theorem dX0_wake_27 : decode cX0_wake 27 = .ok (.invokevirtual 93, 3) := by decide +kernel
theorem dX0_wake_30 : decode cX0_wake 30 = .ok (.aload_n 0, 1) := by decide +kernel
theorem dX0_wake_31 : decode cX0_wake 31 = .ok (.getfield 22, 3) := by decide +kernel
theorem dX0_wake_34 : decode cX0_wake 34 = .ok (.iload_n 1, 1) := by decide +kernel
theorem dX0_wake_35 : decode cX0_wake 35 = .ok (.laload, 1) := by decide +kernel
theorem dX0_wake_36 : decode cX0_wake 36 = .ok (.lreturn, 1) := by decide +kernel
theorem dX0_exit_0 : decode cX0_exit 0 = .ok (.aload_n 0, 1) := by decide +kernel
theorem dX0_exit_1 : decode cX0_exit 1 = .ok (.iload_n 1, 1) := by decide +kernel
theorem dX0_exit_2 : decode cX0_exit 2 = .ok (.invokevirtual 96, 3) := by decide +kernel
theorem dX0_exit_5 : decode cX0_exit 5 = .ok (.aload_n 0, 1) := by decide +kernel
theorem dX0_exit_6 : decode cX0_exit 6 = .ok (.iload_n 1, 1) := by decide +kernel
theorem dX0_exit_7 : decode cX0_exit 7 = .ok (.invokevirtual 111, 3) := by decide +kernel
theorem dX0_exit_10 : decode cX0_exit 10 = .ok (.aload_n 0, 1) := by decide +kernel
theorem dX0_exit_11 : decode cX0_exit 11 = .ok (.iload_n 1, 1) := by decide +kernel
theorem dX0_exit_12 : decode cX0_exit 12 = .ok (.iconst 3, 1) := by decide +kernel
theorem dX0_exit_13 : decode cX0_exit 13 = .ok (.invokevirtual 105, 3) := by decide +kernel
theorem dX0_exit_16 : decode cX0_exit 16 = .ok (.ireturn, 1) := by decide +kernel
theorem dX0_setWeight_0 : decode cX0_setWeight 0 = .ok (.aload_n 0, 1) := by decide +kernel
theorem dX0_setWeight_1 : decode cX0_setWeight 1 = .ok (.iload_n 1, 1) := by decide +kernel
theorem dX0_setWeight_2 : decode cX0_setWeight 2 = .ok (.invokevirtual 96, 3) := by decide +kernel
theorem dX0_setWeight_5 : decode cX0_setWeight 5 = .ok (.iload_n 2, 1) := by decide +kernel
theorem dX0_setWeight_6 : decode cX0_setWeight 6 = .ok (.invokestatic 79, 3) := by decide +kernel
theorem dX0_setWeight_9 : decode cX0_setWeight 9 = .ok (.aload_n 0, 1) := by decide +kernel
theorem dX0_setWeight_10 : decode cX0_setWeight 10 = .ok (.iload_n 1, 1) := by decide +kernel
theorem dX0_setWeight_11 : decode cX0_setWeight 11 = .ok (.invokevirtual 111, 3) := by decide +kernel
theorem dX0_setWeight_14 : decode cX0_setWeight 14 = .ok (.aload_n 0, 1) := by decide +kernel
theorem dX0_setWeight_15 : decode cX0_setWeight 15 = .ok (.getfield 13, 3) := by decide +kernel
theorem dX0_setWeight_18 : decode cX0_setWeight 18 = .ok (.iload_n 1, 1) := by decide +kernel
theorem dX0_setWeight_19 : decode cX0_setWeight 19 = .ok (.iaload, 1) := by decide +kernel
theorem dX0_setWeight_20 : decode cX0_setWeight 20 = .ok (.istore_n 3, 1) := by decide +kernel
theorem dX0_setWeight_21 : decode cX0_setWeight 21 = .ok (.aload_n 0, 1) := by decide +kernel
theorem dX0_setWeight_22 : decode cX0_setWeight 22 = .ok (.getfield 13, 3) := by decide +kernel
theorem dX0_setWeight_25 : decode cX0_setWeight 25 = .ok (.iload_n 1, 1) := by decide +kernel
theorem dX0_setWeight_26 : decode cX0_setWeight 26 = .ok (.iload_n 2, 1) := by decide +kernel
theorem dX0_setWeight_27 : decode cX0_setWeight 27 = .ok (.iastore, 1) := by decide +kernel
theorem dX0_setWeight_28 : decode cX0_setWeight 28 = .ok (.iload_n 3, 1) := by decide +kernel
theorem dX0_setWeight_29 : decode cX0_setWeight 29 = .ok (.ireturn, 1) := by decide +kernel
theorem dX0_setCookie_0 : decode cX0_setCookie 0 = .ok (.aload_n 0, 1) := by decide +kernel
theorem dX0_setCookie_1 : decode cX0_setCookie 1 = .ok (.iload_n 1, 1) := by decide +kernel
theorem dX0_setCookie_2 : decode cX0_setCookie 2 = .ok (.invokevirtual 96, 3) := by decide +kernel
theorem dX0_setCookie_5 : decode cX0_setCookie 5 = .ok (.iload_n 2, 1) := by decide +kernel
theorem dX0_setCookie_6 : decode cX0_setCookie 6 = .ok (.invokestatic 82, 3) := by decide +kernel
theorem dX0_setCookie_9 : decode cX0_setCookie 9 = .ok (.aload_n 0, 1) := by decide +kernel
theorem dX0_setCookie_10 : decode cX0_setCookie 10 = .ok (.iload_n 1, 1) := by decide +kernel
theorem dX0_setCookie_11 : decode cX0_setCookie 11 = .ok (.invokevirtual 111, 3) := by decide +kernel
theorem dX0_setCookie_14 : decode cX0_setCookie 14 = .ok (.aload_n 0, 1) := by decide +kernel
theorem dX0_setCookie_15 : decode cX0_setCookie 15 = .ok (.getfield 16, 3) := by decide +kernel
theorem dX0_setCookie_18 : decode cX0_setCookie 18 = .ok (.iload_n 1, 1) := by decide +kernel
theorem dX0_setCookie_19 : decode cX0_setCookie 19 = .ok (.iaload, 1) := by decide +kernel
theorem dX0_setCookie_20 : decode cX0_setCookie 20 = .ok (.istore_n 3, 1) := by decide +kernel
theorem dX0_setCookie_21 : decode cX0_setCookie 21 = .ok (.aload_n 0, 1) := by decide +kernel
theorem dX0_setCookie_22 : decode cX0_setCookie 22 = .ok (.getfield 16, 3) := by decide +kernel
theorem dX0_setCookie_25 : decode cX0_setCookie 25 = .ok (.iload_n 1, 1) := by decide +kernel
theorem dX0_setCookie_26 : decode cX0_setCookie 26 = .ok (.iload_n 2, 1) := by decide +kernel
theorem dX0_setCookie_27 : decode cX0_setCookie 27 = .ok (.iastore, 1) := by decide +kernel
theorem dX0_setCookie_28 : decode cX0_setCookie 28 = .ok (.iload_n 3, 1) := by decide +kernel
theorem dX0_setCookie_29 : decode cX0_setCookie 29 = .ok (.ireturn, 1) := by decide +kernel
theorem dX0_moveTask_0 : decode cX0_moveTask 0 = .ok (.aload_n 0, 1) := by decide +kernel
theorem dX0_moveTask_1 : decode cX0_moveTask 1 = .ok (.iload_n 1, 1) := by decide +kernel
theorem dX0_moveTask_2 : decode cX0_moveTask 2 = .ok (.invokevirtual 96, 3) := by decide +kernel
theorem dX0_moveTask_5 : decode cX0_moveTask 5 = .ok (.aload_n 0, 1) := by decide +kernel
theorem dX0_moveTask_6 : decode cX0_moveTask 6 = .ok (.iload_n 2, 1) := by decide +kernel
theorem dX0_moveTask_7 : decode cX0_moveTask 7 = .ok (.invokevirtual 76, 3) := by decide +kernel
theorem dX0_moveTask_10 : decode cX0_moveTask 10 = .ok (.aload_n 0, 1) := by decide +kernel
theorem dX0_moveTask_11 : decode cX0_moveTask 11 = .ok (.iload_n 1, 1) := by decide +kernel
theorem dX0_moveTask_12 : decode cX0_moveTask 12 = .ok (.invokevirtual 111, 3) := by decide +kernel
theorem dX0_moveTask_15 : decode cX0_moveTask 15 = .ok (.aload_n 0, 1) := by decide +kernel
theorem dX0_moveTask_16 : decode cX0_moveTask 16 = .ok (.getfield 19, 3) := by decide +kernel
theorem dX0_moveTask_19 : decode cX0_moveTask 19 = .ok (.iload_n 1, 1) := by decide +kernel
theorem dX0_moveTask_20 : decode cX0_moveTask 20 = .ok (.iaload, 1) := by decide +kernel
theorem dX0_moveTask_21 : decode cX0_moveTask 21 = .ok (.iconst 1, 1) := by decide +kernel
theorem dX0_moveTask_22 : decode cX0_moveTask 22 = .ok (.if_icmp .ne 13, 3) := by decide +kernel
theorem dX0_moveTask_25 : decode cX0_moveTask 25 = .ok (.new 88, 3) := by decide +kernel
theorem dX0_moveTask_28 : decode cX0_moveTask 28 = .ok (.dup, 1) := by decide +kernel
theorem dX0_moveTask_29 : decode cX0_moveTask 29 = .ok (.ldc 114, 2) := by decide +kernel
theorem dX0_moveTask_31 : decode cX0_moveTask 31 = .ok (.invokespecial 92, 3) := by decide +kernel
theorem dX0_moveTask_34 : decode cX0_moveTask 34 = .ok (.athrow, 1) := by decide +kernel
theorem dX0_moveTask_35 : decode cX0_moveTask 35 = .ok (.aload_n 0, 1) := by decide +kernel
theorem dX0_moveTask_36 : decode cX0_moveTask 36 = .ok (.getfield 9, 3) := by decide +kernel
theorem dX0_moveTask_39 : decode cX0_moveTask 39 = .ok (.iload_n 1, 1) := by decide +kernel
theorem dX0_moveTask_40 : decode cX0_moveTask 40 = .ok (.iaload, 1) := by decide +kernel
theorem dX0_moveTask_41 : decode cX0_moveTask 41 = .ok (.istore_n 3, 1) := by decide +kernel
theorem dX0_moveTask_42 : decode cX0_moveTask 42 = .ok (.aload_n 0, 1) := by decide +kernel
theorem dX0_moveTask_43 : decode cX0_moveTask 43 = .ok (.getfield 19, 3) := by decide +kernel
theorem dX0_moveTask_46 : decode cX0_moveTask 46 = .ok (.iload_n 1, 1) := by decide +kernel
theorem dX0_moveTask_47 : decode cX0_moveTask 47 = .ok (.iaload, 1) := by decide +kernel
theorem dX0_moveTask_48 : decode cX0_moveTask 48 = .ok (.ifCond .ne 12, 3) := by decide +kernel
theorem dX0_moveTask_51 : decode cX0_moveTask 51 = .ok (.aload_n 0, 1) := by decide +kernel
theorem dX0_moveTask_52 : decode cX0_moveTask 52 = .ok (.iload_n 1, 1) := by decide +kernel
theorem dX0_moveTask_53 : decode cX0_moveTask 53 = .ok (.iload_n 2, 1) := by decide +kernel
theorem dX0_moveTask_54 : decode cX0_moveTask 54 = .ok (.invokevirtual 116, 3) := by decide +kernel
theorem dX0_moveTask_57 : decode cX0_moveTask 57 = .ok (.goto 10, 3) := by decide +kernel
theorem dX0_moveTask_60 : decode cX0_moveTask 60 = .ok (.aload_n 0, 1) := by decide +kernel
theorem dX0_moveTask_61 : decode cX0_moveTask 61 = .ok (.getfield 9, 3) := by decide +kernel
theorem dX0_moveTask_64 : decode cX0_moveTask 64 = .ok (.iload_n 1, 1) := by decide +kernel
theorem dX0_moveTask_65 : decode cX0_moveTask 65 = .ok (.iload_n 2, 1) := by decide +kernel
theorem dX0_moveTask_66 : decode cX0_moveTask 66 = .ok (.iastore, 1) := by decide +kernel
theorem dX0_moveTask_67 : decode cX0_moveTask 67 = .ok (.iload_n 3, 1) := by decide +kernel
theorem dX0_moveTask_68 : decode cX0_moveTask 68 = .ok (.ireturn, 1) := by decide +kernel
theorem dX0_taskCount_0 : decode cX0_taskCount 0 = .ok (.aload_n 0, 1) := by decide +kernel
theorem dX0_taskCount_1 : decode cX0_taskCount 1 = .ok (.getfield 85, 3) := by decide +kernel
theorem dX0_taskCount_4 : decode cX0_taskCount 4 = .ok (.ireturn, 1) := by decide +kernel
theorem dX0_stateOf_0 : decode cX0_stateOf 0 = .ok (.aload_n 0, 1) := by decide +kernel
theorem dX0_stateOf_1 : decode cX0_stateOf 1 = .ok (.iload_n 1, 1) := by decide +kernel
theorem dX0_stateOf_2 : decode cX0_stateOf 2 = .ok (.invokevirtual 96, 3) := by decide +kernel
theorem dX0_stateOf_5 : decode cX0_stateOf 5 = .ok (.aload_n 0, 1) := by decide +kernel
theorem dX0_stateOf_6 : decode cX0_stateOf 6 = .ok (.getfield 19, 3) := by decide +kernel
theorem dX0_stateOf_9 : decode cX0_stateOf 9 = .ok (.iload_n 1, 1) := by decide +kernel
theorem dX0_stateOf_10 : decode cX0_stateOf 10 = .ok (.iaload, 1) := by decide +kernel
theorem dX0_stateOf_11 : decode cX0_stateOf 11 = .ok (.ireturn, 1) := by decide +kernel
theorem dX0_cpuOf_0 : decode cX0_cpuOf 0 = .ok (.aload_n 0, 1) := by decide +kernel
theorem dX0_cpuOf_1 : decode cX0_cpuOf 1 = .ok (.iload_n 1, 1) := by decide +kernel
theorem dX0_cpuOf_2 : decode cX0_cpuOf 2 = .ok (.invokevirtual 96, 3) := by decide +kernel
theorem dX0_cpuOf_5 : decode cX0_cpuOf 5 = .ok (.aload_n 0, 1) := by decide +kernel
theorem dX0_cpuOf_6 : decode cX0_cpuOf 6 = .ok (.getfield 9, 3) := by decide +kernel
theorem dX0_cpuOf_9 : decode cX0_cpuOf 9 = .ok (.iload_n 1, 1) := by decide +kernel
theorem dX0_cpuOf_10 : decode cX0_cpuOf 10 = .ok (.iaload, 1) := by decide +kernel
theorem dX0_cpuOf_11 : decode cX0_cpuOf 11 = .ok (.ireturn, 1) := by decide +kernel
theorem dX0_virtualTime_0 : decode cX0_virtualTime 0 = .ok (.aload_n 0, 1) := by decide +kernel
theorem dX0_virtualTime_1 : decode cX0_virtualTime 1 = .ok (.iload_n 1, 1) := by decide +kernel
theorem dX0_virtualTime_2 : decode cX0_virtualTime 2 = .ok (.invokevirtual 96, 3) := by decide +kernel
theorem dX0_virtualTime_5 : decode cX0_virtualTime 5 = .ok (.aload_n 0, 1) := by decide +kernel
theorem dX0_virtualTime_6 : decode cX0_virtualTime 6 = .ok (.getfield 22, 3) := by decide +kernel
theorem dX0_virtualTime_9 : decode cX0_virtualTime 9 = .ok (.iload_n 1, 1) := by decide +kernel
theorem dX0_virtualTime_10 : decode cX0_virtualTime 10 = .ok (.laload, 1) := by decide +kernel
theorem dX0_virtualTime_11 : decode cX0_virtualTime 11 = .ok (.lreturn, 1) := by decide +kernel
theorem dX0_runTicks_0 : decode cX0_runTicks 0 = .ok (.aload_n 0, 1) := by decide +kernel
theorem dX0_runTicks_1 : decode cX0_runTicks 1 = .ok (.iload_n 1, 1) := by decide +kernel
theorem dX0_runTicks_2 : decode cX0_runTicks 2 = .ok (.invokevirtual 96, 3) := by decide +kernel
theorem dX0_runTicks_5 : decode cX0_runTicks 5 = .ok (.aload_n 0, 1) := by decide +kernel
theorem dX0_runTicks_6 : decode cX0_runTicks 6 = .ok (.getfield 26, 3) := by decide +kernel
theorem dX0_runTicks_9 : decode cX0_runTicks 9 = .ok (.iload_n 1, 1) := by decide +kernel
theorem dX0_runTicks_10 : decode cX0_runTicks 10 = .ok (.iaload, 1) := by decide +kernel
theorem dX0_runTicks_11 : decode cX0_runTicks 11 = .ok (.ireturn, 1) := by decide +kernel
theorem dX0_waitTicks_0 : decode cX0_waitTicks 0 = .ok (.aload_n 0, 1) := by decide +kernel
theorem dX0_waitTicks_1 : decode cX0_waitTicks 1 = .ok (.iload_n 1, 1) := by decide +kernel
theorem dX0_waitTicks_2 : decode cX0_waitTicks 2 = .ok (.invokevirtual 96, 3) := by decide +kernel
theorem dX0_waitTicks_5 : decode cX0_waitTicks 5 = .ok (.aload_n 0, 1) := by decide +kernel
theorem dX0_waitTicks_6 : decode cX0_waitTicks 6 = .ok (.getfield 29, 3) := by decide +kernel
theorem dX0_waitTicks_9 : decode cX0_waitTicks 9 = .ok (.iload_n 1, 1) := by decide +kernel
theorem dX0_waitTicks_10 : decode cX0_waitTicks 10 = .ok (.iaload, 1) := by decide +kernel
theorem dX0_waitTicks_11 : decode cX0_waitTicks 11 = .ok (.ireturn, 1) := by decide +kernel
theorem dX0_share_0 : decode cX0_share 0 = .ok (.aload_n 0, 1) := by decide +kernel
theorem dX0_share_1 : decode cX0_share 1 = .ok (.iload_n 1, 1) := by decide +kernel
theorem dX0_share_2 : decode cX0_share 2 = .ok (.invokevirtual 96, 3) := by decide +kernel
theorem dX0_share_5 : decode cX0_share 5 = .ok (.aload_n 0, 1) := by decide +kernel
theorem dX0_share_6 : decode cX0_share 6 = .ok (.getfield 26, 3) := by decide +kernel
theorem dX0_share_9 : decode cX0_share 9 = .ok (.iload_n 1, 1) := by decide +kernel
theorem dX0_share_10 : decode cX0_share 10 = .ok (.iaload, 1) := by decide +kernel
theorem dX0_share_11 : decode cX0_share 11 = .ok (.i2d, 1) := by decide +kernel
theorem dX0_share_12 : decode cX0_share 12 = .ok (.dstore_n 2, 1) := by decide +kernel
theorem dX0_share_13 : decode cX0_share 13 = .ok (.dload_n 2, 1) := by decide +kernel
theorem dX0_share_14 : decode cX0_share 14 = .ok (.aload_n 0, 1) := by decide +kernel
theorem dX0_share_15 : decode cX0_share 15 = .ok (.getfield 29, 3) := by decide +kernel
theorem dX0_share_18 : decode cX0_share 18 = .ok (.iload_n 1, 1) := by decide +kernel
theorem dX0_share_19 : decode cX0_share 19 = .ok (.iaload, 1) := by decide +kernel
theorem dX0_share_20 : decode cX0_share 20 = .ok (.i2d, 1) := by decide +kernel
theorem dX0_share_21 : decode cX0_share 21 = .ok (.dadd, 1) := by decide +kernel
theorem dX0_share_22 : decode cX0_share 22 = .ok (.dstore 4, 2) := by decide +kernel
theorem dX0_share_24 : decode cX0_share 24 = .ok (.dload 4, 2) := by decide +kernel
theorem dX0_share_26 : decode cX0_share 26 = .ok (.dconst 0, 1) := by decide +kernel
theorem dX0_share_27 : decode cX0_share 27 = .ok (.dcmp .l, 1) := by decide +kernel
theorem dX0_share_28 : decode cX0_share 28 = .ok (.ifCond .le 10, 3) := by decide +kernel
theorem dX0_share_31 : decode cX0_share 31 = .ok (.dload_n 2, 1) := by decide +kernel
theorem dX0_share_32 : decode cX0_share 32 = .ok (.dload 4, 2) := by decide +kernel
theorem dX0_share_34 : decode cX0_share 34 = .ok (.ddiv, 1) := by decide +kernel
theorem dX0_share_35 : decode cX0_share 35 = .ok (.goto 4, 3) := by decide +kernel
theorem dX0_share_38 : decode cX0_share 38 = .ok (.dconst 0, 1) := by decide +kernel
theorem dX0_share_39 : decode cX0_share 39 = .ok (.dreturn, 1) := by decide +kernel
theorem dX0_runningTask_0 : decode cX0_runningTask 0 = .ok (.aload_n 0, 1) := by decide +kernel
theorem dX0_runningTask_1 : decode cX0_runningTask 1 = .ok (.iload_n 1, 1) := by decide +kernel
theorem dX0_runningTask_2 : decode cX0_runningTask 2 = .ok (.invokevirtual 76, 3) := by decide +kernel
theorem dX0_runningTask_5 : decode cX0_runningTask 5 = .ok (.aload_n 0, 1) := by decide +kernel
theorem dX0_runningTask_6 : decode cX0_runningTask 6 = .ok (.getfield 35, 3) := by decide +kernel
theorem dX0_runningTask_9 : decode cX0_runningTask 9 = .ok (.iload_n 1, 1) := by decide +kernel
theorem dX0_runningTask_10 : decode cX0_runningTask 10 = .ok (.iaload, 1) := by decide +kernel
theorem dX0_runningTask_11 : decode cX0_runningTask 11 = .ok (.ireturn, 1) := by decide +kernel
theorem dX0_coreCookie_0 : decode cX0_coreCookie 0 = .ok (.aload_n 0, 1) := by decide +kernel
theorem dX0_coreCookie_1 : decode cX0_coreCookie 1 = .ok (.iload_n 1, 1) := by decide +kernel
theorem dX0_coreCookie_2 : decode cX0_coreCookie 2 = .ok (.invokevirtual 120, 3) := by decide +kernel
theorem dX0_coreCookie_5 : decode cX0_coreCookie 5 = .ok (.aload_n 0, 1) := by decide +kernel
theorem dX0_coreCookie_6 : decode cX0_coreCookie 6 = .ok (.getfield 48, 3) := by decide +kernel
theorem dX0_coreCookie_9 : decode cX0_coreCookie 9 = .ok (.iload_n 1, 1) := by decide +kernel
theorem dX0_coreCookie_10 : decode cX0_coreCookie 10 = .ok (.iaload, 1) := by decide +kernel
theorem dX0_coreCookie_11 : decode cX0_coreCookie 11 = .ok (.ireturn, 1) := by decide +kernel
theorem dX0_leaderOf_0 : decode cX0_leaderOf 0 = .ok (.aload_n 0, 1) := by decide +kernel
theorem dX0_leaderOf_1 : decode cX0_leaderOf 1 = .ok (.iload_n 1, 1) := by decide +kernel
theorem dX0_leaderOf_2 : decode cX0_leaderOf 2 = .ok (.invokevirtual 120, 3) := by decide +kernel
theorem dX0_leaderOf_5 : decode cX0_leaderOf 5 = .ok (.aload_n 0, 1) := by decide +kernel
theorem dX0_leaderOf_6 : decode cX0_leaderOf 6 = .ok (.iload_n 1, 1) := by decide +kernel
theorem dX0_leaderOf_7 : decode cX0_leaderOf 7 = .ok (.invokevirtual 123, 3) := by decide +kernel
theorem dX0_leaderOf_10 : decode cX0_leaderOf 10 = .ok (.ireturn, 1) := by decide +kernel
theorem dX0_queueLength_0 : decode cX0_queueLength 0 = .ok (.aload_n 0, 1) := by decide +kernel
theorem dX0_queueLength_1 : decode cX0_queueLength 1 = .ok (.iload_n 1, 1) := by decide +kernel
theorem dX0_queueLength_2 : decode cX0_queueLength 2 = .ok (.invokevirtual 76, 3) := by decide +kernel
theorem dX0_queueLength_5 : decode cX0_queueLength 5 = .ok (.aload_n 0, 1) := by decide +kernel
theorem dX0_queueLength_6 : decode cX0_queueLength 6 = .ok (.iload_n 1, 1) := by decide +kernel
theorem dX0_queueLength_7 : decode cX0_queueLength 7 = .ok (.invokevirtual 127, 3) := by decide +kernel
theorem dX0_queueLength_10 : decode cX0_queueLength 10 = .ok (.ireturn, 1) := by decide +kernel
theorem dX0_queuedTask_0 : decode cX0_queuedTask 0 = .ok (.aload_n 0, 1) := by decide +kernel
theorem dX0_queuedTask_1 : decode cX0_queuedTask 1 = .ok (.iload_n 1, 1) := by decide +kernel
theorem dX0_queuedTask_2 : decode cX0_queuedTask 2 = .ok (.invokevirtual 76, 3) := by decide +kernel
theorem dX0_queuedTask_5 : decode cX0_queuedTask 5 = .ok (.iconst 0, 1) := by decide +kernel
theorem dX0_queuedTask_6 : decode cX0_queuedTask 6 = .ok (.istore_n 3, 1) := by decide +kernel
theorem dX0_queuedTask_7 : decode cX0_queuedTask 7 = .ok (.iload_n 3, 1) := by decide +kernel
theorem dX0_queuedTask_8 : decode cX0_queuedTask 8 = .ok (.aload_n 0, 1) := by decide +kernel
theorem dX0_queuedTask_9 : decode cX0_queuedTask 9 = .ok (.getfield 85, 3) := by decide +kernel
theorem dX0_queuedTask_12 : decode cX0_queuedTask 12 = .ok (.if_icmp .ge 29, 3) := by decide +kernel
theorem dX0_queuedTask_15 : decode cX0_queuedTask 15 = .ok (.aload_n 0, 1) := by decide +kernel
theorem dX0_queuedTask_16 : decode cX0_queuedTask 16 = .ok (.iload_n 3, 1) := by decide +kernel
theorem dX0_queuedTask_17 : decode cX0_queuedTask 17 = .ok (.iload_n 1, 1) := by decide +kernel
theorem dX0_queuedTask_18 : decode cX0_queuedTask 18 = .ok (.invokevirtual 130, 3) := by decide +kernel
theorem dX0_queuedTask_21 : decode cX0_queuedTask 21 = .ok (.ifCond .eq 14, 3) := by decide +kernel
theorem dX0_queuedTask_24 : decode cX0_queuedTask 24 = .ok (.aload_n 0, 1) := by decide +kernel
theorem dX0_queuedTask_25 : decode cX0_queuedTask 25 = .ok (.iload_n 3, 1) := by decide +kernel
theorem dX0_queuedTask_26 : decode cX0_queuedTask 26 = .ok (.invokevirtual 134, 3) := by decide +kernel
theorem dX0_queuedTask_29 : decode cX0_queuedTask 29 = .ok (.iload_n 2, 1) := by decide +kernel
theorem dX0_queuedTask_30 : decode cX0_queuedTask 30 = .ok (.if_icmp .ne 5, 3) := by decide +kernel
theorem dX0_queuedTask_33 : decode cX0_queuedTask 33 = .ok (.iload_n 3, 1) := by decide +kernel
theorem dX0_queuedTask_34 : decode cX0_queuedTask 34 = .ok (.ireturn, 1) := by decide +kernel
theorem dX0_queuedTask_35 : decode cX0_queuedTask 35 = .ok (.iinc 3 1, 3) := by decide +kernel
theorem dX0_queuedTask_38 : decode cX0_queuedTask 38 = .ok (.goto (-31), 3) := by decide +kernel
theorem dX0_queuedTask_41 : decode cX0_queuedTask 41 = .ok (.new 137, 3) := by decide +kernel
theorem dX0_queuedTask_44 : decode cX0_queuedTask 44 = .ok (.dup, 1) := by decide +kernel
theorem dX0_queuedTask_45 : decode cX0_queuedTask 45 = .ok (.ldc 139, 2) := by decide +kernel
theorem dX0_queuedTask_47 : decode cX0_queuedTask 47 = .ok (.invokespecial 141, 3) := by decide +kernel
theorem dX0_queuedTask_50 : decode cX0_queuedTask 50 = .ok (.athrow, 1) := by decide +kernel
theorem dX0_baseOf_0 : decode cX0_baseOf 0 = .ok (.aload_n 0, 1) := by decide +kernel
theorem dX0_baseOf_1 : decode cX0_baseOf 1 = .ok (.iload_n 1, 1) := by decide +kernel
theorem dX0_baseOf_2 : decode cX0_baseOf 2 = .ok (.invokevirtual 76, 3) := by decide +kernel
theorem dX0_baseOf_5 : decode cX0_baseOf 5 = .ok (.aload_n 0, 1) := by decide +kernel
theorem dX0_baseOf_6 : decode cX0_baseOf 6 = .ok (.getfield 32, 3) := by decide +kernel
theorem dX0_baseOf_9 : decode cX0_baseOf 9 = .ok (.iload_n 1, 1) := by decide +kernel
theorem dX0_baseOf_10 : decode cX0_baseOf 10 = .ok (.laload, 1) := by decide +kernel
theorem dX0_baseOf_11 : decode cX0_baseOf 11 = .ok (.lreturn, 1) := by decide +kernel
theorem dX0_idleTicks_0 : decode cX0_idleTicks 0 = .ok (.aload_n 0, 1) := by decide +kernel
theorem dX0_idleTicks_1 : decode cX0_idleTicks 1 = .ok (.iload_n 1, 1) := by decide +kernel
theorem dX0_idleTicks_2 : decode cX0_idleTicks 2 = .ok (.invokevirtual 76, 3) := by decide +kernel
theorem dX0_idleTicks_5 : decode cX0_idleTicks 5 = .ok (.aload_n 0, 1) := by decide +kernel
theorem dX0_idleTicks_6 : decode cX0_idleTicks 6 = .ok (.getfield 42, 3) := by decide +kernel
theorem dX0_idleTicks_9 : decode cX0_idleTicks 9 = .ok (.iload_n 1, 1) := by decide +kernel
theorem dX0_idleTicks_10 : decode cX0_idleTicks 10 = .ok (.iaload, 1) := by decide +kernel
theorem dX0_idleTicks_11 : decode cX0_idleTicks 11 = .ok (.ireturn, 1) := by decide +kernel
theorem dX0_forcedIdleTicks_0 : decode cX0_forcedIdleTicks 0 = .ok (.aload_n 0, 1) := by decide +kernel
theorem dX0_forcedIdleTicks_1 : decode cX0_forcedIdleTicks 1 = .ok (.iload_n 1, 1) := by decide +kernel
theorem dX0_forcedIdleTicks_2 : decode cX0_forcedIdleTicks 2 = .ok (.invokevirtual 76, 3) := by decide +kernel
theorem dX0_forcedIdleTicks_5 : decode cX0_forcedIdleTicks 5 = .ok (.aload_n 0, 1) := by decide +kernel
theorem dX0_forcedIdleTicks_6 : decode cX0_forcedIdleTicks 6 = .ok (.getfield 45, 3) := by decide +kernel
theorem dX0_forcedIdleTicks_9 : decode cX0_forcedIdleTicks 9 = .ok (.iload_n 1, 1) := by decide +kernel
theorem dX0_forcedIdleTicks_10 : decode cX0_forcedIdleTicks 10 = .ok (.iaload, 1) := by decide +kernel
theorem dX0_forcedIdleTicks_11 : decode cX0_forcedIdleTicks 11 = .ok (.ireturn, 1) := by decide +kernel
theorem dX0_stolenTasks_0 : decode cX0_stolenTasks 0 = .ok (.aload_n 0, 1) := by decide +kernel
theorem dX0_stolenTasks_1 : decode cX0_stolenTasks 1 = .ok (.getfield 142, 3) := by decide +kernel
theorem dX0_stolenTasks_4 : decode cX0_stolenTasks 4 = .ok (.ireturn, 1) := by decide +kernel
theorem dX0_checkTask_0 : decode cX0_checkTask 0 = .ok (.iload_n 1, 1) := by decide +kernel
theorem dX0_checkTask_1 : decode cX0_checkTask 1 = .ok (.ifCond .lt 11, 3) := by decide +kernel
theorem dX0_checkTask_4 : decode cX0_checkTask 4 = .ok (.iload_n 1, 1) := by decide +kernel
theorem dX0_checkTask_5 : decode cX0_checkTask 5 = .ok (.aload_n 0, 1) := by decide +kernel
theorem dX0_checkTask_6 : decode cX0_checkTask 6 = .ok (.getfield 85, 3) := by decide +kernel
theorem dX0_checkTask_9 : decode cX0_checkTask 9 = .ok (.if_icmp .lt 13, 3) := by decide +kernel
theorem dX0_checkTask_12 : decode cX0_checkTask 12 = .ok (.new 55, 3) := by decide +kernel
theorem dX0_checkTask_15 : decode cX0_checkTask 15 = .ok (.dup, 1) := by decide +kernel
theorem dX0_checkTask_16 : decode cX0_checkTask 16 = .ok (.ldc 145, 2) := by decide +kernel
theorem dX0_checkTask_18 : decode cX0_checkTask 18 = .ok (.invokespecial 59, 3) := by decide +kernel
theorem dX0_checkTask_21 : decode cX0_checkTask 21 = .ok (.athrow, 1) := by decide +kernel
theorem dX0_checkTask_22 : decode cX0_checkTask 22 = .ok (.return_, 1) := by decide +kernel
theorem dX0_checkCpu_0 : decode cX0_checkCpu 0 = .ok (.iload_n 1, 1) := by decide +kernel
theorem dX0_checkCpu_1 : decode cX0_checkCpu 1 = .ok (.ifCond .lt 11, 3) := by decide +kernel
theorem dX0_checkCpu_4 : decode cX0_checkCpu 4 = .ok (.iload_n 1, 1) := by decide +kernel
theorem dX0_checkCpu_5 : decode cX0_checkCpu 5 = .ok (.aload_n 0, 1) := by decide +kernel
theorem dX0_checkCpu_6 : decode cX0_checkCpu 6 = .ok (.invokevirtual 147, 3) := by decide +kernel
theorem dX0_checkCpu_9 : decode cX0_checkCpu 9 = .ok (.if_icmp .lt 13, 3) := by decide +kernel
theorem dX0_checkCpu_12 : decode cX0_checkCpu 12 = .ok (.new 55, 3) := by decide +kernel
theorem dX0_checkCpu_15 : decode cX0_checkCpu 15 = .ok (.dup, 1) := by decide +kernel
theorem dX0_checkCpu_16 : decode cX0_checkCpu 16 = .ok (.ldc 150, 2) := by decide +kernel
theorem dX0_checkCpu_18 : decode cX0_checkCpu 18 = .ok (.invokespecial 59, 3) := by decide +kernel
theorem dX0_checkCpu_21 : decode cX0_checkCpu 21 = .ok (.athrow, 1) := by decide +kernel
theorem dX0_checkCpu_22 : decode cX0_checkCpu 22 = .ok (.return_, 1) := by decide +kernel
theorem dX0_checkCore_0 : decode cX0_checkCore 0 = .ok (.iload_n 1, 1) := by decide +kernel
theorem dX0_checkCore_1 : decode cX0_checkCore 1 = .ok (.ifCond .lt 11, 3) := by decide +kernel
theorem dX0_checkCore_4 : decode cX0_checkCore 4 = .ok (.iload_n 1, 1) := by decide +kernel
theorem dX0_checkCore_5 : decode cX0_checkCore 5 = .ok (.aload_n 0, 1) := by decide +kernel
theorem dX0_checkCore_6 : decode cX0_checkCore 6 = .ok (.getfield 62, 3) := by decide +kernel
theorem dX0_checkCore_9 : decode cX0_checkCore 9 = .ok (.if_icmp .lt 13, 3) := by decide +kernel
theorem dX0_checkCore_12 : decode cX0_checkCore 12 = .ok (.new 55, 3) := by decide +kernel
theorem dX0_checkCore_15 : decode cX0_checkCore 15 = .ok (.dup, 1) := by decide +kernel
theorem dX0_checkCore_16 : decode cX0_checkCore 16 = .ok (.ldc 152, 2) := by decide +kernel
theorem dX0_checkCore_18 : decode cX0_checkCore 18 = .ok (.invokespecial 59, 3) := by decide +kernel
theorem dX0_checkCore_21 : decode cX0_checkCore 21 = .ok (.athrow, 1) := by decide +kernel
theorem dX0_checkCore_22 : decode cX0_checkCore 22 = .ok (.return_, 1) := by decide +kernel
theorem dX0_checkWeight_0 : decode cX0_checkWeight 0 = .ok (.iload_n 0, 1) := by decide +kernel
theorem dX0_checkWeight_1 : decode cX0_checkWeight 1 = .ok (.iconst 1, 1) := by decide +kernel
theorem dX0_checkWeight_2 : decode cX0_checkWeight 2 = .ok (.if_icmp .lt 9, 3) := by decide +kernel
theorem dX0_checkWeight_5 : decode cX0_checkWeight 5 = .ok (.iload_n 0, 1) := by decide +kernel
theorem dX0_checkWeight_6 : decode cX0_checkWeight 6 = .ok (.bipush 64, 2) := by decide +kernel
theorem dX0_checkWeight_8 : decode cX0_checkWeight 8 = .ok (.if_icmp .le 13, 3) := by decide +kernel
theorem dX0_checkWeight_11 : decode cX0_checkWeight 11 = .ok (.new 55, 3) := by decide +kernel
theorem dX0_checkWeight_14 : decode cX0_checkWeight 14 = .ok (.dup, 1) := by decide +kernel
theorem dX0_checkWeight_15 : decode cX0_checkWeight 15 = .ok (.ldc 154, 2) := by decide +kernel
theorem dX0_checkWeight_17 : decode cX0_checkWeight 17 = .ok (.invokespecial 59, 3) := by decide +kernel
theorem dX0_checkWeight_20 : decode cX0_checkWeight 20 = .ok (.athrow, 1) := by decide +kernel
theorem dX0_checkWeight_21 : decode cX0_checkWeight 21 = .ok (.return_, 1) := by decide +kernel
theorem dX0_checkCookie_0 : decode cX0_checkCookie 0 = .ok (.iload_n 0, 1) := by decide +kernel
theorem dX0_checkCookie_1 : decode cX0_checkCookie 1 = .ok (.ifCond .lt 9, 3) := by decide +kernel
theorem dX0_checkCookie_4 : decode cX0_checkCookie 4 = .ok (.iload_n 0, 1) := by decide +kernel
theorem dX0_checkCookie_5 : decode cX0_checkCookie 5 = .ok (.bipush 9, 2) := by decide +kernel
theorem dX0_checkCookie_7 : decode cX0_checkCookie 7 = .ok (.if_icmp .le 13, 3) := by decide +kernel
theorem dX0_checkCookie_10 : decode cX0_checkCookie 10 = .ok (.new 55, 3) := by decide +kernel
theorem dX0_checkCookie_13 : decode cX0_checkCookie 13 = .ok (.dup, 1) := by decide +kernel
theorem dX0_checkCookie_14 : decode cX0_checkCookie 14 = .ok (.ldc 156, 2) := by decide +kernel
theorem dX0_checkCookie_16 : decode cX0_checkCookie 16 = .ok (.invokespecial 59, 3) := by decide +kernel
theorem dX0_checkCookie_19 : decode cX0_checkCookie 19 = .ok (.athrow, 1) := by decide +kernel
theorem dX0_checkCookie_20 : decode cX0_checkCookie 20 = .ok (.return_, 1) := by decide +kernel
theorem dX0_checkNotExited_0 : decode cX0_checkNotExited 0 = .ok (.aload_n 0, 1) := by decide +kernel
theorem dX0_checkNotExited_1 : decode cX0_checkNotExited 1 = .ok (.getfield 19, 3) := by decide +kernel
theorem dX0_checkNotExited_4 : decode cX0_checkNotExited 4 = .ok (.iload_n 1, 1) := by decide +kernel
theorem dX0_checkNotExited_5 : decode cX0_checkNotExited 5 = .ok (.iaload, 1) := by decide +kernel
theorem dX0_checkNotExited_6 : decode cX0_checkNotExited 6 = .ok (.iconst 3, 1) := by decide +kernel
theorem dX0_checkNotExited_7 : decode cX0_checkNotExited 7 = .ok (.if_icmp .ne 13, 3) := by decide +kernel
theorem dX0_checkNotExited_10 : decode cX0_checkNotExited 10 = .ok (.new 88, 3) := by decide +kernel
theorem dX0_checkNotExited_13 : decode cX0_checkNotExited 13 = .ok (.dup, 1) := by decide +kernel
theorem dX0_checkNotExited_14 : decode cX0_checkNotExited 14 = .ok (.ldc 158, 2) := by decide +kernel
theorem dX0_checkNotExited_16 : decode cX0_checkNotExited 16 = .ok (.invokespecial 92, 3) := by decide +kernel
theorem dX0_checkNotExited_19 : decode cX0_checkNotExited 19 = .ok (.athrow, 1) := by decide +kernel
theorem dX0_checkNotExited_20 : decode cX0_checkNotExited 20 = .ok (.return_, 1) := by decide +kernel
theorem dX0_startAnew_0 : decode cX0_startAnew 0 = .ok (.aload_n 0, 1) := by decide +kernel
theorem dX0_startAnew_1 : decode cX0_startAnew 1 = .ok (.iload_n 1, 1) := by decide +kernel
theorem dX0_startAnew_2 : decode cX0_startAnew 2 = .ok (.putfield 62, 3) := by decide +kernel
theorem dX0_startAnew_5 : decode cX0_startAnew 5 = .ok (.aload_n 0, 1) := by decide +kernel
theorem dX0_startAnew_6 : decode cX0_startAnew 6 = .ok (.iconst 0, 1) := by decide +kernel
theorem dX0_startAnew_7 : decode cX0_startAnew 7 = .ok (.putfield 85, 3) := by decide +kernel
theorem dX0_startAnew_10 : decode cX0_startAnew 10 = .ok (.aload_n 0, 1) := by decide +kernel
theorem dX0_startAnew_11 : decode cX0_startAnew 11 = .ok (.iconst 0, 1) := by decide +kernel
theorem dX0_startAnew_12 : decode cX0_startAnew 12 = .ok (.putfield 142, 3) := by decide +kernel
theorem dX0_startAnew_15 : decode cX0_startAnew 15 = .ok (.aload_n 0, 1) := by decide +kernel
theorem dX0_startAnew_16 : decode cX0_startAnew 16 = .ok (.iconst 0, 1) := by decide +kernel
theorem dX0_startAnew_17 : decode cX0_startAnew 17 = .ok (.putfield 66, 3) := by decide +kernel
theorem dX0_startAnew_20 : decode cX0_startAnew 20 = .ok (.iconst 0, 1) := by decide +kernel
theorem dX0_startAnew_21 : decode cX0_startAnew 21 = .ok (.istore_n 2, 1) := by decide +kernel
theorem dX0_startAnew_22 : decode cX0_startAnew 22 = .ok (.iload_n 2, 1) := by decide +kernel
theorem dX0_startAnew_23 : decode cX0_startAnew 23 = .ok (.bipush 8, 2) := by decide +kernel
theorem dX0_startAnew_25 : decode cX0_startAnew 25 = .ok (.if_icmp .ge 44, 3) := by decide +kernel
theorem dX0_startAnew_28 : decode cX0_startAnew 28 = .ok (.aload_n 0, 1) := by decide +kernel
theorem dX0_startAnew_29 : decode cX0_startAnew 29 = .ok (.getfield 32, 3) := by decide +kernel
theorem dX0_startAnew_32 : decode cX0_startAnew 32 = .ok (.iload_n 2, 1) := by decide +kernel
theorem dX0_startAnew_33 : decode cX0_startAnew 33 = .ok (.lconst 0, 1) := by decide +kernel
theorem dX0_startAnew_34 : decode cX0_startAnew 34 = .ok (.lastore, 1) := by decide +kernel
theorem dX0_startAnew_35 : decode cX0_startAnew 35 = .ok (.aload_n 0, 1) := by decide +kernel
theorem dX0_startAnew_36 : decode cX0_startAnew 36 = .ok (.getfield 35, 3) := by decide +kernel
theorem dX0_startAnew_39 : decode cX0_startAnew 39 = .ok (.iload_n 2, 1) := by decide +kernel
theorem dX0_startAnew_40 : decode cX0_startAnew 40 = .ok (.iconst (-1), 1) := by decide +kernel
theorem dX0_startAnew_41 : decode cX0_startAnew 41 = .ok (.iastore, 1) := by decide +kernel
theorem dX0_startAnew_42 : decode cX0_startAnew 42 = .ok (.aload_n 0, 1) := by decide +kernel
theorem dX0_startAnew_43 : decode cX0_startAnew 43 = .ok (.getfield 38, 3) := by decide +kernel
theorem dX0_startAnew_46 : decode cX0_startAnew 46 = .ok (.iload_n 2, 1) := by decide +kernel
theorem dX0_startAnew_47 : decode cX0_startAnew 47 = .ok (.iconst 0, 1) := by decide +kernel
theorem dX0_startAnew_48 : decode cX0_startAnew 48 = .ok (.bastore, 1) := by decide +kernel
theorem dX0_startAnew_49 : decode cX0_startAnew 49 = .ok (.aload_n 0, 1) := by decide +kernel
theorem dX0_startAnew_50 : decode cX0_startAnew 50 = .ok (.getfield 42, 3) := by decide +kernel
theorem dX0_startAnew_53 : decode cX0_startAnew 53 = .ok (.iload_n 2, 1) := by decide +kernel
theorem dX0_startAnew_54 : decode cX0_startAnew 54 = .ok (.iconst 0, 1) := by decide +kernel
theorem dX0_startAnew_55 : decode cX0_startAnew 55 = .ok (.iastore, 1) := by decide +kernel
theorem dX0_startAnew_56 : decode cX0_startAnew 56 = .ok (.aload_n 0, 1) := by decide +kernel
theorem dX0_startAnew_57 : decode cX0_startAnew 57 = .ok (.getfield 45, 3) := by decide +kernel
theorem dX0_startAnew_60 : decode cX0_startAnew 60 = .ok (.iload_n 2, 1) := by decide +kernel
theorem dX0_startAnew_61 : decode cX0_startAnew 61 = .ok (.iconst 0, 1) := by decide +kernel
theorem dX0_startAnew_62 : decode cX0_startAnew 62 = .ok (.iastore, 1) := by decide +kernel
theorem dX0_startAnew_63 : decode cX0_startAnew 63 = .ok (.iinc 2 1, 3) := by decide +kernel
theorem dX0_startAnew_66 : decode cX0_startAnew 66 = .ok (.goto (-44), 3) := by decide +kernel
theorem dX0_startAnew_69 : decode cX0_startAnew 69 = .ok (.iconst 0, 1) := by decide +kernel
theorem dX0_startAnew_70 : decode cX0_startAnew 70 = .ok (.istore_n 2, 1) := by decide +kernel
theorem dX0_startAnew_71 : decode cX0_startAnew 71 = .ok (.iload_n 2, 1) := by decide +kernel
theorem dX0_startAnew_72 : decode cX0_startAnew 72 = .ok (.iconst 4, 1) := by decide +kernel
theorem dX0_startAnew_73 : decode cX0_startAnew 73 = .ok (.if_icmp .ge 16, 3) := by decide +kernel
theorem dX0_startAnew_76 : decode cX0_startAnew 76 = .ok (.aload_n 0, 1) := by decide +kernel
theorem dX0_startAnew_77 : decode cX0_startAnew 77 = .ok (.getfield 48, 3) := by decide +kernel
theorem dX0_startAnew_80 : decode cX0_startAnew 80 = .ok (.iload_n 2, 1) := by decide +kernel
theorem dX0_startAnew_81 : decode cX0_startAnew 81 = .ok (.iconst (-1), 1) := by decide +kernel
theorem dX0_startAnew_82 : decode cX0_startAnew 82 = .ok (.iastore, 1) := by decide +kernel
theorem dX0_startAnew_83 : decode cX0_startAnew 83 = .ok (.iinc 2 1, 3) := by decide +kernel
theorem dX0_startAnew_86 : decode cX0_startAnew 86 = .ok (.goto (-15), 3) := by decide +kernel
theorem dX0_startAnew_89 : decode cX0_startAnew 89 = .ok (.return_, 1) := by decide +kernel
theorem dX0_cpuTotal_0 : decode cX0_cpuTotal 0 = .ok (.iconst 2, 1) := by decide +kernel
theorem dX0_cpuTotal_1 : decode cX0_cpuTotal 1 = .ok (.aload_n 0, 1) := by decide +kernel
theorem dX0_cpuTotal_2 : decode cX0_cpuTotal 2 = .ok (.getfield 62, 3) := by decide +kernel
theorem dX0_cpuTotal_5 : decode cX0_cpuTotal 5 = .ok (.imul, 1) := by decide +kernel
theorem dX0_cpuTotal_6 : decode cX0_cpuTotal 6 = .ok (.ireturn, 1) := by decide +kernel
theorem dX0_coreOfCpu_0 : decode cX0_coreOfCpu 0 = .ok (.iload_n 0, 1) := by decide +kernel
theorem dX0_coreOfCpu_1 : decode cX0_coreOfCpu 1 = .ok (.iconst 2, 1) := by decide +kernel
theorem dX0_coreOfCpu_2 : decode cX0_coreOfCpu 2 = .ok (.idiv, 1) := by decide +kernel
theorem dX0_coreOfCpu_3 : decode cX0_coreOfCpu 3 = .ok (.ireturn, 1) := by decide +kernel
theorem dX0_isRunnable_0 : decode cX0_isRunnable 0 = .ok (.aload_n 0, 1) := by decide +kernel
theorem dX0_isRunnable_1 : decode cX0_isRunnable 1 = .ok (.getfield 19, 3) := by decide +kernel
theorem dX0_isRunnable_4 : decode cX0_isRunnable 4 = .ok (.iload_n 1, 1) := by decide +kernel
theorem dX0_isRunnable_5 : decode cX0_isRunnable 5 = .ok (.iaload, 1) := by decide +kernel
theorem dX0_isRunnable_6 : decode cX0_isRunnable 6 = .ok (.ifCond .eq 13, 3) := by decide +kernel
theorem dX0_isRunnable_9 : decode cX0_isRunnable 9 = .ok (.aload_n 0, 1) := by decide +kernel
theorem dX0_isRunnable_10 : decode cX0_isRunnable 10 = .ok (.getfield 19, 3) := by decide +kernel
theorem dX0_isRunnable_13 : decode cX0_isRunnable 13 = .ok (.iload_n 1, 1) := by decide +kernel
theorem dX0_isRunnable_14 : decode cX0_isRunnable 14 = .ok (.iaload, 1) := by decide +kernel
theorem dX0_isRunnable_15 : decode cX0_isRunnable 15 = .ok (.iconst 1, 1) := by decide +kernel
theorem dX0_isRunnable_16 : decode cX0_isRunnable 16 = .ok (.if_icmp .ne 7, 3) := by decide +kernel
theorem dX0_isRunnable_19 : decode cX0_isRunnable 19 = .ok (.iconst 1, 1) := by decide +kernel
theorem dX0_isRunnable_20 : decode cX0_isRunnable 20 = .ok (.goto 4, 3) := by decide +kernel
theorem dX0_isRunnable_23 : decode cX0_isRunnable 23 = .ok (.iconst 0, 1) := by decide +kernel
theorem dX0_isRunnable_24 : decode cX0_isRunnable 24 = .ok (.ireturn, 1) := by decide +kernel
theorem dX0_isQueued_0 : decode cX0_isQueued 0 = .ok (.aload_n 0, 1) := by decide +kernel
theorem dX0_isQueued_1 : decode cX0_isQueued 1 = .ok (.getfield 9, 3) := by decide +kernel
theorem dX0_isQueued_4 : decode cX0_isQueued 4 = .ok (.iload_n 1, 1) := by decide +kernel
theorem dX0_isQueued_5 : decode cX0_isQueued 5 = .ok (.iaload, 1) := by decide +kernel
theorem dX0_isQueued_6 : decode cX0_isQueued 6 = .ok (.iload_n 2, 1) := by decide +kernel
theorem dX0_isQueued_7 : decode cX0_isQueued 7 = .ok (.if_icmp .ne 15, 3) := by decide +kernel
theorem dX0_isQueued_10 : decode cX0_isQueued 10 = .ok (.aload_n 0, 1) := by decide +kernel
theorem dX0_isQueued_11 : decode cX0_isQueued 11 = .ok (.iload_n 1, 1) := by decide +kernel
theorem dX0_isQueued_12 : decode cX0_isQueued 12 = .ok (.invokevirtual 99, 3) := by decide +kernel
theorem dX0_isQueued_15 : decode cX0_isQueued 15 = .ok (.ifCond .eq 7, 3) := by decide +kernel
theorem dX0_isQueued_18 : decode cX0_isQueued 18 = .ok (.iconst 1, 1) := by decide +kernel
theorem dX0_isQueued_19 : decode cX0_isQueued 19 = .ok (.goto 4, 3) := by decide +kernel
theorem dX0_isQueued_22 : decode cX0_isQueued 22 = .ok (.iconst 0, 1) := by decide +kernel
theorem dX0_isQueued_23 : decode cX0_isQueued 23 = .ok (.ireturn, 1) := by decide +kernel
theorem dX0_isOnCore_0 : decode cX0_isOnCore 0 = .ok (.aload_n 0, 1) := by decide +kernel
theorem dX0_isOnCore_1 : decode cX0_isOnCore 1 = .ok (.getfield 9, 3) := by decide +kernel
theorem dX0_isOnCore_4 : decode cX0_isOnCore 4 = .ok (.iload_n 1, 1) := by decide +kernel
theorem dX0_isOnCore_5 : decode cX0_isOnCore 5 = .ok (.iaload, 1) := by decide +kernel
theorem dX0_isOnCore_6 : decode cX0_isOnCore 6 = .ok (.invokestatic 160, 3) := by decide +kernel
theorem dX0_isOnCore_9 : decode cX0_isOnCore 9 = .ok (.iload_n 2, 1) := by decide +kernel
theorem dX0_isOnCore_10 : decode cX0_isOnCore 10 = .ok (.if_icmp .ne 7, 3) := by decide +kernel
theorem dX0_isOnCore_13 : decode cX0_isOnCore 13 = .ok (.iconst 1, 1) := by decide +kernel
theorem dX0_isOnCore_14 : decode cX0_isOnCore 14 = .ok (.goto 4, 3) := by decide +kernel
theorem dX0_isOnCore_17 : decode cX0_isOnCore 17 = .ok (.iconst 0, 1) := by decide +kernel
theorem dX0_isOnCore_18 : decode cX0_isOnCore 18 = .ok (.ireturn, 1) := by decide +kernel
theorem dX0_relativeTime_0 : decode cX0_relativeTime 0 = .ok (.aload_n 0, 1) := by decide +kernel
theorem dX0_relativeTime_1 : decode cX0_relativeTime 1 = .ok (.getfield 22, 3) := by decide +kernel
theorem dX0_relativeTime_4 : decode cX0_relativeTime 4 = .ok (.iload_n 1, 1) := by decide +kernel
theorem dX0_relativeTime_5 : decode cX0_relativeTime 5 = .ok (.laload, 1) := by decide +kernel
theorem dX0_relativeTime_6 : decode cX0_relativeTime 6 = .ok (.aload_n 0, 1) := by decide +kernel
theorem dX0_relativeTime_7 : decode cX0_relativeTime 7 = .ok (.getfield 32, 3) := by decide +kernel
theorem dX0_relativeTime_10 : decode cX0_relativeTime 10 = .ok (.aload_n 0, 1) := by decide +kernel
theorem dX0_relativeTime_11 : decode cX0_relativeTime 11 = .ok (.getfield 9, 3) := by decide +kernel
theorem dX0_relativeTime_14 : decode cX0_relativeTime 14 = .ok (.iload_n 1, 1) := by decide +kernel
theorem dX0_relativeTime_15 : decode cX0_relativeTime 15 = .ok (.iaload, 1) := by decide +kernel
theorem dX0_relativeTime_16 : decode cX0_relativeTime 16 = .ok (.laload, 1) := by decide +kernel
theorem dX0_relativeTime_17 : decode cX0_relativeTime 17 = .ok (.lsub, 1) := by decide +kernel
theorem dX0_relativeTime_18 : decode cX0_relativeTime 18 = .ok (.lreturn, 1) := by decide +kernel
theorem dX0_comesBefore_0 : decode cX0_comesBefore 0 = .ok (.iload_n 2, 1) := by decide +kernel
theorem dX0_comesBefore_1 : decode cX0_comesBefore 1 = .ok (.iconst (-1), 1) := by decide +kernel
theorem dX0_comesBefore_2 : decode cX0_comesBefore 2 = .ok (.if_icmp .ne 5, 3) := by decide +kernel
theorem dX0_comesBefore_5 : decode cX0_comesBefore 5 = .ok (.iconst 1, 1) := by decide +kernel
theorem dX0_comesBefore_6 : decode cX0_comesBefore 6 = .ok (.ireturn, 1) := by decide +kernel
theorem dX0_comesBefore_7 : decode cX0_comesBefore 7 = .ok (.aload_n 0, 1) := by decide +kernel
theorem dX0_comesBefore_8 : decode cX0_comesBefore 8 = .ok (.iload_n 1, 1) := by decide +kernel
theorem dX0_comesBefore_9 : decode cX0_comesBefore 9 = .ok (.invokevirtual 163, 3) := by decide +kernel
theorem dX0_comesBefore_12 : decode cX0_comesBefore 12 = .ok (.lstore_n 3, 1) := by decide +kernel
theorem dX0_comesBefore_13 : decode cX0_comesBefore 13 = .ok (.aload_n 0, 1) := by decide +kernel
theorem dX0_comesBefore_14 : decode cX0_comesBefore 14 = .ok (.iload_n 2, 1) := by decide +kernel
theorem dX0_comesBefore_15 : decode cX0_comesBefore 15 = .ok (.invokevirtual 163, 3) := by decide +kernel
theorem dX0_comesBefore_18 : decode cX0_comesBefore 18 = .ok (.lstore 5, 2) := by decide +kernel
theorem dX0_comesBefore_20 : decode cX0_comesBefore 20 = .ok (.lload_n 3, 1) := by decide +kernel
theorem dX0_comesBefore_21 : decode cX0_comesBefore 21 = .ok (.lload 5, 2) := by decide +kernel
theorem dX0_comesBefore_23 : decode cX0_comesBefore 23 = .ok (.lcmp, 1) := by decide +kernel
theorem dX0_comesBefore_24 : decode cX0_comesBefore 24 = .ok (.ifCond .lt 15, 3) := by decide +kernel
theorem dX0_comesBefore_27 : decode cX0_comesBefore 27 = .ok (.lload_n 3, 1) := by decide +kernel
theorem dX0_comesBefore_28 : decode cX0_comesBefore 28 = .ok (.lload 5, 2) := by decide +kernel
theorem dX0_comesBefore_30 : decode cX0_comesBefore 30 = .ok (.lcmp, 1) := by decide +kernel
theorem dX0_comesBefore_31 : decode cX0_comesBefore 31 = .ok (.ifCond .ne 12, 3) := by decide +kernel
theorem dX0_comesBefore_34 : decode cX0_comesBefore 34 = .ok (.iload_n 1, 1) := by decide +kernel
theorem dX0_comesBefore_35 : decode cX0_comesBefore 35 = .ok (.iload_n 2, 1) := by decide +kernel
theorem dX0_comesBefore_36 : decode cX0_comesBefore 36 = .ok (.if_icmp .ge 7, 3) := by decide +kernel
theorem dX0_comesBefore_39 : decode cX0_comesBefore 39 = .ok (.iconst 1, 1) := by decide +kernel
theorem dX0_comesBefore_40 : decode cX0_comesBefore 40 = .ok (.goto 4, 3) := by decide +kernel
theorem dX0_comesBefore_43 : decode cX0_comesBefore 43 = .ok (.iconst 0, 1) := by decide +kernel
theorem dX0_comesBefore_44 : decode cX0_comesBefore 44 = .ok (.ireturn, 1) := by decide +kernel
theorem dX0_positionOf_0 : decode cX0_positionOf 0 = .ok (.iconst 0, 1) := by decide +kernel
theorem dX0_positionOf_1 : decode cX0_positionOf 1 = .ok (.istore_n 2, 1) := by decide +kernel
theorem dX0_positionOf_2 : decode cX0_positionOf 2 = .ok (.iconst 0, 1) := by decide +kernel
theorem dX0_positionOf_3 : decode cX0_positionOf 3 = .ok (.istore_n 3, 1) := by decide +kernel
theorem dX0_positionOf_4 : decode cX0_positionOf 4 = .ok (.iload_n 3, 1) := by decide +kernel
theorem dX0_positionOf_5 : decode cX0_positionOf 5 = .ok (.aload_n 0, 1) := by decide +kernel
theorem dX0_positionOf_6 : decode cX0_positionOf 6 = .ok (.getfield 85, 3) := by decide +kernel
theorem dX0_positionOf_9 : decode cX0_positionOf 9 = .ok (.if_icmp .ge 35, 3) := by decide +kernel
theorem dX0_positionOf_12 : decode cX0_positionOf 12 = .ok (.aload_n 0, 1) := by decide +kernel
theorem dX0_positionOf_13 : decode cX0_positionOf 13 = .ok (.iload_n 3, 1) := by decide +kernel
theorem dX0_positionOf_14 : decode cX0_positionOf 14 = .ok (.aload_n 0, 1) := by decide +kernel
theorem dX0_positionOf_15 : decode cX0_positionOf 15 = .ok (.getfield 9, 3) := by decide +kernel
theorem dX0_positionOf_18 : decode cX0_positionOf 18 = .ok (.iload_n 1, 1) := by decide +kernel
theorem dX0_positionOf_19 : decode cX0_positionOf 19 = .ok (.iaload, 1) := by decide +kernel
theorem dX0_positionOf_20 : decode cX0_positionOf 20 = .ok (.invokevirtual 130, 3) := by decide +kernel
theorem dX0_positionOf_23 : decode cX0_positionOf 23 = .ok (.ifCond .eq 15, 3) := by decide +kernel
theorem dX0_positionOf_26 : decode cX0_positionOf 26 = .ok (.aload_n 0, 1) := by decide +kernel
theorem dX0_positionOf_27 : decode cX0_positionOf 27 = .ok (.iload_n 3, 1) := by decide +kernel
theorem dX0_positionOf_28 : decode cX0_positionOf 28 = .ok (.iload_n 1, 1) := by decide +kernel
theorem dX0_positionOf_29 : decode cX0_positionOf 29 = .ok (.invokevirtual 167, 3) := by decide +kernel
theorem dX0_positionOf_32 : decode cX0_positionOf 32 = .ok (.ifCond .eq 6, 3) := by decide +kernel
theorem dX0_positionOf_35 : decode cX0_positionOf 35 = .ok (.iinc 2 1, 3) := by decide +kernel
theorem dX0_positionOf_38 : decode cX0_positionOf 38 = .ok (.iinc 3 1, 3) := by decide +kernel
theorem dX0_positionOf_41 : decode cX0_positionOf 41 = .ok (.goto (-37), 3) := by decide +kernel
theorem dX0_positionOf_44 : decode cX0_positionOf 44 = .ok (.iload_n 2, 1) := by decide +kernel
theorem dX0_positionOf_45 : decode cX0_positionOf 45 = .ok (.ireturn, 1) := by decide +kernel
theorem dX0_countQueue_0 : decode cX0_countQueue 0 = .ok (.iconst 0, 1) := by decide +kernel
theorem dX0_countQueue_1 : decode cX0_countQueue 1 = .ok (.istore_n 2, 1) := by decide +kernel
theorem dX0_countQueue_2 : decode cX0_countQueue 2 = .ok (.iconst 0, 1) := by decide +kernel
theorem dX0_countQueue_3 : decode cX0_countQueue 3 = .ok (.istore_n 3, 1) := by decide +kernel
theorem dX0_countQueue_4 : decode cX0_countQueue 4 = .ok (.iload_n 3, 1) := by decide +kernel
theorem dX0_countQueue_5 : decode cX0_countQueue 5 = .ok (.aload_n 0, 1) := by decide +kernel
theorem dX0_countQueue_6 : decode cX0_countQueue 6 = .ok (.getfield 85, 3) := by decide +kernel
theorem dX0_countQueue_9 : decode cX0_countQueue 9 = .ok (.if_icmp .ge 21, 3) := by decide +kernel
theorem dX0_countQueue_12 : decode cX0_countQueue 12 = .ok (.aload_n 0, 1) := by decide +kernel
theorem dX0_countQueue_13 : decode cX0_countQueue 13 = .ok (.iload_n 3, 1) := by decide +kernel
theorem dX0_countQueue_14 : decode cX0_countQueue 14 = .ok (.iload_n 1, 1) := by decide +kernel
theorem dX0_countQueue_15 : decode cX0_countQueue 15 = .ok (.invokevirtual 130, 3) := by decide +kernel
theorem dX0_countQueue_18 : decode cX0_countQueue 18 = .ok (.ifCond .eq 6, 3) := by decide +kernel
theorem dX0_countQueue_21 : decode cX0_countQueue 21 = .ok (.iinc 2 1, 3) := by decide +kernel
theorem dX0_countQueue_24 : decode cX0_countQueue 24 = .ok (.iinc 3 1, 3) := by decide +kernel
theorem dX0_countQueue_27 : decode cX0_countQueue 27 = .ok (.goto (-23), 3) := by decide +kernel
theorem dX0_countQueue_30 : decode cX0_countQueue 30 = .ok (.iload_n 2, 1) := by decide +kernel
theorem dX0_countQueue_31 : decode cX0_countQueue 31 = .ok (.ireturn, 1) := by decide +kernel
theorem dX0_enterQueue_0 : decode cX0_enterQueue 0 = .ok (.aload_n 0, 1) := by decide +kernel
theorem dX0_enterQueue_1 : decode cX0_enterQueue 1 = .ok (.getfield 22, 3) := by decide +kernel
theorem dX0_enterQueue_4 : decode cX0_enterQueue 4 = .ok (.iload_n 1, 1) := by decide +kernel
theorem dX0_enterQueue_5 : decode cX0_enterQueue 5 = .ok (.aload_n 0, 1) := by decide +kernel
theorem dX0_enterQueue_6 : decode cX0_enterQueue 6 = .ok (.getfield 22, 3) := by decide +kernel
theorem dX0_enterQueue_9 : decode cX0_enterQueue 9 = .ok (.iload_n 1, 1) := by decide +kernel
theorem dX0_enterQueue_10 : decode cX0_enterQueue 10 = .ok (.laload, 1) := by decide +kernel
theorem dX0_enterQueue_11 : decode cX0_enterQueue 11 = .ok (.aload_n 0, 1) := by decide +kernel
theorem dX0_enterQueue_12 : decode cX0_enterQueue 12 = .ok (.getfield 32, 3) := by decide +kernel
theorem dX0_enterQueue_15 : decode cX0_enterQueue 15 = .ok (.aload_n 0, 1) := by decide +kernel
theorem dX0_enterQueue_16 : decode cX0_enterQueue 16 = .ok (.getfield 9, 3) := by decide +kernel
theorem dX0_enterQueue_19 : decode cX0_enterQueue 19 = .ok (.iload_n 1, 1) := by decide +kernel
theorem dX0_enterQueue_20 : decode cX0_enterQueue 20 = .ok (.iaload, 1) := by decide +kernel
theorem dX0_enterQueue_21 : decode cX0_enterQueue 21 = .ok (.laload, 1) := by decide +kernel
theorem dX0_enterQueue_22 : decode cX0_enterQueue 22 = .ok (.invokestatic 170, 3) := by decide +kernel
theorem dX0_enterQueue_25 : decode cX0_enterQueue 25 = .ok (.lastore, 1) := by decide +kernel
theorem dX0_enterQueue_26 : decode cX0_enterQueue 26 = .ok (.aload_n 0, 1) := by decide +kernel
theorem dX0_enterQueue_27 : decode cX0_enterQueue 27 = .ok (.getfield 19, 3) := by decide +kernel
theorem dX0_enterQueue_30 : decode cX0_enterQueue 30 = .ok (.iload_n 1, 1) := by decide +kernel
theorem dX0_enterQueue_31 : decode cX0_enterQueue 31 = .ok (.iconst 0, 1) := by decide +kernel
theorem dX0_enterQueue_32 : decode cX0_enterQueue 32 = .ok (.iastore, 1) := by decide +kernel
theorem dX0_enterQueue_33 : decode cX0_enterQueue 33 = .ok (.return_, 1) := by decide +kernel
theorem dX0_stopTask_0 : decode cX0_stopTask 0 = .ok (.aload_n 0, 1) := by decide +kernel
theorem dX0_stopTask_1 : decode cX0_stopTask 1 = .ok (.getfield 19, 3) := by decide +kernel
theorem dX0_stopTask_4 : decode cX0_stopTask 4 = .ok (.iload_n 1, 1) := by decide +kernel
theorem dX0_stopTask_5 : decode cX0_stopTask 5 = .ok (.iaload, 1) := by decide +kernel
theorem dX0_stopTask_6 : decode cX0_stopTask 6 = .ok (.istore_n 3, 1) := by decide +kernel
theorem dX0_stopTask_7 : decode cX0_stopTask 7 = .ok (.iload_n 3, 1) := by decide +kernel
theorem dX0_stopTask_8 : decode cX0_stopTask 8 = .ok (.iconst 1, 1) := by decide +kernel
theorem dX0_stopTask_9 : decode cX0_stopTask 9 = .ok (.if_icmp .ne 15, 3) := by decide +kernel
theorem dX0_stopTask_12 : decode cX0_stopTask 12 = .ok (.aload_n 0, 1) := by decide +kernel
theorem dX0_stopTask_13 : decode cX0_stopTask 13 = .ok (.getfield 35, 3) := by decide +kernel
theorem dX0_stopTask_16 : decode cX0_stopTask 16 = .ok (.aload_n 0, 1) := by decide +kernel
theorem dX0_stopTask_17 : decode cX0_stopTask 17 = .ok (.getfield 9, 3) := by decide +kernel
theorem dX0_stopTask_20 : decode cX0_stopTask 20 = .ok (.iload_n 1, 1) := by decide +kernel
theorem dX0_stopTask_21 : decode cX0_stopTask 21 = .ok (.iaload, 1) := by decide +kernel
theorem dX0_stopTask_22 : decode cX0_stopTask 22 = .ok (.iconst (-1), 1) := by decide +kernel
theorem dX0_stopTask_23 : decode cX0_stopTask 23 = .ok (.iastore, 1) := by decide +kernel
theorem dX0_stopTask_24 : decode cX0_stopTask 24 = .ok (.aload_n 0, 1) := by decide +kernel
theorem dX0_stopTask_25 : decode cX0_stopTask 25 = .ok (.getfield 19, 3) := by decide +kernel
theorem dX0_stopTask_28 : decode cX0_stopTask 28 = .ok (.iload_n 1, 1) := by decide +kernel
theorem dX0_stopTask_29 : decode cX0_stopTask 29 = .ok (.iload_n 2, 1) := by decide +kernel
theorem dX0_stopTask_30 : decode cX0_stopTask 30 = .ok (.iastore, 1) := by decide +kernel
theorem dX0_stopTask_31 : decode cX0_stopTask 31 = .ok (.iload_n 3, 1) := by decide +kernel
theorem dX0_stopTask_32 : decode cX0_stopTask 32 = .ok (.ireturn, 1) := by decide +kernel
theorem dX0_moveRunnable_0 : decode cX0_moveRunnable 0 = .ok (.aload_n 0, 1) := by decide +kernel
theorem dX0_moveRunnable_1 : decode cX0_moveRunnable 1 = .ok (.getfield 22, 3) := by decide +kernel
theorem dX0_moveRunnable_4 : decode cX0_moveRunnable 4 = .ok (.iload_n 1, 1) := by decide +kernel
theorem dX0_moveRunnable_5 : decode cX0_moveRunnable 5 = .ok (.aload_n 0, 1) := by decide +kernel
theorem dX0_moveRunnable_6 : decode cX0_moveRunnable 6 = .ok (.iload_n 1, 1) := by decide +kernel
theorem dX0_moveRunnable_7 : decode cX0_moveRunnable 7 = .ok (.invokevirtual 163, 3) := by decide +kernel
theorem dX0_moveRunnable_10 : decode cX0_moveRunnable 10 = .ok (.aload_n 0, 1) := by decide +kernel
theorem dX0_moveRunnable_11 : decode cX0_moveRunnable 11 = .ok (.getfield 32, 3) := by decide +kernel
theorem dX0_moveRunnable_14 : decode cX0_moveRunnable 14 = .ok (.iload_n 2, 1) := by decide +kernel
theorem dX0_moveRunnable_15 : decode cX0_moveRunnable 15 = .ok (.laload, 1) := by decide +kernel
theorem dX0_moveRunnable_16 : decode cX0_moveRunnable 16 = .ok (.ladd, 1) := by decide +kernel
theorem dX0_moveRunnable_17 : decode cX0_moveRunnable 17 = .ok (.lastore, 1) := by decide +kernel
theorem dX0_moveRunnable_18 : decode cX0_moveRunnable 18 = .ok (.aload_n 0, 1) := by decide +kernel
theorem dX0_moveRunnable_19 : decode cX0_moveRunnable 19 = .ok (.getfield 9, 3) := by decide +kernel
theorem dX0_moveRunnable_22 : decode cX0_moveRunnable 22 = .ok (.iload_n 1, 1) := by decide +kernel
theorem dX0_moveRunnable_23 : decode cX0_moveRunnable 23 = .ok (.iload_n 2, 1) := by decide +kernel
theorem dX0_moveRunnable_24 : decode cX0_moveRunnable 24 = .ok (.iastore, 1) := by decide +kernel
theorem dX0_moveRunnable_25 : decode cX0_moveRunnable 25 = .ok (.return_, 1) := by decide +kernel
theorem dX0_pickForCore_0 : decode cX0_pickForCore 0 = .ok (.aload_n 0, 1) := by decide +kernel
theorem dX0_pickForCore_1 : decode cX0_pickForCore 1 = .ok (.iload_n 1, 1) := by decide +kernel
theorem dX0_pickForCore_2 : decode cX0_pickForCore 2 = .ok (.invokevirtual 123, 3) := by decide +kernel
theorem dX0_pickForCore_5 : decode cX0_pickForCore 5 = .ok (.istore_n 2, 1) := by decide +kernel
theorem dX0_pickForCore_6 : decode cX0_pickForCore 6 = .ok (.iload_n 2, 1) := by decide +kernel
theorem dX0_pickForCore_7 : decode cX0_pickForCore 7 = .ok (.iconst (-1), 1) := by decide +kernel
theorem dX0_pickForCore_8 : decode cX0_pickForCore 8 = .ok (.if_icmp .ne 7, 3) := by decide +kernel
theorem dX0_pickForCore_11 : decode cX0_pickForCore 11 = .ok (.iconst (-1), 1) := by decide +kernel
theorem dX0_pickForCore_12 : decode cX0_pickForCore 12 = .ok (.goto 9, 3) := by decide +kernel
theorem dX0_pickForCore_15 : decode cX0_pickForCore 15 = .ok (.aload_n 0, 1) := by decide +kernel
theorem dX0_pickForCore_16 : decode cX0_pickForCore 16 = .ok (.getfield 16, 3) := by decide +kernel
theorem dX0_pickForCore_19 : decode cX0_pickForCore 19 = .ok (.iload_n 2, 1) := by decide +kernel
theorem dX0_pickForCore_20 : decode cX0_pickForCore 20 = .ok (.iaload, 1) := by decide +kernel
theorem dX0_pickForCore_21 : decode cX0_pickForCore 21 = .ok (.istore_n 3, 1) := by decide +kernel
theorem dX0_pickForCore_22 : decode cX0_pickForCore 22 = .ok (.aload_n 0, 1) := by decide +kernel
theorem dX0_pickForCore_23 : decode cX0_pickForCore 23 = .ok (.getfield 48, 3) := by decide +kernel
theorem dX0_pickForCore_26 : decode cX0_pickForCore 26 = .ok (.iload_n 1, 1) := by decide +kernel
theorem dX0_pickForCore_27 : decode cX0_pickForCore 27 = .ok (.iload_n 3, 1) := by decide +kernel
theorem dX0_pickForCore_28 : decode cX0_pickForCore 28 = .ok (.iastore, 1) := by decide +kernel
theorem dX0_pickForCore_29 : decode cX0_pickForCore 29 = .ok (.aload_n 0, 1) := by decide +kernel
theorem dX0_pickForCore_30 : decode cX0_pickForCore 30 = .ok (.iload_n 1, 1) := by decide +kernel
theorem dX0_pickForCore_31 : decode cX0_pickForCore 31 = .ok (.invokevirtual 176, 3) := by decide +kernel
theorem dX0_pickForCore_34 : decode cX0_pickForCore 34 = .ok (.iconst 2, 1) := by decide +kernel
theorem dX0_pickForCore_35 : decode cX0_pickForCore 35 = .ok (.iload_n 1, 1) := by decide +kernel
theorem dX0_pickForCore_36 : decode cX0_pickForCore 36 = .ok (.imul, 1) := by decide +kernel
theorem dX0_pickForCore_37 : decode cX0_pickForCore 37 = .ok (.istore 4, 2) := by decide +kernel
theorem dX0_pickForCore_39 : decode cX0_pickForCore 39 = .ok (.iload 4, 2) := by decide +kernel
theorem dX0_pickForCore_41 : decode cX0_pickForCore 41 = .ok (.istore 5, 2) := by decide +kernel
theorem dX0_pickForCore_43 : decode cX0_pickForCore 43 = .ok (.iload 5, 2) := by decide +kernel
theorem dX0_pickForCore_45 : decode cX0_pickForCore 45 = .ok (.iload 4, 2) := by decide +kernel
theorem dX0_pickForCore_47 : decode cX0_pickForCore 47 = .ok (.iconst 2, 1) := by decide +kernel
theorem dX0_pickForCore_48 : decode cX0_pickForCore 48 = .ok (.iadd, 1) := by decide +kernel
theorem dX0_pickForCore_49 : decode cX0_pickForCore 49 = .ok (.if_icmp .ge 35, 3) := by decide +kernel
theorem dX0_pickForCore_52 : decode cX0_pickForCore 52 = .ok (.iload_n 2, 1) := by decide +kernel
theorem dX0_pickForCore_53 : decode cX0_pickForCore 53 = .ok (.iconst (-1), 1) := by decide +kernel
theorem dX0_pickForCore_54 : decode cX0_pickForCore 54 = .ok (.if_icmp .ne 7, 3) := by decide +kernel
theorem dX0_pickForCore_57 : decode cX0_pickForCore 57 = .ok (.iconst (-1), 1) := by decide +kernel
theorem dX0_pickForCore_58 : decode cX0_pickForCore 58 = .ok (.goto 10, 3) := by decide +kernel
theorem dX0_pickForCore_61 : decode cX0_pickForCore 61 = .ok (.aload_n 0, 1) := by decide +kernel
theorem dX0_pickForCore_62 : decode cX0_pickForCore 62 = .ok (.iload 5, 2) := by decide +kernel
theorem dX0_pickForCore_64 : decode cX0_pickForCore 64 = .ok (.iload_n 3, 1) := by decide +kernel
theorem dX0_pickForCore_65 : decode cX0_pickForCore 65 = .ok (.invokevirtual 179, 3) := by decide +kernel
theorem dX0_pickForCore_68 : decode cX0_pickForCore 68 = .ok (.istore 6, 2) := by decide +kernel
theorem dX0_pickForCore_70 : decode cX0_pickForCore 70 = .ok (.aload_n 0, 1) := by decide +kernel
theorem dX0_pickForCore_71 : decode cX0_pickForCore 71 = .ok (.iload 5, 2) := by decide +kernel
theorem dX0_pickForCore_73 : decode cX0_pickForCore 73 = .ok (.iload 6, 2) := by decide +kernel
theorem dX0_pickForCore_75 : decode cX0_pickForCore 75 = .ok (.invokevirtual 182, 3) := by decide +kernel
theorem dX0_pickForCore_78 : decode cX0_pickForCore 78 = .ok (.iinc 5 1, 3) := by decide +kernel
theorem dX0_pickForCore_81 : decode cX0_pickForCore 81 = .ok (.goto (-38), 3) := by decide +kernel
theorem dX0_pickForCore_84 : decode cX0_pickForCore 84 = .ok (.return_, 1) := by decide +kernel
theorem dX0_findLeader_0 : decode cX0_findLeader 0 = .ok (.iconst (-1), 1) := by decide +kernel
theorem dX0_findLeader_1 : decode cX0_findLeader 1 = .ok (.istore_n 2, 1) := by decide +kernel
theorem dX0_findLeader_2 : decode cX0_findLeader 2 = .ok (.iconst 0, 1) := by decide +kernel
theorem dX0_findLeader_3 : decode cX0_findLeader 3 = .ok (.istore_n 3, 1) := by decide +kernel
theorem dX0_findLeader_4 : decode cX0_findLeader 4 = .ok (.iload_n 3, 1) := by decide +kernel
theorem dX0_findLeader_5 : decode cX0_findLeader 5 = .ok (.aload_n 0, 1) := by decide +kernel
theorem dX0_findLeader_6 : decode cX0_findLeader 6 = .ok (.getfield 85, 3) := by decide +kernel
theorem dX0_findLeader_9 : decode cX0_findLeader 9 = .ok (.if_icmp .ge 37, 3) := by decide +kernel
theorem dX0_findLeader_12 : decode cX0_findLeader 12 = .ok (.aload_n 0, 1) := by decide +kernel
theorem dX0_findLeader_13 : decode cX0_findLeader 13 = .ok (.iload_n 3, 1) := by decide +kernel
theorem dX0_findLeader_14 : decode cX0_findLeader 14 = .ok (.invokevirtual 99, 3) := by decide +kernel
theorem dX0_findLeader_17 : decode cX0_findLeader 17 = .ok (.ifCond .eq 23, 3) := by decide +kernel
theorem dX0_findLeader_20 : decode cX0_findLeader 20 = .ok (.aload_n 0, 1) := by decide +kernel
theorem dX0_findLeader_21 : decode cX0_findLeader 21 = .ok (.iload_n 3, 1) := by decide +kernel
theorem dX0_findLeader_22 : decode cX0_findLeader 22 = .ok (.iload_n 1, 1) := by decide +kernel
theorem dX0_findLeader_23 : decode cX0_findLeader 23 = .ok (.invokevirtual 185, 3) := by decide +kernel
theorem dX0_findLeader_26 : decode cX0_findLeader 26 = .ok (.ifCond .eq 14, 3) := by decide +kernel
theorem dX0_findLeader_29 : decode cX0_findLeader 29 = .ok (.aload_n 0, 1) := by decide +kernel
theorem dX0_findLeader_30 : decode cX0_findLeader 30 = .ok (.iload_n 3, 1) := by decide +kernel
theorem dX0_findLeader_31 : decode cX0_findLeader 31 = .ok (.iload_n 2, 1) := by decide +kernel
theorem dX0_findLeader_32 : decode cX0_findLeader 32 = .ok (.invokevirtual 167, 3) := by decide +kernel
theorem dX0_findLeader_35 : decode cX0_findLeader 35 = .ok (.ifCond .eq 5, 3) := by decide +kernel
theorem dX0_findLeader_38 : decode cX0_findLeader 38 = .ok (.iload_n 3, 1) := by decide +kernel
theorem dX0_findLeader_39 : decode cX0_findLeader 39 = .ok (.istore_n 2, 1) := by decide +kernel
theorem dX0_findLeader_40 : decode cX0_findLeader 40 = .ok (.iinc 3 1, 3) := by decide +kernel
theorem dX0_findLeader_43 : decode cX0_findLeader 43 = .ok (.goto (-39), 3) := by decide +kernel
theorem dX0_findLeader_46 : decode cX0_findLeader 46 = .ok (.iload_n 2, 1) := by decide +kernel
theorem dX0_findLeader_47 : decode cX0_findLeader 47 = .ok (.ireturn, 1) := by decide +kernel
theorem dX0_releaseTasks_0 : decode cX0_releaseTasks 0 = .ok (.iconst 0, 1) := by decide +kernel
theorem dX0_releaseTasks_1 : decode cX0_releaseTasks 1 = .ok (.istore_n 2, 1) := by decide +kernel
theorem dX0_releaseTasks_2 : decode cX0_releaseTasks 2 = .ok (.iload_n 2, 1) := by decide +kernel
theorem dX0_releaseTasks_3 : decode cX0_releaseTasks 3 = .ok (.aload_n 0, 1) := by decide +kernel
theorem dX0_releaseTasks_4 : decode cX0_releaseTasks 4 = .ok (.getfield 85, 3) := by decide +kernel
theorem dX0_releaseTasks_7 : decode cX0_releaseTasks 7 = .ok (.if_icmp .ge 35, 3) := by decide +kernel
theorem dX0_releaseTasks_10 : decode cX0_releaseTasks 10 = .ok (.aload_n 0, 1) := by decide +kernel
theorem dX0_releaseTasks_11 : decode cX0_releaseTasks 11 = .ok (.getfield 19, 3) := by decide +kernel
theorem dX0_releaseTasks_14 : decode cX0_releaseTasks 14 = .ok (.iload_n 2, 1) := by decide +kernel
theorem dX0_releaseTasks_15 : decode cX0_releaseTasks 15 = .ok (.iaload, 1) := by decide +kernel
theorem dX0_releaseTasks_16 : decode cX0_releaseTasks 16 = .ok (.iconst 1, 1) := by decide +kernel
theorem dX0_releaseTasks_17 : decode cX0_releaseTasks 17 = .ok (.if_icmp .ne 19, 3) := by decide +kernel
theorem dX0_releaseTasks_20 : decode cX0_releaseTasks 20 = .ok (.aload_n 0, 1) := by decide +kernel
theorem dX0_releaseTasks_21 : decode cX0_releaseTasks 21 = .ok (.iload_n 2, 1) := by decide +kernel
theorem dX0_releaseTasks_22 : decode cX0_releaseTasks 22 = .ok (.iload_n 1, 1) := by decide +kernel
theorem dX0_releaseTasks_23 : decode cX0_releaseTasks 23 = .ok (.invokevirtual 185, 3) := by decide +kernel
theorem dX0_releaseTasks_26 : decode cX0_releaseTasks 26 = .ok (.ifCond .eq 10, 3) := by decide +kernel
theorem dX0_releaseTasks_29 : decode cX0_releaseTasks 29 = .ok (.aload_n 0, 1) := by decide +kernel
theorem dX0_releaseTasks_30 : decode cX0_releaseTasks 30 = .ok (.getfield 19, 3) := by decide +kernel
theorem dX0_releaseTasks_33 : decode cX0_releaseTasks 33 = .ok (.iload_n 2, 1) := by decide +kernel
theorem dX0_releaseTasks_34 : decode cX0_releaseTasks 34 = .ok (.iconst 0, 1) := by decide +kernel
theorem dX0_releaseTasks_35 : decode cX0_releaseTasks 35 = .ok (.iastore, 1) := by decide +kernel
theorem dX0_releaseTasks_36 : decode cX0_releaseTasks 36 = .ok (.iinc 2 1, 3) := by decide +kernel
theorem dX0_releaseTasks_39 : decode cX0_releaseTasks 39 = .ok (.goto (-37), 3) := by decide +kernel
theorem dX0_releaseTasks_42 : decode cX0_releaseTasks 42 = .ok (.return_, 1) := by decide +kernel
theorem dX0_takeTask_0 : decode cX0_takeTask 0 = .ok (.aload_n 0, 1) := by decide +kernel
theorem dX0_takeTask_1 : decode cX0_takeTask 1 = .ok (.iload_n 1, 1) := by decide +kernel
theorem dX0_takeTask_2 : decode cX0_takeTask 2 = .ok (.iload_n 2, 1) := by decide +kernel
theorem dX0_takeTask_3 : decode cX0_takeTask 3 = .ok (.invokevirtual 188, 3) := by decide +kernel
theorem dX0_takeTask_6 : decode cX0_takeTask 6 = .ok (.istore_n 3, 1) := by decide +kernel
theorem dX0_takeTask_7 : decode cX0_takeTask 7 = .ok (.iload_n 3, 1) := by decide +kernel
theorem dX0_takeTask_8 : decode cX0_takeTask 8 = .ok (.iconst (-1), 1) := by decide +kernel
theorem dX0_takeTask_9 : decode cX0_takeTask 9 = .ok (.if_icmp .ne 10, 3) := by decide +kernel
theorem dX0_takeTask_12 : decode cX0_takeTask 12 = .ok (.aload_n 0, 1) := by decide +kernel
theorem dX0_takeTask_13 : decode cX0_takeTask 13 = .ok (.getfield 66, 3) := by decide +kernel
theorem dX0_takeTask_16 : decode cX0_takeTask 16 = .ok (.ifCond .ne 5, 3) := by decide +kernel
theorem dX0_takeTask_19 : decode cX0_takeTask 19 = .ok (.iload_n 3, 1) := by decide +kernel
theorem dX0_takeTask_20 : decode cX0_takeTask 20 = .ok (.ireturn, 1) := by decide +kernel
theorem dX0_takeTask_21 : decode cX0_takeTask 21 = .ok (.aload_n 0, 1) := by decide +kernel
theorem dX0_takeTask_22 : decode cX0_takeTask 22 = .ok (.iload_n 1, 1) := by decide +kernel
theorem dX0_takeTask_23 : decode cX0_takeTask 23 = .ok (.invokestatic 160, 3) := by decide +kernel
theorem dX0_takeTask_26 : decode cX0_takeTask 26 = .ok (.iload_n 2, 1) := by decide +kernel
theorem dX0_takeTask_27 : decode cX0_takeTask 27 = .ok (.invokevirtual 191, 3) := by decide +kernel
theorem dX0_takeTask_30 : decode cX0_takeTask 30 = .ok (.istore 4, 2) := by decide +kernel
theorem dX0_takeTask_32 : decode cX0_takeTask 32 = .ok (.iload 4, 2) := by decide +kernel
theorem dX0_takeTask_34 : decode cX0_takeTask 34 = .ok (.iconst (-1), 1) := by decide +kernel
theorem dX0_takeTask_35 : decode cX0_takeTask 35 = .ok (.if_icmp .eq 20, 3) := by decide +kernel
theorem dX0_takeTask_38 : decode cX0_takeTask 38 = .ok (.aload_n 0, 1) := by decide +kernel
theorem dX0_takeTask_39 : decode cX0_takeTask 39 = .ok (.iload 4, 2) := by decide +kernel
theorem dX0_takeTask_41 : decode cX0_takeTask 41 = .ok (.iload_n 1, 1) := by decide +kernel
theorem dX0_takeTask_42 : decode cX0_takeTask 42 = .ok (.invokevirtual 116, 3) := by decide +kernel
theorem dX0_takeTask_45 : decode cX0_takeTask 45 = .ok (.aload_n 0, 1) := by decide +kernel
theorem dX0_takeTask_46 : decode cX0_takeTask 46 = .ok (.dup, 1) := by decide +kernel
theorem dX0_takeTask_47 : decode cX0_takeTask 47 = .ok (.getfield 142, 3) := by decide +kernel
theorem dX0_takeTask_50 : decode cX0_takeTask 50 = .ok (.iconst 1, 1) := by decide +kernel
theorem dX0_takeTask_51 : decode cX0_takeTask 51 = .ok (.iadd, 1) := by decide +kernel
theorem dX0_takeTask_52 : decode cX0_takeTask 52 = .ok (.putfield 142, 3) := by decide +kernel
theorem dX0_takeTask_55 : decode cX0_takeTask 55 = .ok (.iload 4, 2) := by decide +kernel
theorem dX0_takeTask_57 : decode cX0_takeTask 57 = .ok (.ireturn, 1) := by decide +kernel
theorem dX0_findOwn_0 : decode cX0_findOwn 0 = .ok (.iconst (-1), 1) := by decide +kernel
theorem dX0_findOwn_1 : decode cX0_findOwn 1 = .ok (.istore_n 3, 1) := by decide +kernel
theorem dX0_findOwn_2 : decode cX0_findOwn 2 = .ok (.iconst 0, 1) := by decide +kernel
theorem dX0_findOwn_3 : decode cX0_findOwn 3 = .ok (.istore 4, 2) := by decide +kernel
theorem dX0_findOwn_5 : decode cX0_findOwn 5 = .ok (.iload 4, 2) := by decide +kernel
theorem dX0_findOwn_7 : decode cX0_findOwn 7 = .ok (.aload_n 0, 1) := by decide +kernel
theorem dX0_findOwn_8 : decode cX0_findOwn 8 = .ok (.getfield 85, 3) := by decide +kernel
theorem dX0_findOwn_11 : decode cX0_findOwn 11 = .ok (.if_icmp .ge 43, 3) := by decide +kernel
theorem dX0_findOwn_14 : decode cX0_findOwn 14 = .ok (.aload_n 0, 1) := by decide +kernel
theorem dX0_findOwn_15 : decode cX0_findOwn 15 = .ok (.iload 4, 2) := by decide +kernel
theorem dX0_findOwn_17 : decode cX0_findOwn 17 = .ok (.iload_n 1, 1) := by decide +kernel
theorem dX0_findOwn_18 : decode cX0_findOwn 18 = .ok (.invokevirtual 130, 3) := by decide +kernel
theorem dX0_findOwn_21 : decode cX0_findOwn 21 = .ok (.ifCond .eq 27, 3) := by decide +kernel
theorem dX0_findOwn_24 : decode cX0_findOwn 24 = .ok (.aload_n 0, 1) := by decide +kernel
theorem dX0_findOwn_25 : decode cX0_findOwn 25 = .ok (.getfield 16, 3) := by decide +kernel
theorem dX0_findOwn_28 : decode cX0_findOwn 28 = .ok (.iload 4, 2) := by decide +kernel
theorem dX0_findOwn_30 : decode cX0_findOwn 30 = .ok (.iaload, 1) := by decide +kernel
theorem dX0_findOwn_31 : decode cX0_findOwn 31 = .ok (.iload_n 2, 1) := by decide +kernel
theorem dX0_findOwn_32 : decode cX0_findOwn 32 = .ok (.if_icmp .ne 16, 3) := by decide +kernel
theorem dX0_findOwn_35 : decode cX0_findOwn 35 = .ok (.aload_n 0, 1) := by decide +kernel
theorem dX0_findOwn_36 : decode cX0_findOwn 36 = .ok (.iload 4, 2) := by decide +kernel
theorem dX0_findOwn_38 : decode cX0_findOwn 38 = .ok (.iload_n 3, 1) := by decide +kernel
theorem dX0_findOwn_39 : decode cX0_findOwn 39 = .ok (.invokevirtual 167, 3) := by decide +kernel
theorem dX0_findOwn_42 : decode cX0_findOwn 42 = .ok (.ifCond .eq 6, 3) := by decide +kernel
theorem dX0_findOwn_45 : decode cX0_findOwn 45 = .ok (.iload 4, 2) := by decide +kernel
theorem dX0_findOwn_47 : decode cX0_findOwn 47 = .ok (.istore_n 3, 1) := by decide +kernel
theorem dX0_findOwn_48 : decode cX0_findOwn 48 = .ok (.iinc 4 1, 3) := by decide +kernel
theorem dX0_findOwn_51 : decode cX0_findOwn 51 = .ok (.goto (-46), 3) := by decide +kernel
theorem dX0_findOwn_54 : decode cX0_findOwn 54 = .ok (.iload_n 3, 1) := by decide +kernel
theorem dX0_findOwn_55 : decode cX0_findOwn 55 = .ok (.ireturn, 1) := by decide +kernel
theorem dX0_findLoot_0 : decode cX0_findLoot 0 = .ok (.iconst (-1), 1) := by decide +kernel
theorem dX0_findLoot_1 : decode cX0_findLoot 1 = .ok (.istore_n 3, 1) := by decide +kernel
theorem dX0_findLoot_2 : decode cX0_findLoot 2 = .ok (.iconst 0, 1) := by decide +kernel
theorem dX0_findLoot_3 : decode cX0_findLoot 3 = .ok (.istore 4, 2) := by decide +kernel
theorem dX0_findLoot_5 : decode cX0_findLoot 5 = .ok (.iload 4, 2) := by decide +kernel
theorem dX0_findLoot_7 : decode cX0_findLoot 7 = .ok (.aload_n 0, 1) := by decide +kernel
theorem dX0_findLoot_8 : decode cX0_findLoot 8 = .ok (.getfield 85, 3) := by decide +kernel
theorem dX0_findLoot_11 : decode cX0_findLoot 11 = .ok (.if_icmp .ge 33, 3) := by decide +kernel
theorem dX0_findLoot_14 : decode cX0_findLoot 14 = .ok (.aload_n 0, 1) := by decide +kernel
theorem dX0_findLoot_15 : decode cX0_findLoot 15 = .ok (.iload 4, 2) := by decide +kernel
theorem dX0_findLoot_17 : decode cX0_findLoot 17 = .ok (.iload_n 1, 1) := by decide +kernel
theorem dX0_findLoot_18 : decode cX0_findLoot 18 = .ok (.iload_n 2, 1) := by decide +kernel
theorem dX0_findLoot_19 : decode cX0_findLoot 19 = .ok (.invokevirtual 194, 3) := by decide +kernel
theorem dX0_findLoot_22 : decode cX0_findLoot 22 = .ok (.ifCond .eq 16, 3) := by decide +kernel
theorem dX0_findLoot_25 : decode cX0_findLoot 25 = .ok (.aload_n 0, 1) := by decide +kernel
theorem dX0_findLoot_26 : decode cX0_findLoot 26 = .ok (.iload 4, 2) := by decide +kernel
theorem dX0_findLoot_28 : decode cX0_findLoot 28 = .ok (.iload_n 3, 1) := by decide +kernel
theorem dX0_findLoot_29 : decode cX0_findLoot 29 = .ok (.invokevirtual 167, 3) := by decide +kernel
theorem dX0_findLoot_32 : decode cX0_findLoot 32 = .ok (.ifCond .eq 6, 3) := by decide +kernel
theorem dX0_findLoot_35 : decode cX0_findLoot 35 = .ok (.iload 4, 2) := by decide +kernel
theorem dX0_findLoot_37 : decode cX0_findLoot 37 = .ok (.istore_n 3, 1) := by decide +kernel
theorem dX0_findLoot_38 : decode cX0_findLoot 38 = .ok (.iinc 4 1, 3) := by decide +kernel
theorem dX0_findLoot_41 : decode cX0_findLoot 41 = .ok (.goto (-36), 3) := by decide +kernel
theorem dX0_findLoot_44 : decode cX0_findLoot 44 = .ok (.iload_n 3, 1) := by decide +kernel
theorem dX0_findLoot_45 : decode cX0_findLoot 45 = .ok (.ireturn, 1) := by decide +kernel
theorem dX0_isLoot_0 : decode cX0_isLoot 0 = .ok (.aload_n 0, 1) := by decide +kernel
theorem dX0_isLoot_1 : decode cX0_isLoot 1 = .ok (.getfield 19, 3) := by decide +kernel
theorem dX0_isLoot_4 : decode cX0_isLoot 4 = .ok (.iload_n 1, 1) := by decide +kernel
theorem dX0_isLoot_5 : decode cX0_isLoot 5 = .ok (.iaload, 1) := by decide +kernel
theorem dX0_isLoot_6 : decode cX0_isLoot 6 = .ok (.ifCond .ne 26, 3) := by decide +kernel
theorem dX0_isLoot_9 : decode cX0_isLoot 9 = .ok (.aload_n 0, 1) := by decide +kernel
theorem dX0_isLoot_10 : decode cX0_isLoot 10 = .ok (.getfield 16, 3) := by decide +kernel
theorem dX0_isLoot_13 : decode cX0_isLoot 13 = .ok (.iload_n 1, 1) := by decide +kernel
theorem dX0_isLoot_14 : decode cX0_isLoot 14 = .ok (.iaload, 1) := by decide +kernel
theorem dX0_isLoot_15 : decode cX0_isLoot 15 = .ok (.iload_n 3, 1) := by decide +kernel
theorem dX0_isLoot_16 : decode cX0_isLoot 16 = .ok (.if_icmp .ne 16, 3) := by decide +kernel
theorem dX0_isLoot_19 : decode cX0_isLoot 19 = .ok (.aload_n 0, 1) := by decide +kernel
theorem dX0_isLoot_20 : decode cX0_isLoot 20 = .ok (.iload_n 1, 1) := by decide +kernel
theorem dX0_isLoot_21 : decode cX0_isLoot 21 = .ok (.iload_n 2, 1) := by decide +kernel
theorem dX0_isLoot_22 : decode cX0_isLoot 22 = .ok (.invokevirtual 185, 3) := by decide +kernel
theorem dX0_isLoot_25 : decode cX0_isLoot 25 = .ok (.ifCond .ne 7, 3) := by decide +kernel
theorem dX0_isLoot_28 : decode cX0_isLoot 28 = .ok (.iconst 1, 1) := by decide +kernel
theorem dX0_isLoot_29 : decode cX0_isLoot 29 = .ok (.goto 4, 3) := by decide +kernel
theorem dX0_isLoot_32 : decode cX0_isLoot 32 = .ok (.iconst 0, 1) := by decide +kernel
theorem dX0_isLoot_33 : decode cX0_isLoot 33 = .ok (.ireturn, 1) := by decide +kernel
theorem dX0_giveToCpu_0 : decode cX0_giveToCpu 0 = .ok (.aload_n 0, 1) := by decide +kernel
theorem dX0_giveToCpu_1 : decode cX0_giveToCpu 1 = .ok (.getfield 35, 3) := by decide +kernel
theorem dX0_giveToCpu_4 : decode cX0_giveToCpu 4 = .ok (.iload_n 1, 1) := by decide +kernel
theorem dX0_giveToCpu_5 : decode cX0_giveToCpu 5 = .ok (.iload_n 2, 1) := by decide +kernel
theorem dX0_giveToCpu_6 : decode cX0_giveToCpu 6 = .ok (.iastore, 1) := by decide +kernel
theorem dX0_giveToCpu_7 : decode cX0_giveToCpu 7 = .ok (.aload_n 0, 1) := by decide +kernel
theorem dX0_giveToCpu_8 : decode cX0_giveToCpu 8 = .ok (.getfield 38, 3) := by decide +kernel
theorem dX0_giveToCpu_11 : decode cX0_giveToCpu 11 = .ok (.iload_n 1, 1) := by decide +kernel
theorem dX0_giveToCpu_12 : decode cX0_giveToCpu 12 = .ok (.iload_n 2, 1) := by decide +kernel
theorem dX0_giveToCpu_13 : decode cX0_giveToCpu 13 = .ok (.iconst (-1), 1) := by decide +kernel
theorem dX0_giveToCpu_14 : decode cX0_giveToCpu 14 = .ok (.if_icmp .ne 15, 3) := by decide +kernel
theorem dX0_giveToCpu_17 : decode cX0_giveToCpu 17 = .ok (.aload_n 0, 1) := by decide +kernel
theorem dX0_giveToCpu_18 : decode cX0_giveToCpu 18 = .ok (.iload_n 1, 1) := by decide +kernel
theorem dX0_giveToCpu_19 : decode cX0_giveToCpu 19 = .ok (.invokevirtual 127, 3) := by decide +kernel
theorem dX0_giveToCpu_22 : decode cX0_giveToCpu 22 = .ok (.ifCond .le 7, 3) := by decide +kernel
theorem dX0_giveToCpu_25 : decode cX0_giveToCpu 25 = .ok (.iconst 1, 1) := by decide +kernel
theorem dX0_giveToCpu_26 : decode cX0_giveToCpu 26 = .ok (.goto 4, 3) := by decide +kernel
theorem dX0_giveToCpu_29 : decode cX0_giveToCpu 29 = .ok (.iconst 0, 1) := by decide +kernel
theorem dX0_giveToCpu_30 : decode cX0_giveToCpu 30 = .ok (.bastore, 1) := by decide +kernel
theorem dX0_giveToCpu_31 : decode cX0_giveToCpu 31 = .ok (.iload_n 2, 1) := by decide +kernel
theorem dX0_giveToCpu_32 : decode cX0_giveToCpu 32 = .ok (.iconst (-1), 1) := by decide +kernel
theorem dX0_giveToCpu_33 : decode cX0_giveToCpu 33 = .ok (.if_icmp .eq 10, 3) := by decide +kernel
theorem dX0_giveToCpu_36 : decode cX0_giveToCpu 36 = .ok (.aload_n 0, 1) := by decide +kernel
theorem dX0_giveToCpu_37 : decode cX0_giveToCpu 37 = .ok (.getfield 19, 3) := by decide +kernel
theorem dX0_giveToCpu_40 : decode cX0_giveToCpu 40 = .ok (.iload_n 2, 1) := by decide +kernel
theorem dX0_giveToCpu_41 : decode cX0_giveToCpu 41 = .ok (.iconst 1, 1) := by decide +kernel
theorem dX0_giveToCpu_42 : decode cX0_giveToCpu 42 = .ok (.iastore, 1) := by decide +kernel
theorem dX0_giveToCpu_43 : decode cX0_giveToCpu 43 = .ok (.return_, 1) := by decide +kernel
theorem dX0_simulateTick_0 : decode cX0_simulateTick 0 = .ok (.iconst 0, 1) := by decide +kernel
theorem dX0_simulateTick_1 : decode cX0_simulateTick 1 = .ok (.istore_n 1, 1) := by decide +kernel
theorem dX0_simulateTick_2 : decode cX0_simulateTick 2 = .ok (.iload_n 1, 1) := by decide +kernel
theorem dX0_simulateTick_3 : decode cX0_simulateTick 3 = .ok (.aload_n 0, 1) := by decide +kernel
theorem dX0_simulateTick_4 : decode cX0_simulateTick 4 = .ok (.getfield 62, 3) := by decide +kernel
theorem dX0_simulateTick_7 : decode cX0_simulateTick 7 = .ok (.if_icmp .ge 14, 3) := by decide +kernel
theorem dX0_simulateTick_10 : decode cX0_simulateTick 10 = .ok (.aload_n 0, 1) := by decide +kernel
theorem dX0_simulateTick_11 : decode cX0_simulateTick 11 = .ok (.iload_n 1, 1) := by decide +kernel
theorem dX0_simulateTick_12 : decode cX0_simulateTick 12 = .ok (.invokevirtual 198, 3) := by decide +kernel
theorem dX0_simulateTick_15 : decode cX0_simulateTick 15 = .ok (.iinc 1 1, 3) := by decide +kernel
theorem dX0_simulateTick_18 : decode cX0_simulateTick 18 = .ok (.goto (-16), 3) := by decide +kernel
theorem dX0_simulateTick_21 : decode cX0_simulateTick 21 = .ok (.aload_n 0, 1) := by decide +kernel
theorem dX0_simulateTick_22 : decode cX0_simulateTick 22 = .ok (.invokevirtual 201, 3) := by decide +kernel
theorem dX0_simulateTick_25 : decode cX0_simulateTick 25 = .ok (.istore_n 1, 1) := by decide +kernel
theorem dX0_simulateTick_26 : decode cX0_simulateTick 26 = .ok (.aload_n 0, 1) := by decide +kernel
theorem dX0_simulateTick_27 : decode cX0_simulateTick 27 = .ok (.invokevirtual 204, 3) := by decide +kernel
theorem dX0_simulateTick_30 : decode cX0_simulateTick 30 = .ok (.aload_n 0, 1) := by decide +kernel
theorem dX0_simulateTick_31 : decode cX0_simulateTick 31 = .ok (.invokevirtual 207, 3) := by decide +kernel
theorem dX0_simulateTick_34 : decode cX0_simulateTick 34 = .ok (.iload_n 1, 1) := by decide +kernel
theorem dX0_simulateTick_35 : decode cX0_simulateTick 35 = .ok (.ireturn, 1) := by decide +kernel
theorem dX0_chargeTasks_0 : decode cX0_chargeTasks 0 = .ok (.iconst 0, 1) := by decide +kernel
theorem dX0_chargeTasks_1 : decode cX0_chargeTasks 1 = .ok (.istore_n 1, 1) := by decide +kernel
theorem dX0_chargeTasks_2 : decode cX0_chargeTasks 2 = .ok (.iconst 0, 1) := by decide +kernel
theorem dX0_chargeTasks_3 : decode cX0_chargeTasks 3 = .ok (.istore_n 2, 1) := by decide +kernel
theorem dX0_chargeTasks_4 : decode cX0_chargeTasks 4 = .ok (.iload_n 2, 1) := by decide +kernel
theorem dX0_chargeTasks_5 : decode cX0_chargeTasks 5 = .ok (.aload_n 0, 1) := by decide +kernel
theorem dX0_chargeTasks_6 : decode cX0_chargeTasks 6 = .ok (.getfield 85, 3) := by decide +kernel
theorem dX0_chargeTasks_9 : decode cX0_chargeTasks 9 = .ok (.if_icmp .ge 73, 3) := by decide +kernel
theorem dX0_chargeTasks_12 : decode cX0_chargeTasks 12 = .ok (.aload_n 0, 1) := by decide +kernel
theorem dX0_chargeTasks_13 : decode cX0_chargeTasks 13 = .ok (.getfield 19, 3) := by decide +kernel
theorem dX0_chargeTasks_16 : decode cX0_chargeTasks 16 = .ok (.iload_n 2, 1) := by decide +kernel
theorem dX0_chargeTasks_17 : decode cX0_chargeTasks 17 = .ok (.iaload, 1) := by decide +kernel
theorem dX0_chargeTasks_18 : decode cX0_chargeTasks 18 = .ok (.iconst 1, 1) := by decide +kernel
theorem dX0_chargeTasks_19 : decode cX0_chargeTasks 19 = .ok (.if_icmp .ne 38, 3) := by decide +kernel
theorem dX0_chargeTasks_22 : decode cX0_chargeTasks 22 = .ok (.aload_n 0, 1) := by decide +kernel
theorem dX0_chargeTasks_23 : decode cX0_chargeTasks 23 = .ok (.getfield 26, 3) := by decide +kernel
theorem dX0_chargeTasks_26 : decode cX0_chargeTasks 26 = .ok (.iload_n 2, 1) := by decide +kernel
theorem dX0_chargeTasks_27 : decode cX0_chargeTasks 27 = .ok (.dup2, 1) := by decide +kernel
theorem dX0_chargeTasks_28 : decode cX0_chargeTasks 28 = .ok (.iaload, 1) := by decide +kernel
theorem dX0_chargeTasks_29 : decode cX0_chargeTasks 29 = .ok (.iconst 1, 1) := by decide +kernel
theorem dX0_chargeTasks_30 : decode cX0_chargeTasks 30 = .ok (.iadd, 1) := by decide +kernel
theorem dX0_chargeTasks_31 : decode cX0_chargeTasks 31 = .ok (.iastore, 1) := by decide +kernel
theorem dX0_chargeTasks_32 : decode cX0_chargeTasks 32 = .ok (.aload_n 0, 1) := by decide +kernel
theorem dX0_chargeTasks_33 : decode cX0_chargeTasks 33 = .ok (.getfield 22, 3) := by decide +kernel
theorem dX0_chargeTasks_36 : decode cX0_chargeTasks 36 = .ok (.iload_n 2, 1) := by decide +kernel
theorem dX0_chargeTasks_37 : decode cX0_chargeTasks 37 = .ok (.dup2, 1) := by decide +kernel
theorem dX0_chargeTasks_38 : decode cX0_chargeTasks 38 = .ok (.laload, 1) := by decide +kernel
theorem dX0_chargeTasks_39 : decode cX0_chargeTasks 39 = .ok (.aload_n 0, 1) := by decide +kernel
theorem dX0_chargeTasks_40 : decode cX0_chargeTasks 40 = .ok (.getfield 13, 3) := by decide +kernel
theorem dX0_chargeTasks_43 : decode cX0_chargeTasks 43 = .ok (.iload_n 2, 1) := by decide +kernel
theorem dX0_chargeTasks_44 : decode cX0_chargeTasks 44 = .ok (.iaload, 1) := by decide +kernel
theorem dX0_chargeTasks_45 : decode cX0_chargeTasks 45 = .ok (.invokestatic 210, 3) := by decide +kernel
theorem dX0_chargeTasks_48 : decode cX0_chargeTasks 48 = .ok (.i2l, 1) := by decide +kernel
theorem dX0_chargeTasks_49 : decode cX0_chargeTasks 49 = .ok (.ladd, 1) := by decide +kernel
theorem dX0_chargeTasks_50 : decode cX0_chargeTasks 50 = .ok (.lastore, 1) := by decide +kernel
theorem dX0_chargeTasks_51 : decode cX0_chargeTasks 51 = .ok (.iinc 1 1, 3) := by decide +kernel
theorem dX0_chargeTasks_54 : decode cX0_chargeTasks 54 = .ok (.goto 22, 3) := by decide +kernel
theorem dX0_chargeTasks_57 : decode cX0_chargeTasks 57 = .ok (.aload_n 0, 1) := by decide +kernel
theorem dX0_chargeTasks_58 : decode cX0_chargeTasks 58 = .ok (.getfield 19, 3) := by decide +kernel
theorem dX0_chargeTasks_61 : decode cX0_chargeTasks 61 = .ok (.iload_n 2, 1) := by decide +kernel
theorem dX0_chargeTasks_62 : decode cX0_chargeTasks 62 = .ok (.iaload, 1) := by decide +kernel
theorem dX0_chargeTasks_63 : decode cX0_chargeTasks 63 = .ok (.ifCond .ne 13, 3) := by decide +kernel
theorem dX0_chargeTasks_66 : decode cX0_chargeTasks 66 = .ok (.aload_n 0, 1) := by decide +kernel
theorem dX0_chargeTasks_67 : decode cX0_chargeTasks 67 = .ok (.getfield 29, 3) := by decide +kernel
theorem dX0_chargeTasks_70 : decode cX0_chargeTasks 70 = .ok (.iload_n 2, 1) := by decide +kernel
theorem dX0_chargeTasks_71 : decode cX0_chargeTasks 71 = .ok (.dup2, 1) := by decide +kernel
theorem dX0_chargeTasks_72 : decode cX0_chargeTasks 72 = .ok (.iaload, 1) := by decide +kernel
theorem dX0_chargeTasks_73 : decode cX0_chargeTasks 73 = .ok (.iconst 1, 1) := by decide +kernel
theorem dX0_chargeTasks_74 : decode cX0_chargeTasks 74 = .ok (.iadd, 1) := by decide +kernel
theorem dX0_chargeTasks_75 : decode cX0_chargeTasks 75 = .ok (.iastore, 1) := by decide +kernel
theorem dX0_chargeTasks_76 : decode cX0_chargeTasks 76 = .ok (.iinc 2 1, 3) := by decide +kernel
theorem dX0_chargeTasks_79 : decode cX0_chargeTasks 79 = .ok (.goto (-75), 3) := by decide +kernel
theorem dX0_chargeTasks_82 : decode cX0_chargeTasks 82 = .ok (.iload_n 1, 1) := by decide +kernel
theorem dX0_chargeTasks_83 : decode cX0_chargeTasks 83 = .ok (.ireturn, 1) := by decide +kernel
theorem dX0_costOfTick_0 : decode cX0_costOfTick 0 = .ok (.iload_n 0, 1) := by decide +kernel
theorem dX0_costOfTick_1 : decode cX0_costOfTick 1 = .ok (.iconst 1, 1) := by decide +kernel
theorem dX0_costOfTick_2 : decode cX0_costOfTick 2 = .ok (.if_icmp .ge 9, 3) := by decide +kernel
theorem dX0_costOfTick_5 : decode cX0_costOfTick 5 = .ok (.sipush 5040, 3) := by decide +kernel
theorem dX0_costOfTick_8 : decode cX0_costOfTick 8 = .ok (.goto 8, 3) := by decide +kernel
theorem dX0_costOfTick_11 : decode cX0_costOfTick 11 = .ok (.sipush 5040, 3) := by decide +kernel
theorem dX0_costOfTick_14 : decode cX0_costOfTick 14 = .ok (.iload_n 0, 1) := by decide +kernel
theorem dX0_costOfTick_15 : decode cX0_costOfTick 15 = .ok (.idiv, 1) := by decide +kernel
theorem dX0_costOfTick_16 : decode cX0_costOfTick 16 = .ok (.ireturn, 1) := by decide +kernel
theorem dX0_countIdleCpus_0 : decode cX0_countIdleCpus 0 = .ok (.iconst 0, 1) := by decide +kernel
theorem dX0_countIdleCpus_1 : decode cX0_countIdleCpus 1 = .ok (.istore_n 1, 1) := by decide +kernel
theorem dX0_countIdleCpus_2 : decode cX0_countIdleCpus 2 = .ok (.iload_n 1, 1) := by decide +kernel
theorem dX0_countIdleCpus_3 : decode cX0_countIdleCpus 3 = .ok (.aload_n 0, 1) := by decide +kernel
theorem dX0_countIdleCpus_4 : decode cX0_countIdleCpus 4 = .ok (.invokevirtual 147, 3) := by decide +kernel
theorem dX0_countIdleCpus_7 : decode cX0_countIdleCpus 7 = .ok (.if_icmp .ge 54, 3) := by decide +kernel
theorem dX0_countIdleCpus_10 : decode cX0_countIdleCpus 10 = .ok (.aload_n 0, 1) := by decide +kernel
theorem dX0_countIdleCpus_11 : decode cX0_countIdleCpus 11 = .ok (.getfield 35, 3) := by decide +kernel
theorem dX0_countIdleCpus_14 : decode cX0_countIdleCpus 14 = .ok (.iload_n 1, 1) := by decide +kernel
theorem dX0_countIdleCpus_15 : decode cX0_countIdleCpus 15 = .ok (.iaload, 1) := by decide +kernel
theorem dX0_countIdleCpus_16 : decode cX0_countIdleCpus 16 = .ok (.iconst (-1), 1) := by decide +kernel
theorem dX0_countIdleCpus_17 : decode cX0_countIdleCpus 17 = .ok (.if_icmp .eq 6, 3) := by decide +kernel
theorem dX0_countIdleCpus_20 : decode cX0_countIdleCpus 20 = .ok (.goto 35, 3) := by decide +kernel
theorem dX0_countIdleCpus_23 : decode cX0_countIdleCpus 23 = .ok (.aload_n 0, 1) := by decide +kernel
theorem dX0_countIdleCpus_24 : decode cX0_countIdleCpus 24 = .ok (.getfield 38, 3) := by decide +kernel
theorem dX0_countIdleCpus_27 : decode cX0_countIdleCpus 27 = .ok (.iload_n 1, 1) := by decide +kernel
theorem dX0_countIdleCpus_28 : decode cX0_countIdleCpus 28 = .ok (.baload, 1) := by decide +kernel
theorem dX0_countIdleCpus_29 : decode cX0_countIdleCpus 29 = .ok (.ifCond .eq 16, 3) := by decide +kernel
theorem dX0_countIdleCpus_32 : decode cX0_countIdleCpus 32 = .ok (.aload_n 0, 1) := by decide +kernel
theorem dX0_countIdleCpus_33 : decode cX0_countIdleCpus 33 = .ok (.getfield 45, 3) := by decide +kernel
theorem dX0_countIdleCpus_36 : decode cX0_countIdleCpus 36 = .ok (.iload_n 1, 1) := by decide +kernel
theorem dX0_countIdleCpus_37 : decode cX0_countIdleCpus 37 = .ok (.dup2, 1) := by decide +kernel
theorem dX0_countIdleCpus_38 : decode cX0_countIdleCpus 38 = .ok (.iaload, 1) := by decide +kernel
theorem dX0_countIdleCpus_39 : decode cX0_countIdleCpus 39 = .ok (.iconst 1, 1) := by decide +kernel
theorem dX0_countIdleCpus_40 : decode cX0_countIdleCpus 40 = .ok (.iadd, 1) := by decide +kernel
theorem dX0_countIdleCpus_41 : decode cX0_countIdleCpus 41 = .ok (.iastore, 1) := by decide +kernel
theorem dX0_countIdleCpus_42 : decode cX0_countIdleCpus 42 = .ok (.goto 13, 3) := by decide +kernel
theorem dX0_countIdleCpus_45 : decode cX0_countIdleCpus 45 = .ok (.aload_n 0, 1) := by decide +kernel
theorem dX0_countIdleCpus_46 : decode cX0_countIdleCpus 46 = .ok (.getfield 42, 3) := by decide +kernel
theorem dX0_countIdleCpus_49 : decode cX0_countIdleCpus 49 = .ok (.iload_n 1, 1) := by decide +kernel
theorem dX0_countIdleCpus_50 : decode cX0_countIdleCpus 50 = .ok (.dup2, 1) := by decide +kernel
theorem dX0_countIdleCpus_51 : decode cX0_countIdleCpus 51 = .ok (.iaload, 1) := by decide +kernel
theorem dX0_countIdleCpus_52 : decode cX0_countIdleCpus 52 = .ok (.iconst 1, 1) := by decide +kernel
theorem dX0_countIdleCpus_53 : decode cX0_countIdleCpus 53 = .ok (.iadd, 1) := by decide +kernel
theorem dX0_countIdleCpus_54 : decode cX0_countIdleCpus 54 = .ok (.iastore, 1) := by decide +kernel
theorem dX0_countIdleCpus_55 : decode cX0_countIdleCpus 55 = .ok (.iinc 1 1, 3) := by decide +kernel
theorem dX0_countIdleCpus_58 : decode cX0_countIdleCpus 58 = .ok (.goto (-56), 3) := by decide +kernel
theorem dX0_countIdleCpus_61 : decode cX0_countIdleCpus 61 = .ok (.return_, 1) := by decide +kernel
theorem dX0_raiseBases_0 : decode cX0_raiseBases 0 = .ok (.iconst 0, 1) := by decide +kernel
theorem dX0_raiseBases_1 : decode cX0_raiseBases 1 = .ok (.istore_n 1, 1) := by decide +kernel
theorem dX0_raiseBases_2 : decode cX0_raiseBases 2 = .ok (.iload_n 1, 1) := by decide +kernel
theorem dX0_raiseBases_3 : decode cX0_raiseBases 3 = .ok (.aload_n 0, 1) := by decide +kernel
theorem dX0_raiseBases_4 : decode cX0_raiseBases 4 = .ok (.invokevirtual 147, 3) := by decide +kernel
theorem dX0_raiseBases_7 : decode cX0_raiseBases 7 = .ok (.if_icmp .ge 41, 3) := by decide +kernel
theorem dX0_raiseBases_10 : decode cX0_raiseBases 10 = .ok (.aload_n 0, 1) := by decide +kernel
theorem dX0_raiseBases_11 : decode cX0_raiseBases 11 = .ok (.iload_n 1, 1) := by decide +kernel
theorem dX0_raiseBases_12 : decode cX0_raiseBases 12 = .ok (.invokevirtual 213, 3) := by decide +kernel
theorem dX0_raiseBases_15 : decode cX0_raiseBases 15 = .ok (.istore_n 2, 1) := by decide +kernel
theorem dX0_raiseBases_16 : decode cX0_raiseBases 16 = .ok (.iload_n 2, 1) := by decide +kernel
theorem dX0_raiseBases_17 : decode cX0_raiseBases 17 = .ok (.iconst (-1), 1) := by decide +kernel
theorem dX0_raiseBases_18 : decode cX0_raiseBases 18 = .ok (.if_icmp .eq 24, 3) := by decide +kernel
theorem dX0_raiseBases_21 : decode cX0_raiseBases 21 = .ok (.aload_n 0, 1) := by decide +kernel
theorem dX0_raiseBases_22 : decode cX0_raiseBases 22 = .ok (.getfield 32, 3) := by decide +kernel
theorem dX0_raiseBases_25 : decode cX0_raiseBases 25 = .ok (.iload_n 1, 1) := by decide +kernel
theorem dX0_raiseBases_26 : decode cX0_raiseBases 26 = .ok (.aload_n 0, 1) := by decide +kernel
theorem dX0_raiseBases_27 : decode cX0_raiseBases 27 = .ok (.getfield 32, 3) := by decide +kernel
theorem dX0_raiseBases_30 : decode cX0_raiseBases 30 = .ok (.iload_n 1, 1) := by decide +kernel
theorem dX0_raiseBases_31 : decode cX0_raiseBases 31 = .ok (.laload, 1) := by decide +kernel
theorem dX0_raiseBases_32 : decode cX0_raiseBases 32 = .ok (.aload_n 0, 1) := by decide +kernel
theorem dX0_raiseBases_33 : decode cX0_raiseBases 33 = .ok (.getfield 22, 3) := by decide +kernel
theorem dX0_raiseBases_36 : decode cX0_raiseBases 36 = .ok (.iload_n 2, 1) := by decide +kernel
theorem dX0_raiseBases_37 : decode cX0_raiseBases 37 = .ok (.laload, 1) := by decide +kernel
theorem dX0_raiseBases_38 : decode cX0_raiseBases 38 = .ok (.invokestatic 170, 3) := by decide +kernel
theorem dX0_raiseBases_41 : decode cX0_raiseBases 41 = .ok (.lastore, 1) := by decide +kernel
theorem dX0_raiseBases_42 : decode cX0_raiseBases 42 = .ok (.iinc 1 1, 3) := by decide +kernel
theorem dX0_raiseBases_45 : decode cX0_raiseBases 45 = .ok (.goto (-43), 3) := by decide +kernel
theorem dX0_raiseBases_48 : decode cX0_raiseBases 48 = .ok (.return_, 1) := by decide +kernel
theorem dX0_findLeastTime_0 : decode cX0_findLeastTime 0 = .ok (.iconst (-1), 1) := by decide +kernel
theorem dX0_findLeastTime_1 : decode cX0_findLeastTime 1 = .ok (.istore_n 2, 1) := by decide +kernel
theorem dX0_findLeastTime_2 : decode cX0_findLeastTime 2 = .ok (.iconst 0, 1) := by decide +kernel
theorem dX0_findLeastTime_3 : decode cX0_findLeastTime 3 = .ok (.istore_n 3, 1) := by decide +kernel
theorem dX0_findLeastTime_4 : decode cX0_findLeastTime 4 = .ok (.iload_n 3, 1) := by decide +kernel
theorem dX0_findLeastTime_5 : decode cX0_findLeastTime 5 = .ok (.aload_n 0, 1) := by decide +kernel
theorem dX0_findLeastTime_6 : decode cX0_findLeastTime 6 = .ok (.getfield 85, 3) := by decide +kernel
theorem dX0_findLeastTime_9 : decode cX0_findLeastTime 9 = .ok (.if_icmp .ge 41, 3) := by decide +kernel
theorem dX0_findLeastTime_12 : decode cX0_findLeastTime 12 = .ok (.aload_n 0, 1) := by decide +kernel
theorem dX0_findLeastTime_13 : decode cX0_findLeastTime 13 = .ok (.iload_n 3, 1) := by decide +kernel
theorem dX0_findLeastTime_14 : decode cX0_findLeastTime 14 = .ok (.iload_n 1, 1) := by decide +kernel
theorem dX0_findLeastTime_15 : decode cX0_findLeastTime 15 = .ok (.invokevirtual 130, 3) := by decide +kernel
theorem dX0_findLeastTime_18 : decode cX0_findLeastTime 18 = .ok (.ifCond .eq 26, 3) := by decide +kernel
theorem dX0_findLeastTime_21 : decode cX0_findLeastTime 21 = .ok (.iload_n 2, 1) := by decide +kernel
theorem dX0_findLeastTime_22 : decode cX0_findLeastTime 22 = .ok (.iconst (-1), 1) := by decide +kernel
theorem dX0_findLeastTime_23 : decode cX0_findLeastTime 23 = .ok (.if_icmp .eq 19, 3) := by decide +kernel
theorem dX0_findLeastTime_26 : decode cX0_findLeastTime 26 = .ok (.aload_n 0, 1) := by decide +kernel
theorem dX0_findLeastTime_27 : decode cX0_findLeastTime 27 = .ok (.getfield 22, 3) := by decide +kernel
theorem dX0_findLeastTime_30 : decode cX0_findLeastTime 30 = .ok (.iload_n 3, 1) := by decide +kernel
theorem dX0_findLeastTime_31 : decode cX0_findLeastTime 31 = .ok (.laload, 1) := by decide +kernel
theorem dX0_findLeastTime_32 : decode cX0_findLeastTime 32 = .ok (.aload_n 0, 1) := by decide +kernel
theorem dX0_findLeastTime_33 : decode cX0_findLeastTime 33 = .ok (.getfield 22, 3) := by decide +kernel
theorem dX0_findLeastTime_36 : decode cX0_findLeastTime 36 = .ok (.iload_n 2, 1) := by decide +kernel
theorem dX0_findLeastTime_37 : decode cX0_findLeastTime 37 = .ok (.laload, 1) := by decide +kernel
theorem dX0_findLeastTime_38 : decode cX0_findLeastTime 38 = .ok (.lcmp, 1) := by decide +kernel
theorem dX0_findLeastTime_39 : decode cX0_findLeastTime 39 = .ok (.ifCond .ge 5, 3) := by decide +kernel
theorem dX0_findLeastTime_42 : decode cX0_findLeastTime 42 = .ok (.iload_n 3, 1) := by decide +kernel
theorem dX0_findLeastTime_43 : decode cX0_findLeastTime 43 = .ok (.istore_n 2, 1) := by decide +kernel
theorem dX0_findLeastTime_44 : decode cX0_findLeastTime 44 = .ok (.iinc 3 1, 3) := by decide +kernel
theorem dX0_findLeastTime_47 : decode cX0_findLeastTime 47 = .ok (.goto (-43), 3) := by decide +kernel
theorem dX0_findLeastTime_50 : decode cX0_findLeastTime 50 = .ok (.iload_n 2, 1) := by decide +kernel
theorem dX0_findLeastTime_51 : decode cX0_findLeastTime 51 = .ok (.ireturn, 1) := by decide +kernel
