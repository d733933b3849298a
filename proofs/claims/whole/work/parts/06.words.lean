/-- the tables' words that no step takes away -/
def lw_all : List Cond := lw_tbl.filter goodWord
theorem lw_mem {i : Nat} {w : Cond} (h : lw_tbl[i]? = some w) (g : goodWord w = true) : w ∈ lw_all := List.mem_filter.mpr ⟨List.mem_of_getElem? h, g⟩
theorem lw_all_tbl {w : Cond} (h : w ∈ lw_all) : w ∈ lw_tbl := (List.mem_filter.mp h).1
abbrev ws_ (y : MethodName) (c : ByteArray) (n : Nat) (r : Option FieldType) : List Cond := .code y c n r :: lw_all
theorem lw_gd {w : Cond} (h : w ∈ lw_all) : w ∈ lw_all ∧ ((w.onTables && w.keeps) = true ∨ ∃ ty, w = .arrayClass ty) := ⟨h, good_of_word (List.mem_filter.mp h).2⟩
theorem gw_ws {y : MethodName} {c : ByteArray} {n : Nat} {r : Option FieldType} (h5 : Cond.code y c n r ∈ lw_all) : GoodIn lw_all (ws_ y c n r) := fun w h => (List.mem_cons.mp h).elim (fun e => by rw [e]; exact lw_gd h5) lw_gd
theorem gw_V {own C : String} {idx : Nat} {y : MethodName} {c : ByteArray} {n : Nat} {r : Option FieldType} (h1 : Cond.methodLink own idx y ∈ lw_all) (h2 : Cond.instanceMethod y ∈ lw_all) (h3 : Cond.selects C y y ∈ lw_all) (h4 : Cond.initialized C ∈ lw_all) (h5 : Cond.code y c n r ∈ lw_all) : GoodIn lw_all (wsV own idx C y (ws_ y c n r)) := by
  intro w h
  rcases List.mem_append.mp h with h | h
  · rcases List.mem_cons.mp h with e | h
    · rw [e]; exact lw_gd h1
    · rcases List.mem_cons.mp h with e | h
      · rw [e]; exact lw_gd h2
      · rcases List.mem_cons.mp h with e | h
        · rw [e]; exact lw_gd h3
        · rcases List.mem_cons.mp h with e | h
          · rw [e]; exact lw_gd h4
          · cases h
  · exact gw_ws h5 w h
theorem gw_S {own : String} {idx : Nat} {y : MethodName} {c : ByteArray} {n : Nat} {r : Option FieldType} (h1 : Cond.methodLink own idx y ∈ lw_all) (h2 : Cond.static y ∈ lw_all) (h4 : Cond.initialized y.cls ∈ lw_all) (h5 : Cond.code y c n r ∈ lw_all) : GoodIn lw_all (va_wsS own idx y (ws_ y c n r)) := by
  intro w h
  rcases List.mem_append.mp h with h | h
  · rcases List.mem_cons.mp h with e | h
    · rw [e]; exact lw_gd h1
    · rcases List.mem_cons.mp h with e | h
      · rw [e]; exact lw_gd h2
      · rcases List.mem_cons.mp h with e | h
        · rw [e]; exact lw_gd h4
        · cases h
  · exact gw_ws h5 w h
theorem ini_L : Cond.initialized RL ∈ lw_all := lw_mem (i := 47) (by decide +kernel) (by decide +kernel)
theorem ini_X0 : Cond.initialized RX0 ∈ lw_all := lw_mem (i := 48) (by decide +kernel) (by decide +kernel)
theorem ini_X1 : Cond.initialized RX1 ∈ lw_all := lw_mem (i := 49) (by decide +kernel) (by decide +kernel)
theorem ini_Throwable : Cond.initialized "java/lang/Throwable" ∈ lw_all := lw_mem (i := 50) (by decide +kernel) (by decide +kernel)
theorem ini_Exception : Cond.initialized "java/lang/Exception" ∈ lw_all := lw_mem (i := 51) (by decide +kernel) (by decide +kernel)
theorem ini_RuntimeException : Cond.initialized "java/lang/RuntimeException" ∈ lw_all := lw_mem (i := 52) (by decide +kernel) (by decide +kernel)
theorem ini_IllegalArgumentException : Cond.initialized "java/lang/IllegalArgumentException" ∈ lw_all := lw_mem (i := 53) (by decide +kernel) (by decide +kernel)
theorem ini_J9 : Cond.initialized "java/lang/Math" ∈ lw_all := lw_mem (i := 54) (by decide +kernel) (by decide +kernel)
theorem ini_IllegalStateException : Cond.initialized "java/lang/IllegalStateException" ∈ lw_all := lw_mem (i := 55) (by decide +kernel) (by decide +kernel)
theorem ini_IndexOutOfBoundsException : Cond.initialized "java/lang/IndexOutOfBoundsException" ∈ lw_all := lw_mem (i := 56) (by decide +kernel) (by decide +kernel)
theorem cl_L_8 : Cond.classLink RL 8 "CoreScheduler" ∈ lw_all := lw_mem (i := 57) (by decide +kernel) (by decide +kernel)
theorem inst_X0 : Cond.instantiable RX0 17 ∈ lw_all := lw_mem (i := 58) (by decide +kernel) (by decide +kernel)
theorem fl_X0_9 : Cond.fieldLink RX0 9 "CoreScheduler" "taskCpu" "[I" ∈ lw_all := lw_mem (i := 69) (by decide +kernel) (by decide +kernel)
theorem fl_X0_13 : Cond.fieldLink RX0 13 "CoreScheduler" "taskWeight" "[I" ∈ lw_all := lw_mem (i := 70) (by decide +kernel) (by decide +kernel)
theorem fl_X0_16 : Cond.fieldLink RX0 16 "CoreScheduler" "taskCookie" "[I" ∈ lw_all := lw_mem (i := 71) (by decide +kernel) (by decide +kernel)
theorem fl_X0_19 : Cond.fieldLink RX0 19 "CoreScheduler" "taskState" "[I" ∈ lw_all := lw_mem (i := 72) (by decide +kernel) (by decide +kernel)
theorem fl_X0_22 : Cond.fieldLink RX0 22 "CoreScheduler" "taskTime" "[J" ∈ lw_all := lw_mem (i := 73) (by decide +kernel) (by decide +kernel)
theorem fl_X0_26 : Cond.fieldLink RX0 26 "CoreScheduler" "taskRun" "[I" ∈ lw_all := lw_mem (i := 74) (by decide +kernel) (by decide +kernel)
theorem fl_X0_29 : Cond.fieldLink RX0 29 "CoreScheduler" "taskWait" "[I" ∈ lw_all := lw_mem (i := 75) (by decide +kernel) (by decide +kernel)
theorem fl_X0_32 : Cond.fieldLink RX0 32 "CoreScheduler" "cpuBase" "[J" ∈ lw_all := lw_mem (i := 76) (by decide +kernel) (by decide +kernel)
theorem fl_X0_35 : Cond.fieldLink RX0 35 "CoreScheduler" "cpuTask" "[I" ∈ lw_all := lw_mem (i := 77) (by decide +kernel) (by decide +kernel)
theorem fl_X0_38 : Cond.fieldLink RX0 38 "CoreScheduler" "cpuForced" "[Z" ∈ lw_all := lw_mem (i := 78) (by decide +kernel) (by decide +kernel)
theorem fl_X0_42 : Cond.fieldLink RX0 42 "CoreScheduler" "cpuIdle" "[I" ∈ lw_all := lw_mem (i := 79) (by decide +kernel) (by decide +kernel)
theorem fl_X0_45 : Cond.fieldLink RX0 45 "CoreScheduler" "cpuForcedIdle" "[I" ∈ lw_all := lw_mem (i := 80) (by decide +kernel) (by decide +kernel)
theorem fl_X0_48 : Cond.fieldLink RX0 48 "CoreScheduler" "pickedCookie" "[I" ∈ lw_all := lw_mem (i := 81) (by decide +kernel) (by decide +kernel)
theorem fl_X0_62 : Cond.fieldLink RX0 62 "CoreScheduler" "coreTotal" "I" ∈ lw_all := lw_mem (i := 82) (by decide +kernel) (by decide +kernel)
theorem fl_X0_85 : Cond.fieldLink RX0 85 "CoreScheduler" "taskTotal" "I" ∈ lw_all := lw_mem (i := 83) (by decide +kernel) (by decide +kernel)
theorem fl_X0_142 : Cond.fieldLink RX0 142 "CoreScheduler" "stolenTotal" "I" ∈ lw_all := lw_mem (i := 84) (by decide +kernel) (by decide +kernel)
theorem fl_X0_66 : Cond.fieldLink RX0 66 "CoreScheduler" "stealing" "Z" ∈ lw_all := lw_mem (i := 85) (by decide +kernel) (by decide +kernel)
theorem acl_int : Cond.arrayClass .int ∈ lw_all := lw_mem (i := 121) (by decide +kernel) (by decide +kernel)
theorem acl_long : Cond.arrayClass .long ∈ lw_all := lw_mem (i := 122) (by decide +kernel) (by decide +kernel)
theorem acl_boolean : Cond.arrayClass .boolean ∈ lw_all := lw_mem (i := 123) (by decide +kernel) (by decide +kernel)
theorem cl_L_13 : Cond.classLink RL 13 "java/lang/IllegalArgumentException" ∈ lw_all := lw_mem (i := 139) (by decide +kernel) (by decide +kernel)
theorem cl_X0_55 : Cond.classLink RX0 55 "java/lang/IllegalArgumentException" ∈ lw_all := lw_mem (i := 144) (by decide +kernel) (by decide +kernel)
theorem acl_byte : Cond.arrayClass .byte ∈ lw_all := lw_mem (i := 211) (by decide +kernel) (by decide +kernel)
theorem cl_L_22 : Cond.classLink RL 22 "java/lang/IllegalStateException" ∈ lw_all := lw_mem (i := 316) (by decide +kernel) (by decide +kernel)
theorem cl_X0_88 : Cond.classLink RX0 88 "java/lang/IllegalStateException" ∈ lw_all := lw_mem (i := 334) (by decide +kernel) (by decide +kernel)
theorem cl_L_78 : Cond.classLink RL 78 "java/lang/IndexOutOfBoundsException" ∈ lw_all := lw_mem (i := 491) (by decide +kernel) (by decide +kernel)
theorem cl_X0_137 : Cond.classLink RX0 137 "java/lang/IndexOutOfBoundsException" ∈ lw_all := lw_mem (i := 500) (by decide +kernel) (by decide +kernel)
theorem cl_L_90 : Cond.classLink RL 90 "CoreSchedulerModel" ∈ lw_all := lw_mem (i := 537) (by decide +kernel) (by decide +kernel)
theorem inst_X1 : Cond.instantiable RX1 18 ∈ lw_all := lw_mem (i := 538) (by decide +kernel) (by decide +kernel)
theorem fl_X1_59 : Cond.fieldLink RX1 59 "CoreSchedulerModel" "fault" "I" ∈ lw_all := lw_mem (i := 547) (by decide +kernel) (by decide +kernel)
theorem fl_X1_7 : Cond.fieldLink RX1 7 "CoreSchedulerModel" "cores" "I" ∈ lw_all := lw_mem (i := 548) (by decide +kernel) (by decide +kernel)
theorem fl_X1_62 : Cond.fieldLink RX1 62 "CoreSchedulerModel" "stealing" "Z" ∈ lw_all := lw_mem (i := 549) (by decide +kernel) (by decide +kernel)
theorem fl_X1_66 : Cond.fieldLink RX1 66 "CoreSchedulerModel" "stolen" "I" ∈ lw_all := lw_mem (i := 550) (by decide +kernel) (by decide +kernel)
theorem fl_X1_13 : Cond.fieldLink RX1 13 "CoreSchedulerModel" "base" "[J" ∈ lw_all := lw_mem (i := 551) (by decide +kernel) (by decide +kernel)
theorem fl_X1_17 : Cond.fieldLink RX1 17 "CoreSchedulerModel" "runs" "[I" ∈ lw_all := lw_mem (i := 552) (by decide +kernel) (by decide +kernel)
theorem fl_X1_21 : Cond.fieldLink RX1 21 "CoreSchedulerModel" "forced" "[Z" ∈ lw_all := lw_mem (i := 553) (by decide +kernel) (by decide +kernel)
theorem fl_X1_25 : Cond.fieldLink RX1 25 "CoreSchedulerModel" "idle" "[I" ∈ lw_all := lw_mem (i := 554) (by decide +kernel) (by decide +kernel)
theorem fl_X1_28 : Cond.fieldLink RX1 28 "CoreSchedulerModel" "forcedIdle" "[I" ∈ lw_all := lw_mem (i := 555) (by decide +kernel) (by decide +kernel)
theorem fl_X1_31 : Cond.fieldLink RX1 31 "CoreSchedulerModel" "coreCookie" "[I" ∈ lw_all := lw_mem (i := 556) (by decide +kernel) (by decide +kernel)
theorem fl_X1_69 : Cond.fieldLink RX1 69 "CoreSchedulerModel" "tasks" "I" ∈ lw_all := lw_mem (i := 557) (by decide +kernel) (by decide +kernel)
theorem fl_X1_34 : Cond.fieldLink RX1 34 "CoreSchedulerModel" "cpu" "[I" ∈ lw_all := lw_mem (i := 558) (by decide +kernel) (by decide +kernel)
theorem fl_X1_37 : Cond.fieldLink RX1 37 "CoreSchedulerModel" "weight" "[I" ∈ lw_all := lw_mem (i := 559) (by decide +kernel) (by decide +kernel)
theorem fl_X1_40 : Cond.fieldLink RX1 40 "CoreSchedulerModel" "cookie" "[I" ∈ lw_all := lw_mem (i := 560) (by decide +kernel) (by decide +kernel)
theorem fl_X1_43 : Cond.fieldLink RX1 43 "CoreSchedulerModel" "state" "[I" ∈ lw_all := lw_mem (i := 561) (by decide +kernel) (by decide +kernel)
theorem fl_X1_46 : Cond.fieldLink RX1 46 "CoreSchedulerModel" "time" "[J" ∈ lw_all := lw_mem (i := 562) (by decide +kernel) (by decide +kernel)
theorem fl_X1_49 : Cond.fieldLink RX1 49 "CoreSchedulerModel" "ran" "[I" ∈ lw_all := lw_mem (i := 563) (by decide +kernel) (by decide +kernel)
theorem fl_X1_52 : Cond.fieldLink RX1 52 "CoreSchedulerModel" "waited" "[I" ∈ lw_all := lw_mem (i := 564) (by decide +kernel) (by decide +kernel)
theorem kl_X1_76 : Cond.constantLong RX1 76 4 ∈ lw_all := lw_mem (i := 610) (by decide +kernel) (by decide +kernel)
theorem kl_X1_115 : Cond.constantLong RX1 115 100 ∈ lw_all := lw_mem (i := 626) (by decide +kernel) (by decide +kernel)
theorem kl_X1_121 : Cond.constantLong RX1 121 64 ∈ lw_all := lw_mem (i := 678) (by decide +kernel) (by decide +kernel)
theorem kl_X1_123 : Cond.constantLong RX1 123 9 ∈ lw_all := lw_mem (i := 682) (by decide +kernel) (by decide +kernel)
theorem acl_double : Cond.arrayClass .double ∈ lw_all := lw_mem (i := 787) (by decide +kernel) (by decide +kernel)
theorem im_X0_init : Cond.instanceMethod yX0_init ∈ lw_all := lw_mem (i := 60) (by decide +kernel) (by decide +kernel)
theorem im_X0_startAnew : Cond.instanceMethod yX0_startAnew ∈ lw_all := lw_mem (i := 67) (by decide +kernel) (by decide +kernel)
theorem im_X0_setStealing : Cond.instanceMethod yX0_setStealing ∈ lw_all := lw_mem (i := 125) (by decide +kernel) (by decide +kernel)
theorem im_X0_taskCount : Cond.instanceMethod yX0_taskCount ∈ lw_all := lw_mem (i := 129) (by decide +kernel) (by decide +kernel)
theorem im_X0_stolenTasks : Cond.instanceMethod yX0_stolenTasks ∈ lw_all := lw_mem (i := 133) (by decide +kernel) (by decide +kernel)
theorem st_L_reset : Cond.static yL_reset ∈ lw_all := lw_mem (i := 137) (by decide +kernel) (by decide +kernel)
theorem im_X0_reset : Cond.instanceMethod yX0_reset ∈ lw_all := lw_mem (i := 141) (by decide +kernel) (by decide +kernel)
theorem st_L_tick : Cond.static yL_tick ∈ lw_all := lw_mem (i := 213) (by decide +kernel) (by decide +kernel)
theorem im_X0_tick : Cond.instanceMethod yX0_tick ∈ lw_all := lw_mem (i := 216) (by decide +kernel) (by decide +kernel)
theorem im_X0_simulateTick : Cond.instanceMethod yX0_simulateTick ∈ lw_all := lw_mem (i := 222) (by decide +kernel) (by decide +kernel)
theorem im_X0_pickForCore : Cond.instanceMethod yX0_pickForCore ∈ lw_all := lw_mem (i := 226) (by decide +kernel) (by decide +kernel)
theorem im_X0_findLeader : Cond.instanceMethod yX0_findLeader ∈ lw_all := lw_mem (i := 230) (by decide +kernel) (by decide +kernel)
theorem im_X0_isRunnable : Cond.instanceMethod yX0_isRunnable ∈ lw_all := lw_mem (i := 234) (by decide +kernel) (by decide +kernel)
theorem im_X0_isOnCore : Cond.instanceMethod yX0_isOnCore ∈ lw_all := lw_mem (i := 238) (by decide +kernel) (by decide +kernel)
theorem st_X0_coreOfCpu : Cond.static yX0_coreOfCpu ∈ lw_all := lw_mem (i := 241) (by decide +kernel) (by decide +kernel)
theorem im_X0_comesBefore : Cond.instanceMethod yX0_comesBefore ∈ lw_all := lw_mem (i := 245) (by decide +kernel) (by decide +kernel)
theorem im_X0_relativeTime : Cond.instanceMethod yX0_relativeTime ∈ lw_all := lw_mem (i := 249) (by decide +kernel) (by decide +kernel)
theorem im_X0_releaseTasks : Cond.instanceMethod yX0_releaseTasks ∈ lw_all := lw_mem (i := 253) (by decide +kernel) (by decide +kernel)
theorem im_X0_takeTask : Cond.instanceMethod yX0_takeTask ∈ lw_all := lw_mem (i := 257) (by decide +kernel) (by decide +kernel)
theorem im_X0_findOwn : Cond.instanceMethod yX0_findOwn ∈ lw_all := lw_mem (i := 261) (by decide +kernel) (by decide +kernel)
theorem im_X0_isQueued : Cond.instanceMethod yX0_isQueued ∈ lw_all := lw_mem (i := 265) (by decide +kernel) (by decide +kernel)
theorem im_X0_findLoot : Cond.instanceMethod yX0_findLoot ∈ lw_all := lw_mem (i := 269) (by decide +kernel) (by decide +kernel)
theorem im_X0_isLoot : Cond.instanceMethod yX0_isLoot ∈ lw_all := lw_mem (i := 273) (by decide +kernel) (by decide +kernel)
theorem im_X0_moveRunnable : Cond.instanceMethod yX0_moveRunnable ∈ lw_all := lw_mem (i := 277) (by decide +kernel) (by decide +kernel)
theorem im_X0_giveToCpu : Cond.instanceMethod yX0_giveToCpu ∈ lw_all := lw_mem (i := 281) (by decide +kernel) (by decide +kernel)
theorem im_X0_countQueue : Cond.instanceMethod yX0_countQueue ∈ lw_all := lw_mem (i := 285) (by decide +kernel) (by decide +kernel)
theorem im_X0_chargeTasks : Cond.instanceMethod yX0_chargeTasks ∈ lw_all := lw_mem (i := 289) (by decide +kernel) (by decide +kernel)
theorem st_X0_costOfTick : Cond.static yX0_costOfTick ∈ lw_all := lw_mem (i := 292) (by decide +kernel) (by decide +kernel)
theorem im_X0_countIdleCpus : Cond.instanceMethod yX0_countIdleCpus ∈ lw_all := lw_mem (i := 296) (by decide +kernel) (by decide +kernel)
theorem im_X0_cpuTotal : Cond.instanceMethod yX0_cpuTotal ∈ lw_all := lw_mem (i := 300) (by decide +kernel) (by decide +kernel)
theorem im_X0_raiseBases : Cond.instanceMethod yX0_raiseBases ∈ lw_all := lw_mem (i := 304) (by decide +kernel) (by decide +kernel)
theorem im_X0_findLeastTime : Cond.instanceMethod yX0_findLeastTime ∈ lw_all := lw_mem (i := 308) (by decide +kernel) (by decide +kernel)
theorem st_J9_max_f86c9 : Cond.static yJ9_max_f86c9 ∈ lw_all := lw_mem (i := 311) (by decide +kernel) (by decide +kernel)
theorem st_L_createTask : Cond.static yL_createTask ∈ lw_all := lw_mem (i := 314) (by decide +kernel) (by decide +kernel)
theorem im_X0_createTask : Cond.instanceMethod yX0_createTask ∈ lw_all := lw_mem (i := 318) (by decide +kernel) (by decide +kernel)
theorem im_X0_checkCpu : Cond.instanceMethod yX0_checkCpu ∈ lw_all := lw_mem (i := 323) (by decide +kernel) (by decide +kernel)
theorem st_X0_checkWeight : Cond.static yX0_checkWeight ∈ lw_all := lw_mem (i := 327) (by decide +kernel) (by decide +kernel)
theorem st_X0_checkCookie : Cond.static yX0_checkCookie ∈ lw_all := lw_mem (i := 331) (by decide +kernel) (by decide +kernel)
theorem im_X0_enterQueue : Cond.instanceMethod yX0_enterQueue ∈ lw_all := lw_mem (i := 352) (by decide +kernel) (by decide +kernel)
theorem st_L_sleep : Cond.static yL_sleep ∈ lw_all := lw_mem (i := 355) (by decide +kernel) (by decide +kernel)
theorem im_X0_sleep : Cond.instanceMethod yX0_sleep ∈ lw_all := lw_mem (i := 358) (by decide +kernel) (by decide +kernel)
theorem im_X0_checkTask : Cond.instanceMethod yX0_checkTask ∈ lw_all := lw_mem (i := 363) (by decide +kernel) (by decide +kernel)
theorem im_X0_stopTask : Cond.instanceMethod yX0_stopTask ∈ lw_all := lw_mem (i := 369) (by decide +kernel) (by decide +kernel)
theorem st_L_wake : Cond.static yL_wake ∈ lw_all := lw_mem (i := 372) (by decide +kernel) (by decide +kernel)
theorem im_X0_wake : Cond.instanceMethod yX0_wake ∈ lw_all := lw_mem (i := 375) (by decide +kernel) (by decide +kernel)
theorem st_L_exit : Cond.static yL_exit ∈ lw_all := lw_mem (i := 380) (by decide +kernel) (by decide +kernel)
theorem im_X0_exit : Cond.instanceMethod yX0_exit ∈ lw_all := lw_mem (i := 383) (by decide +kernel) (by decide +kernel)
theorem im_X0_checkNotExited : Cond.instanceMethod yX0_checkNotExited ∈ lw_all := lw_mem (i := 388) (by decide +kernel) (by decide +kernel)
theorem st_L_setWeight : Cond.static yL_setWeight ∈ lw_all := lw_mem (i := 392) (by decide +kernel) (by decide +kernel)
theorem im_X0_setWeight : Cond.instanceMethod yX0_setWeight ∈ lw_all := lw_mem (i := 395) (by decide +kernel) (by decide +kernel)
theorem st_L_setCookie : Cond.static yL_setCookie ∈ lw_all := lw_mem (i := 399) (by decide +kernel) (by decide +kernel)
theorem im_X0_setCookie : Cond.instanceMethod yX0_setCookie ∈ lw_all := lw_mem (i := 402) (by decide +kernel) (by decide +kernel)
theorem st_L_moveTask : Cond.static yL_moveTask ∈ lw_all := lw_mem (i := 406) (by decide +kernel) (by decide +kernel)
theorem im_X0_moveTask : Cond.instanceMethod yX0_moveTask ∈ lw_all := lw_mem (i := 409) (by decide +kernel) (by decide +kernel)
theorem st_L_stateOf : Cond.static yL_stateOf ∈ lw_all := lw_mem (i := 414) (by decide +kernel) (by decide +kernel)
theorem im_X0_stateOf : Cond.instanceMethod yX0_stateOf ∈ lw_all := lw_mem (i := 417) (by decide +kernel) (by decide +kernel)
theorem st_L_cpuOf : Cond.static yL_cpuOf ∈ lw_all := lw_mem (i := 421) (by decide +kernel) (by decide +kernel)
theorem im_X0_cpuOf : Cond.instanceMethod yX0_cpuOf ∈ lw_all := lw_mem (i := 424) (by decide +kernel) (by decide +kernel)
theorem st_L_virtualTime : Cond.static yL_virtualTime ∈ lw_all := lw_mem (i := 428) (by decide +kernel) (by decide +kernel)
theorem im_X0_virtualTime : Cond.instanceMethod yX0_virtualTime ∈ lw_all := lw_mem (i := 431) (by decide +kernel) (by decide +kernel)
theorem st_L_runTicks : Cond.static yL_runTicks ∈ lw_all := lw_mem (i := 435) (by decide +kernel) (by decide +kernel)
theorem im_X0_runTicks : Cond.instanceMethod yX0_runTicks ∈ lw_all := lw_mem (i := 438) (by decide +kernel) (by decide +kernel)
theorem st_L_waitTicks : Cond.static yL_waitTicks ∈ lw_all := lw_mem (i := 442) (by decide +kernel) (by decide +kernel)
theorem im_X0_waitTicks : Cond.instanceMethod yX0_waitTicks ∈ lw_all := lw_mem (i := 445) (by decide +kernel) (by decide +kernel)
theorem st_L_share : Cond.static yL_share ∈ lw_all := lw_mem (i := 449) (by decide +kernel) (by decide +kernel)
theorem im_X0_share : Cond.instanceMethod yX0_share ∈ lw_all := lw_mem (i := 452) (by decide +kernel) (by decide +kernel)
theorem st_L_runningTask : Cond.static yL_runningTask ∈ lw_all := lw_mem (i := 456) (by decide +kernel) (by decide +kernel)
theorem im_X0_runningTask : Cond.instanceMethod yX0_runningTask ∈ lw_all := lw_mem (i := 459) (by decide +kernel) (by decide +kernel)
theorem st_L_coreCookie : Cond.static yL_coreCookie ∈ lw_all := lw_mem (i := 463) (by decide +kernel) (by decide +kernel)
theorem im_X0_coreCookie : Cond.instanceMethod yX0_coreCookie ∈ lw_all := lw_mem (i := 466) (by decide +kernel) (by decide +kernel)
theorem im_X0_checkCore : Cond.instanceMethod yX0_checkCore ∈ lw_all := lw_mem (i := 471) (by decide +kernel) (by decide +kernel)
theorem st_L_leaderOf : Cond.static yL_leaderOf ∈ lw_all := lw_mem (i := 475) (by decide +kernel) (by decide +kernel)
theorem im_X0_leaderOf : Cond.instanceMethod yX0_leaderOf ∈ lw_all := lw_mem (i := 478) (by decide +kernel) (by decide +kernel)
theorem st_L_queueLength : Cond.static yL_queueLength ∈ lw_all := lw_mem (i := 482) (by decide +kernel) (by decide +kernel)
theorem im_X0_queueLength : Cond.instanceMethod yX0_queueLength ∈ lw_all := lw_mem (i := 485) (by decide +kernel) (by decide +kernel)
theorem st_L_queuedTask : Cond.static yL_queuedTask ∈ lw_all := lw_mem (i := 489) (by decide +kernel) (by decide +kernel)
theorem im_X0_queuedTask : Cond.instanceMethod yX0_queuedTask ∈ lw_all := lw_mem (i := 493) (by decide +kernel) (by decide +kernel)
theorem im_X0_positionOf : Cond.instanceMethod yX0_positionOf ∈ lw_all := lw_mem (i := 498) (by decide +kernel) (by decide +kernel)
theorem st_L_baseOf : Cond.static yL_baseOf ∈ lw_all := lw_mem (i := 517) (by decide +kernel) (by decide +kernel)
theorem im_X0_baseOf : Cond.instanceMethod yX0_baseOf ∈ lw_all := lw_mem (i := 520) (by decide +kernel) (by decide +kernel)
theorem st_L_idleTicks : Cond.static yL_idleTicks ∈ lw_all := lw_mem (i := 524) (by decide +kernel) (by decide +kernel)
theorem im_X0_idleTicks : Cond.instanceMethod yX0_idleTicks ∈ lw_all := lw_mem (i := 527) (by decide +kernel) (by decide +kernel)
theorem st_L_forcedIdleTicks : Cond.static yL_forcedIdleTicks ∈ lw_all := lw_mem (i := 531) (by decide +kernel) (by decide +kernel)
theorem im_X0_forcedIdleTicks : Cond.instanceMethod yX0_forcedIdleTicks ∈ lw_all := lw_mem (i := 534) (by decide +kernel) (by decide +kernel)
theorem im_X1_init : Cond.instanceMethod yX1_init ∈ lw_all := lw_mem (i := 540) (by decide +kernel) (by decide +kernel)
theorem im_X1_begins : Cond.instanceMethod yX1_begins ∈ lw_all := lw_mem (i := 545) (by decide +kernel) (by decide +kernel)
theorem im_X1_thrown : Cond.instanceMethod yX1_thrown ∈ lw_all := lw_mem (i := 603) (by decide +kernel) (by decide +kernel)
theorem im_X1_reset : Cond.instanceMethod yX1_reset ∈ lw_all := lw_mem (i := 607) (by decide +kernel) (by decide +kernel)
theorem st_X1_in : Cond.static yX1_in ∈ lw_all := lw_mem (i := 612) (by decide +kernel) (by decide +kernel)
theorem im_X1_isRefused : Cond.instanceMethod yX1_isRefused ∈ lw_all := lw_mem (i := 616) (by decide +kernel) (by decide +kernel)
theorem im_X1_setStealing : Cond.instanceMethod yX1_setStealing ∈ lw_all := lw_mem (i := 619) (by decide +kernel) (by decide +kernel)
theorem im_X1_tick : Cond.instanceMethod yX1_tick ∈ lw_all := lw_mem (i := 623) (by decide +kernel) (by decide +kernel)
theorem im_X1_tickOne : Cond.instanceMethod yX1_tickOne ∈ lw_all := lw_mem (i := 629) (by decide +kernel) (by decide +kernel)
theorem im_X1_picks : Cond.instanceMethod yX1_picks ∈ lw_all := lw_mem (i := 633) (by decide +kernel) (by decide +kernel)
theorem im_X1_leader : Cond.instanceMethod yX1_leader ∈ lw_all := lw_mem (i := 637) (by decide +kernel) (by decide +kernel)
theorem im_X1_isRunnable : Cond.instanceMethod yX1_isRunnable ∈ lw_all := lw_mem (i := 641) (by decide +kernel) (by decide +kernel)
theorem im_X1_isAhead : Cond.instanceMethod yX1_isAhead ∈ lw_all := lw_mem (i := 645) (by decide +kernel) (by decide +kernel)
theorem im_X1_relative : Cond.instanceMethod yX1_relative ∈ lw_all := lw_mem (i := 649) (by decide +kernel) (by decide +kernel)
theorem im_X1_firstOf : Cond.instanceMethod yX1_firstOf ∈ lw_all := lw_mem (i := 653) (by decide +kernel) (by decide +kernel)
theorem im_X1_toSteal : Cond.instanceMethod yX1_toSteal ∈ lw_all := lw_mem (i := 657) (by decide +kernel) (by decide +kernel)
theorem im_X1_goesTo : Cond.instanceMethod yX1_goesTo ∈ lw_all := lw_mem (i := 661) (by decide +kernel) (by decide +kernel)
theorem im_X1_queued : Cond.instanceMethod yX1_queued ∈ lw_all := lw_mem (i := 665) (by decide +kernel) (by decide +kernel)
theorem im_X1_createTask : Cond.instanceMethod yX1_createTask ∈ lw_all := lw_mem (i := 668) (by decide +kernel) (by decide +kernel)
theorem im_X1_noCpu : Cond.instanceMethod yX1_noCpu ∈ lw_all := lw_mem (i := 673) (by decide +kernel) (by decide +kernel)
theorem st_X1_noWeight : Cond.static yX1_noWeight ∈ lw_all := lw_mem (i := 676) (by decide +kernel) (by decide +kernel)
theorem st_X1_noCookie : Cond.static yX1_noCookie ∈ lw_all := lw_mem (i := 680) (by decide +kernel) (by decide +kernel)
theorem im_X1_sleep : Cond.instanceMethod yX1_sleep ∈ lw_all := lw_mem (i := 684) (by decide +kernel) (by decide +kernel)
theorem im_X1_noTask : Cond.instanceMethod yX1_noTask ∈ lw_all := lw_mem (i := 689) (by decide +kernel) (by decide +kernel)
theorem im_X1_becomes : Cond.instanceMethod yX1_becomes ∈ lw_all := lw_mem (i := 693) (by decide +kernel) (by decide +kernel)
theorem im_X1_wake : Cond.instanceMethod yX1_wake ∈ lw_all := lw_mem (i := 696) (by decide +kernel) (by decide +kernel)
theorem im_X1_exit : Cond.instanceMethod yX1_exit ∈ lw_all := lw_mem (i := 700) (by decide +kernel) (by decide +kernel)
theorem im_X1_hasExited : Cond.instanceMethod yX1_hasExited ∈ lw_all := lw_mem (i := 705) (by decide +kernel) (by decide +kernel)
theorem im_X1_setWeight : Cond.instanceMethod yX1_setWeight ∈ lw_all := lw_mem (i := 708) (by decide +kernel) (by decide +kernel)
theorem im_X1_setCookie : Cond.instanceMethod yX1_setCookie ∈ lw_all := lw_mem (i := 712) (by decide +kernel) (by decide +kernel)
theorem im_X1_moveTask : Cond.instanceMethod yX1_moveTask ∈ lw_all := lw_mem (i := 716) (by decide +kernel) (by decide +kernel)
theorem im_X1_taskCount : Cond.instanceMethod yX1_taskCount ∈ lw_all := lw_mem (i := 720) (by decide +kernel) (by decide +kernel)
theorem im_X1_stateOf : Cond.instanceMethod yX1_stateOf ∈ lw_all := lw_mem (i := 724) (by decide +kernel) (by decide +kernel)
theorem im_X1_cpuOf : Cond.instanceMethod yX1_cpuOf ∈ lw_all := lw_mem (i := 728) (by decide +kernel) (by decide +kernel)
theorem im_X1_virtualTime : Cond.instanceMethod yX1_virtualTime ∈ lw_all := lw_mem (i := 732) (by decide +kernel) (by decide +kernel)
theorem im_X1_runTicks : Cond.instanceMethod yX1_runTicks ∈ lw_all := lw_mem (i := 736) (by decide +kernel) (by decide +kernel)
theorem im_X1_waitTicks : Cond.instanceMethod yX1_waitTicks ∈ lw_all := lw_mem (i := 740) (by decide +kernel) (by decide +kernel)
theorem im_X1_share : Cond.instanceMethod yX1_share ∈ lw_all := lw_mem (i := 744) (by decide +kernel) (by decide +kernel)
theorem im_X1_runningTask : Cond.instanceMethod yX1_runningTask ∈ lw_all := lw_mem (i := 748) (by decide +kernel) (by decide +kernel)
theorem im_X1_coreCookie : Cond.instanceMethod yX1_coreCookie ∈ lw_all := lw_mem (i := 752) (by decide +kernel) (by decide +kernel)
theorem im_X1_noCore : Cond.instanceMethod yX1_noCore ∈ lw_all := lw_mem (i := 757) (by decide +kernel) (by decide +kernel)
theorem im_X1_leaderOf : Cond.instanceMethod yX1_leaderOf ∈ lw_all := lw_mem (i := 760) (by decide +kernel) (by decide +kernel)
theorem im_X1_queueLength : Cond.instanceMethod yX1_queueLength ∈ lw_all := lw_mem (i := 764) (by decide +kernel) (by decide +kernel)
theorem im_X1_queuedTask : Cond.instanceMethod yX1_queuedTask ∈ lw_all := lw_mem (i := 768) (by decide +kernel) (by decide +kernel)
theorem im_X1_baseOf : Cond.instanceMethod yX1_baseOf ∈ lw_all := lw_mem (i := 772) (by decide +kernel) (by decide +kernel)
theorem im_X1_idleTicks : Cond.instanceMethod yX1_idleTicks ∈ lw_all := lw_mem (i := 776) (by decide +kernel) (by decide +kernel)
theorem im_X1_forcedIdleTicks : Cond.instanceMethod yX1_forcedIdleTicks ∈ lw_all := lw_mem (i := 780) (by decide +kernel) (by decide +kernel)
theorem im_X1_stolenTasks : Cond.instanceMethod yX1_stolenTasks ∈ lw_all := lw_mem (i := 784) (by decide +kernel) (by decide +kernel)
theorem cd_X0_init : Cond.code yX0_init cX0_init 1 none ∈ lw_all := lw_mem (i := 61) (by decide +kernel) (by decide +kernel)
theorem cd_X0_startAnew : Cond.code yX0_startAnew cX0_startAnew 3 none ∈ lw_all := lw_mem (i := 68) (by decide +kernel) (by decide +kernel)
theorem cd_X0_setStealing : Cond.code yX0_setStealing cX0_setStealing 3 (some .boolean) ∈ lw_all := lw_mem (i := 127) (by decide +kernel) (by decide +kernel)
theorem cd_X0_taskCount : Cond.code yX0_taskCount cX0_taskCount 1 (some .int) ∈ lw_all := lw_mem (i := 131) (by decide +kernel) (by decide +kernel)
theorem cd_X0_stolenTasks : Cond.code yX0_stolenTasks cX0_stolenTasks 1 (some .int) ∈ lw_all := lw_mem (i := 135) (by decide +kernel) (by decide +kernel)
theorem cd_X0_reset : Cond.code yX0_reset cX0_reset 3 (some .int) ∈ lw_all := lw_mem (i := 143) (by decide +kernel) (by decide +kernel)
theorem cd_X0_tick : Cond.code yX0_tick cX0_tick 4 (some .int) ∈ lw_all := lw_mem (i := 218) (by decide +kernel) (by decide +kernel)
theorem cd_X0_simulateTick : Cond.code yX0_simulateTick cX0_simulateTick 2 (some .int) ∈ lw_all := lw_mem (i := 223) (by decide +kernel) (by decide +kernel)
theorem cd_X0_pickForCore : Cond.code yX0_pickForCore cX0_pickForCore 7 none ∈ lw_all := lw_mem (i := 227) (by decide +kernel) (by decide +kernel)
theorem cd_X0_findLeader : Cond.code yX0_findLeader cX0_findLeader 4 (some .int) ∈ lw_all := lw_mem (i := 231) (by decide +kernel) (by decide +kernel)
theorem cd_X0_isRunnable : Cond.code yX0_isRunnable cX0_isRunnable 2 (some .boolean) ∈ lw_all := lw_mem (i := 235) (by decide +kernel) (by decide +kernel)
theorem cd_X0_isOnCore : Cond.code yX0_isOnCore cX0_isOnCore 3 (some .boolean) ∈ lw_all := lw_mem (i := 239) (by decide +kernel) (by decide +kernel)
theorem cd_X0_coreOfCpu : Cond.code yX0_coreOfCpu cX0_coreOfCpu 1 (some .int) ∈ lw_all := lw_mem (i := 242) (by decide +kernel) (by decide +kernel)
theorem cd_X0_comesBefore : Cond.code yX0_comesBefore cX0_comesBefore 7 (some .boolean) ∈ lw_all := lw_mem (i := 246) (by decide +kernel) (by decide +kernel)
theorem cd_X0_relativeTime : Cond.code yX0_relativeTime cX0_relativeTime 2 (some .long) ∈ lw_all := lw_mem (i := 250) (by decide +kernel) (by decide +kernel)
theorem cd_X0_releaseTasks : Cond.code yX0_releaseTasks cX0_releaseTasks 3 none ∈ lw_all := lw_mem (i := 254) (by decide +kernel) (by decide +kernel)
theorem cd_X0_takeTask : Cond.code yX0_takeTask cX0_takeTask 5 (some .int) ∈ lw_all := lw_mem (i := 258) (by decide +kernel) (by decide +kernel)
theorem cd_X0_findOwn : Cond.code yX0_findOwn cX0_findOwn 5 (some .int) ∈ lw_all := lw_mem (i := 262) (by decide +kernel) (by decide +kernel)
theorem cd_X0_isQueued : Cond.code yX0_isQueued cX0_isQueued 3 (some .boolean) ∈ lw_all := lw_mem (i := 266) (by decide +kernel) (by decide +kernel)
theorem cd_X0_findLoot : Cond.code yX0_findLoot cX0_findLoot 5 (some .int) ∈ lw_all := lw_mem (i := 270) (by decide +kernel) (by decide +kernel)
theorem cd_X0_isLoot : Cond.code yX0_isLoot cX0_isLoot 4 (some .boolean) ∈ lw_all := lw_mem (i := 274) (by decide +kernel) (by decide +kernel)
theorem cd_X0_moveRunnable : Cond.code yX0_moveRunnable cX0_moveRunnable 3 none ∈ lw_all := lw_mem (i := 278) (by decide +kernel) (by decide +kernel)
theorem cd_X0_giveToCpu : Cond.code yX0_giveToCpu cX0_giveToCpu 3 none ∈ lw_all := lw_mem (i := 282) (by decide +kernel) (by decide +kernel)
theorem cd_X0_countQueue : Cond.code yX0_countQueue cX0_countQueue 4 (some .int) ∈ lw_all := lw_mem (i := 286) (by decide +kernel) (by decide +kernel)
theorem cd_X0_chargeTasks : Cond.code yX0_chargeTasks cX0_chargeTasks 3 (some .int) ∈ lw_all := lw_mem (i := 290) (by decide +kernel) (by decide +kernel)
theorem cd_X0_costOfTick : Cond.code yX0_costOfTick cX0_costOfTick 1 (some .int) ∈ lw_all := lw_mem (i := 293) (by decide +kernel) (by decide +kernel)
theorem cd_X0_countIdleCpus : Cond.code yX0_countIdleCpus cX0_countIdleCpus 2 none ∈ lw_all := lw_mem (i := 297) (by decide +kernel) (by decide +kernel)
theorem cd_X0_cpuTotal : Cond.code yX0_cpuTotal cX0_cpuTotal 1 (some .int) ∈ lw_all := lw_mem (i := 301) (by decide +kernel) (by decide +kernel)
theorem cd_X0_raiseBases : Cond.code yX0_raiseBases cX0_raiseBases 3 none ∈ lw_all := lw_mem (i := 305) (by decide +kernel) (by decide +kernel)
theorem cd_X0_findLeastTime : Cond.code yX0_findLeastTime cX0_findLeastTime 4 (some .int) ∈ lw_all := lw_mem (i := 309) (by decide +kernel) (by decide +kernel)
theorem cd_J9_max_f86c9 : Cond.code yJ9_max_f86c9 cJ9_max_f86c9 4 (some .long) ∈ lw_all := lw_mem (i := 312) (by decide +kernel) (by decide +kernel)
theorem cd_X0_createTask : Cond.code yX0_createTask cX0_createTask 5 (some .int) ∈ lw_all := lw_mem (i := 320) (by decide +kernel) (by decide +kernel)
theorem cd_X0_checkCpu : Cond.code yX0_checkCpu cX0_checkCpu 2 none ∈ lw_all := lw_mem (i := 324) (by decide +kernel) (by decide +kernel)
theorem cd_X0_checkWeight : Cond.code yX0_checkWeight cX0_checkWeight 1 none ∈ lw_all := lw_mem (i := 328) (by decide +kernel) (by decide +kernel)
theorem cd_X0_checkCookie : Cond.code yX0_checkCookie cX0_checkCookie 1 none ∈ lw_all := lw_mem (i := 332) (by decide +kernel) (by decide +kernel)
theorem cd_X0_enterQueue : Cond.code yX0_enterQueue cX0_enterQueue 2 none ∈ lw_all := lw_mem (i := 353) (by decide +kernel) (by decide +kernel)
theorem cd_X0_sleep : Cond.code yX0_sleep cX0_sleep 2 (some .int) ∈ lw_all := lw_mem (i := 360) (by decide +kernel) (by decide +kernel)
theorem cd_X0_checkTask : Cond.code yX0_checkTask cX0_checkTask 2 none ∈ lw_all := lw_mem (i := 364) (by decide +kernel) (by decide +kernel)
theorem cd_X0_stopTask : Cond.code yX0_stopTask cX0_stopTask 4 (some .int) ∈ lw_all := lw_mem (i := 370) (by decide +kernel) (by decide +kernel)
theorem cd_X0_wake : Cond.code yX0_wake cX0_wake 2 (some .long) ∈ lw_all := lw_mem (i := 377) (by decide +kernel) (by decide +kernel)
theorem cd_X0_exit : Cond.code yX0_exit cX0_exit 2 (some .int) ∈ lw_all := lw_mem (i := 385) (by decide +kernel) (by decide +kernel)
theorem cd_X0_checkNotExited : Cond.code yX0_checkNotExited cX0_checkNotExited 2 none ∈ lw_all := lw_mem (i := 389) (by decide +kernel) (by decide +kernel)
theorem cd_X0_setWeight : Cond.code yX0_setWeight cX0_setWeight 4 (some .int) ∈ lw_all := lw_mem (i := 397) (by decide +kernel) (by decide +kernel)
theorem cd_X0_setCookie : Cond.code yX0_setCookie cX0_setCookie 4 (some .int) ∈ lw_all := lw_mem (i := 404) (by decide +kernel) (by decide +kernel)
theorem cd_X0_moveTask : Cond.code yX0_moveTask cX0_moveTask 4 (some .int) ∈ lw_all := lw_mem (i := 411) (by decide +kernel) (by decide +kernel)
theorem cd_X0_stateOf : Cond.code yX0_stateOf cX0_stateOf 2 (some .int) ∈ lw_all := lw_mem (i := 419) (by decide +kernel) (by decide +kernel)
theorem cd_X0_cpuOf : Cond.code yX0_cpuOf cX0_cpuOf 2 (some .int) ∈ lw_all := lw_mem (i := 426) (by decide +kernel) (by decide +kernel)
theorem cd_X0_virtualTime : Cond.code yX0_virtualTime cX0_virtualTime 2 (some .long) ∈ lw_all := lw_mem (i := 433) (by decide +kernel) (by decide +kernel)
theorem cd_X0_runTicks : Cond.code yX0_runTicks cX0_runTicks 2 (some .int) ∈ lw_all := lw_mem (i := 440) (by decide +kernel) (by decide +kernel)
theorem cd_X0_waitTicks : Cond.code yX0_waitTicks cX0_waitTicks 2 (some .int) ∈ lw_all := lw_mem (i := 447) (by decide +kernel) (by decide +kernel)
theorem cd_X0_share : Cond.code yX0_share cX0_share 6 (some .double) ∈ lw_all := lw_mem (i := 454) (by decide +kernel) (by decide +kernel)
theorem cd_X0_runningTask : Cond.code yX0_runningTask cX0_runningTask 2 (some .int) ∈ lw_all := lw_mem (i := 461) (by decide +kernel) (by decide +kernel)
theorem cd_X0_coreCookie : Cond.code yX0_coreCookie cX0_coreCookie 2 (some .int) ∈ lw_all := lw_mem (i := 468) (by decide +kernel) (by decide +kernel)
theorem cd_X0_checkCore : Cond.code yX0_checkCore cX0_checkCore 2 none ∈ lw_all := lw_mem (i := 472) (by decide +kernel) (by decide +kernel)
theorem cd_X0_leaderOf : Cond.code yX0_leaderOf cX0_leaderOf 2 (some .int) ∈ lw_all := lw_mem (i := 480) (by decide +kernel) (by decide +kernel)
theorem cd_X0_queueLength : Cond.code yX0_queueLength cX0_queueLength 2 (some .int) ∈ lw_all := lw_mem (i := 487) (by decide +kernel) (by decide +kernel)
theorem cd_X0_queuedTask : Cond.code yX0_queuedTask cX0_queuedTask 4 (some .int) ∈ lw_all := lw_mem (i := 495) (by decide +kernel) (by decide +kernel)
theorem cd_X0_positionOf : Cond.code yX0_positionOf cX0_positionOf 4 (some .int) ∈ lw_all := lw_mem (i := 499) (by decide +kernel) (by decide +kernel)
theorem cd_X0_baseOf : Cond.code yX0_baseOf cX0_baseOf 2 (some .long) ∈ lw_all := lw_mem (i := 522) (by decide +kernel) (by decide +kernel)
theorem cd_X0_idleTicks : Cond.code yX0_idleTicks cX0_idleTicks 2 (some .int) ∈ lw_all := lw_mem (i := 529) (by decide +kernel) (by decide +kernel)
theorem cd_X0_forcedIdleTicks : Cond.code yX0_forcedIdleTicks cX0_forcedIdleTicks 2 (some .int) ∈ lw_all := lw_mem (i := 536) (by decide +kernel) (by decide +kernel)
theorem cd_X1_init : Cond.code yX1_init cX1_init 1 none ∈ lw_all := lw_mem (i := 541) (by decide +kernel) (by decide +kernel)
theorem cd_X1_begins : Cond.code yX1_begins cX1_begins 3 none ∈ lw_all := lw_mem (i := 546) (by decide +kernel) (by decide +kernel)
theorem cd_X1_thrown : Cond.code yX1_thrown cX1_thrown 1 (some .int) ∈ lw_all := lw_mem (i := 605) (by decide +kernel) (by decide +kernel)
theorem cd_X1_reset : Cond.code yX1_reset cX1_reset 3 (some .int) ∈ lw_all := lw_mem (i := 609) (by decide +kernel) (by decide +kernel)
theorem cd_X1_in : Cond.code yX1_in cX1_in 6 (some .boolean) ∈ lw_all := lw_mem (i := 613) (by decide +kernel) (by decide +kernel)
theorem cd_X1_isRefused : Cond.code yX1_isRefused cX1_isRefused 3 (some .boolean) ∈ lw_all := lw_mem (i := 617) (by decide +kernel) (by decide +kernel)
theorem cd_X1_setStealing : Cond.code yX1_setStealing cX1_setStealing 3 (some .boolean) ∈ lw_all := lw_mem (i := 621) (by decide +kernel) (by decide +kernel)
theorem cd_X1_tick : Cond.code yX1_tick cX1_tick 4 (some .int) ∈ lw_all := lw_mem (i := 625) (by decide +kernel) (by decide +kernel)
theorem cd_X1_tickOne : Cond.code yX1_tickOne cX1_tickOne 5 (some .int) ∈ lw_all := lw_mem (i := 630) (by decide +kernel) (by decide +kernel)
theorem cd_X1_picks : Cond.code yX1_picks cX1_picks 5 none ∈ lw_all := lw_mem (i := 634) (by decide +kernel) (by decide +kernel)
theorem cd_X1_leader : Cond.code yX1_leader cX1_leader 4 (some .int) ∈ lw_all := lw_mem (i := 638) (by decide +kernel) (by decide +kernel)
theorem cd_X1_isRunnable : Cond.code yX1_isRunnable cX1_isRunnable 2 (some .boolean) ∈ lw_all := lw_mem (i := 642) (by decide +kernel) (by decide +kernel)
theorem cd_X1_isAhead : Cond.code yX1_isAhead cX1_isAhead 7 (some .boolean) ∈ lw_all := lw_mem (i := 646) (by decide +kernel) (by decide +kernel)
theorem cd_X1_relative : Cond.code yX1_relative cX1_relative 2 (some .long) ∈ lw_all := lw_mem (i := 650) (by decide +kernel) (by decide +kernel)
theorem cd_X1_firstOf : Cond.code yX1_firstOf cX1_firstOf 5 (some .int) ∈ lw_all := lw_mem (i := 654) (by decide +kernel) (by decide +kernel)
theorem cd_X1_toSteal : Cond.code yX1_toSteal cX1_toSteal 5 (some .int) ∈ lw_all := lw_mem (i := 658) (by decide +kernel) (by decide +kernel)
theorem cd_X1_goesTo : Cond.code yX1_goesTo cX1_goesTo 3 none ∈ lw_all := lw_mem (i := 662) (by decide +kernel) (by decide +kernel)
theorem cd_X1_queued : Cond.code yX1_queued cX1_queued 4 (some .int) ∈ lw_all := lw_mem (i := 666) (by decide +kernel) (by decide +kernel)
theorem cd_X1_createTask : Cond.code yX1_createTask cX1_createTask 5 (some .int) ∈ lw_all := lw_mem (i := 670) (by decide +kernel) (by decide +kernel)
theorem cd_X1_noCpu : Cond.code yX1_noCpu cX1_noCpu 2 (some .boolean) ∈ lw_all := lw_mem (i := 674) (by decide +kernel) (by decide +kernel)
theorem cd_X1_noWeight : Cond.code yX1_noWeight cX1_noWeight 1 (some .boolean) ∈ lw_all := lw_mem (i := 677) (by decide +kernel) (by decide +kernel)
theorem cd_X1_noCookie : Cond.code yX1_noCookie cX1_noCookie 1 (some .boolean) ∈ lw_all := lw_mem (i := 681) (by decide +kernel) (by decide +kernel)
theorem cd_X1_sleep : Cond.code yX1_sleep cX1_sleep 2 (some .int) ∈ lw_all := lw_mem (i := 686) (by decide +kernel) (by decide +kernel)
theorem cd_X1_noTask : Cond.code yX1_noTask cX1_noTask 2 (some .boolean) ∈ lw_all := lw_mem (i := 690) (by decide +kernel) (by decide +kernel)
theorem cd_X1_becomes : Cond.code yX1_becomes cX1_becomes 4 (some .int) ∈ lw_all := lw_mem (i := 694) (by decide +kernel) (by decide +kernel)
theorem cd_X1_wake : Cond.code yX1_wake cX1_wake 2 (some .long) ∈ lw_all := lw_mem (i := 698) (by decide +kernel) (by decide +kernel)
theorem cd_X1_exit : Cond.code yX1_exit cX1_exit 2 (some .int) ∈ lw_all := lw_mem (i := 702) (by decide +kernel) (by decide +kernel)
theorem cd_X1_hasExited : Cond.code yX1_hasExited cX1_hasExited 2 (some .boolean) ∈ lw_all := lw_mem (i := 706) (by decide +kernel) (by decide +kernel)
theorem cd_X1_setWeight : Cond.code yX1_setWeight cX1_setWeight 4 (some .int) ∈ lw_all := lw_mem (i := 710) (by decide +kernel) (by decide +kernel)
theorem cd_X1_setCookie : Cond.code yX1_setCookie cX1_setCookie 4 (some .int) ∈ lw_all := lw_mem (i := 714) (by decide +kernel) (by decide +kernel)
theorem cd_X1_moveTask : Cond.code yX1_moveTask cX1_moveTask 5 (some .int) ∈ lw_all := lw_mem (i := 718) (by decide +kernel) (by decide +kernel)
theorem cd_X1_taskCount : Cond.code yX1_taskCount cX1_taskCount 1 (some .int) ∈ lw_all := lw_mem (i := 722) (by decide +kernel) (by decide +kernel)
theorem cd_X1_stateOf : Cond.code yX1_stateOf cX1_stateOf 2 (some .int) ∈ lw_all := lw_mem (i := 726) (by decide +kernel) (by decide +kernel)
theorem cd_X1_cpuOf : Cond.code yX1_cpuOf cX1_cpuOf 2 (some .int) ∈ lw_all := lw_mem (i := 730) (by decide +kernel) (by decide +kernel)
theorem cd_X1_virtualTime : Cond.code yX1_virtualTime cX1_virtualTime 2 (some .long) ∈ lw_all := lw_mem (i := 734) (by decide +kernel) (by decide +kernel)
theorem cd_X1_runTicks : Cond.code yX1_runTicks cX1_runTicks 2 (some .int) ∈ lw_all := lw_mem (i := 738) (by decide +kernel) (by decide +kernel)
theorem cd_X1_waitTicks : Cond.code yX1_waitTicks cX1_waitTicks 2 (some .int) ∈ lw_all := lw_mem (i := 742) (by decide +kernel) (by decide +kernel)
theorem cd_X1_share : Cond.code yX1_share cX1_share 2 (some .double) ∈ lw_all := lw_mem (i := 746) (by decide +kernel) (by decide +kernel)
theorem cd_X1_runningTask : Cond.code yX1_runningTask cX1_runningTask 2 (some .int) ∈ lw_all := lw_mem (i := 750) (by decide +kernel) (by decide +kernel)
theorem cd_X1_coreCookie : Cond.code yX1_coreCookie cX1_coreCookie 2 (some .int) ∈ lw_all := lw_mem (i := 754) (by decide +kernel) (by decide +kernel)
theorem cd_X1_noCore : Cond.code yX1_noCore cX1_noCore 2 (some .boolean) ∈ lw_all := lw_mem (i := 758) (by decide +kernel) (by decide +kernel)
theorem cd_X1_leaderOf : Cond.code yX1_leaderOf cX1_leaderOf 2 (some .int) ∈ lw_all := lw_mem (i := 762) (by decide +kernel) (by decide +kernel)
theorem cd_X1_queueLength : Cond.code yX1_queueLength cX1_queueLength 2 (some .int) ∈ lw_all := lw_mem (i := 766) (by decide +kernel) (by decide +kernel)
theorem cd_X1_queuedTask : Cond.code yX1_queuedTask cX1_queuedTask 7 (some .int) ∈ lw_all := lw_mem (i := 770) (by decide +kernel) (by decide +kernel)
theorem cd_X1_baseOf : Cond.code yX1_baseOf cX1_baseOf 2 (some .long) ∈ lw_all := lw_mem (i := 774) (by decide +kernel) (by decide +kernel)
theorem cd_X1_idleTicks : Cond.code yX1_idleTicks cX1_idleTicks 2 (some .int) ∈ lw_all := lw_mem (i := 778) (by decide +kernel) (by decide +kernel)
theorem cd_X1_forcedIdleTicks : Cond.code yX1_forcedIdleTicks cX1_forcedIdleTicks 2 (some .int) ∈ lw_all := lw_mem (i := 782) (by decide +kernel) (by decide +kernel)
theorem cd_X1_stolenTasks : Cond.code yX1_stolenTasks cX1_stolenTasks 1 (some .int) ∈ lw_all := lw_mem (i := 786) (by decide +kernel) (by decide +kernel)
theorem cd_L_reset : Cond.codeWith yL_reset cL_reset 4 (some .int) [(0, 9, 12, 13)] ∈ lw_all := lw_mem (i := 138) (by decide +kernel) (by decide +kernel)
theorem cd_L_tick : Cond.codeWith yL_tick cL_tick 4 (some .int) [(0, 9, 12, 13)] ∈ lw_all := lw_mem (i := 214) (by decide +kernel) (by decide +kernel)
theorem cd_L_createTask : Cond.codeWith yL_createTask cL_createTask 6 (some .int) [(0, 12, 15, 13), (0, 12, 19, 22)] ∈ lw_all := lw_mem (i := 315) (by decide +kernel) (by decide +kernel)
theorem cd_L_sleep : Cond.codeWith yL_sleep cL_sleep 4 (some .int) [(0, 9, 12, 13), (0, 9, 15, 22)] ∈ lw_all := lw_mem (i := 356) (by decide +kernel) (by decide +kernel)
theorem cd_L_wake : Cond.codeWith yL_wake cL_wake 4 (some .int) [(0, 8, 11, 13), (0, 8, 14, 22)] ∈ lw_all := lw_mem (i := 373) (by decide +kernel) (by decide +kernel)
theorem cd_L_exit : Cond.codeWith yL_exit cL_exit 4 (some .int) [(0, 9, 12, 13), (0, 9, 15, 22)] ∈ lw_all := lw_mem (i := 381) (by decide +kernel) (by decide +kernel)
theorem cd_L_setWeight : Cond.codeWith yL_setWeight cL_setWeight 5 (some .int) [(0, 10, 13, 13), (0, 10, 17, 22)] ∈ lw_all := lw_mem (i := 393) (by decide +kernel) (by decide +kernel)
theorem cd_L_setCookie : Cond.codeWith yL_setCookie cL_setCookie 5 (some .int) [(0, 10, 13, 13), (0, 10, 17, 22)] ∈ lw_all := lw_mem (i := 400) (by decide +kernel) (by decide +kernel)
theorem cd_L_moveTask : Cond.codeWith yL_moveTask cL_moveTask 5 (some .int) [(0, 10, 13, 13), (0, 10, 17, 22)] ∈ lw_all := lw_mem (i := 407) (by decide +kernel) (by decide +kernel)
theorem cd_L_stateOf : Cond.codeWith yL_stateOf cL_stateOf 4 (some .int) [(0, 9, 12, 13)] ∈ lw_all := lw_mem (i := 415) (by decide +kernel) (by decide +kernel)
theorem cd_L_cpuOf : Cond.codeWith yL_cpuOf cL_cpuOf 4 (some .int) [(0, 9, 12, 13)] ∈ lw_all := lw_mem (i := 422) (by decide +kernel) (by decide +kernel)
theorem cd_L_virtualTime : Cond.codeWith yL_virtualTime cL_virtualTime 4 (some .int) [(0, 8, 11, 13)] ∈ lw_all := lw_mem (i := 429) (by decide +kernel) (by decide +kernel)
theorem cd_L_runTicks : Cond.codeWith yL_runTicks cL_runTicks 4 (some .int) [(0, 9, 12, 13)] ∈ lw_all := lw_mem (i := 436) (by decide +kernel) (by decide +kernel)
theorem cd_L_waitTicks : Cond.codeWith yL_waitTicks cL_waitTicks 4 (some .int) [(0, 9, 12, 13)] ∈ lw_all := lw_mem (i := 443) (by decide +kernel) (by decide +kernel)
theorem cd_L_share : Cond.codeWith yL_share cL_share 4 (some .int) [(0, 8, 11, 13)] ∈ lw_all := lw_mem (i := 450) (by decide +kernel) (by decide +kernel)
theorem cd_L_runningTask : Cond.codeWith yL_runningTask cL_runningTask 4 (some .int) [(0, 9, 12, 13)] ∈ lw_all := lw_mem (i := 457) (by decide +kernel) (by decide +kernel)
theorem cd_L_coreCookie : Cond.codeWith yL_coreCookie cL_coreCookie 4 (some .int) [(0, 9, 12, 13)] ∈ lw_all := lw_mem (i := 464) (by decide +kernel) (by decide +kernel)
theorem cd_L_leaderOf : Cond.codeWith yL_leaderOf cL_leaderOf 4 (some .int) [(0, 9, 12, 13)] ∈ lw_all := lw_mem (i := 476) (by decide +kernel) (by decide +kernel)
theorem cd_L_queueLength : Cond.codeWith yL_queueLength cL_queueLength 4 (some .int) [(0, 9, 12, 13)] ∈ lw_all := lw_mem (i := 483) (by decide +kernel) (by decide +kernel)
theorem cd_L_queuedTask : Cond.codeWith yL_queuedTask cL_queuedTask 5 (some .int) [(0, 10, 13, 13), (0, 10, 17, 78)] ∈ lw_all := lw_mem (i := 490) (by decide +kernel) (by decide +kernel)
theorem cd_L_baseOf : Cond.codeWith yL_baseOf cL_baseOf 4 (some .int) [(0, 8, 11, 13)] ∈ lw_all := lw_mem (i := 518) (by decide +kernel) (by decide +kernel)
theorem cd_L_idleTicks : Cond.codeWith yL_idleTicks cL_idleTicks 4 (some .int) [(0, 9, 12, 13)] ∈ lw_all := lw_mem (i := 525) (by decide +kernel) (by decide +kernel)
theorem cd_L_forcedIdleTicks : Cond.codeWith yL_forcedIdleTicks cL_forcedIdleTicks 4 (some .int) [(0, 9, 12, 13)] ∈ lw_all := lw_mem (i := 532) (by decide +kernel) (by decide +kernel)
theorem se_X0_startAnew : Cond.selects RX0 yX0_startAnew yX0_startAnew ∈ lw_all := lw_mem (i := 0) (by decide +kernel) (by decide +kernel)
theorem se_X0_simulateTick : Cond.selects RX0 yX0_simulateTick yX0_simulateTick ∈ lw_all := lw_mem (i := 2) (by decide +kernel) (by decide +kernel)
theorem se_X0_pickForCore : Cond.selects RX0 yX0_pickForCore yX0_pickForCore ∈ lw_all := lw_mem (i := 3) (by decide +kernel) (by decide +kernel)
theorem se_X0_findLeader : Cond.selects RX0 yX0_findLeader yX0_findLeader ∈ lw_all := lw_mem (i := 4) (by decide +kernel) (by decide +kernel)
theorem se_X0_isRunnable : Cond.selects RX0 yX0_isRunnable yX0_isRunnable ∈ lw_all := lw_mem (i := 5) (by decide +kernel) (by decide +kernel)
theorem se_X0_isOnCore : Cond.selects RX0 yX0_isOnCore yX0_isOnCore ∈ lw_all := lw_mem (i := 6) (by decide +kernel) (by decide +kernel)
theorem se_X0_comesBefore : Cond.selects RX0 yX0_comesBefore yX0_comesBefore ∈ lw_all := lw_mem (i := 7) (by decide +kernel) (by decide +kernel)
theorem se_X0_relativeTime : Cond.selects RX0 yX0_relativeTime yX0_relativeTime ∈ lw_all := lw_mem (i := 8) (by decide +kernel) (by decide +kernel)
theorem se_X0_releaseTasks : Cond.selects RX0 yX0_releaseTasks yX0_releaseTasks ∈ lw_all := lw_mem (i := 9) (by decide +kernel) (by decide +kernel)
theorem se_X0_takeTask : Cond.selects RX0 yX0_takeTask yX0_takeTask ∈ lw_all := lw_mem (i := 10) (by decide +kernel) (by decide +kernel)
theorem se_X0_findOwn : Cond.selects RX0 yX0_findOwn yX0_findOwn ∈ lw_all := lw_mem (i := 11) (by decide +kernel) (by decide +kernel)
theorem se_X0_isQueued : Cond.selects RX0 yX0_isQueued yX0_isQueued ∈ lw_all := lw_mem (i := 12) (by decide +kernel) (by decide +kernel)
theorem se_X0_findLoot : Cond.selects RX0 yX0_findLoot yX0_findLoot ∈ lw_all := lw_mem (i := 13) (by decide +kernel) (by decide +kernel)
theorem se_X0_isLoot : Cond.selects RX0 yX0_isLoot yX0_isLoot ∈ lw_all := lw_mem (i := 14) (by decide +kernel) (by decide +kernel)
theorem se_X0_moveRunnable : Cond.selects RX0 yX0_moveRunnable yX0_moveRunnable ∈ lw_all := lw_mem (i := 15) (by decide +kernel) (by decide +kernel)
theorem se_X0_giveToCpu : Cond.selects RX0 yX0_giveToCpu yX0_giveToCpu ∈ lw_all := lw_mem (i := 16) (by decide +kernel) (by decide +kernel)
theorem se_X0_countQueue : Cond.selects RX0 yX0_countQueue yX0_countQueue ∈ lw_all := lw_mem (i := 17) (by decide +kernel) (by decide +kernel)
theorem se_X0_chargeTasks : Cond.selects RX0 yX0_chargeTasks yX0_chargeTasks ∈ lw_all := lw_mem (i := 18) (by decide +kernel) (by decide +kernel)
theorem se_X0_countIdleCpus : Cond.selects RX0 yX0_countIdleCpus yX0_countIdleCpus ∈ lw_all := lw_mem (i := 19) (by decide +kernel) (by decide +kernel)
theorem se_X0_cpuTotal : Cond.selects RX0 yX0_cpuTotal yX0_cpuTotal ∈ lw_all := lw_mem (i := 20) (by decide +kernel) (by decide +kernel)
theorem se_X0_raiseBases : Cond.selects RX0 yX0_raiseBases yX0_raiseBases ∈ lw_all := lw_mem (i := 21) (by decide +kernel) (by decide +kernel)
theorem se_X0_findLeastTime : Cond.selects RX0 yX0_findLeastTime yX0_findLeastTime ∈ lw_all := lw_mem (i := 22) (by decide +kernel) (by decide +kernel)
theorem se_X0_checkCpu : Cond.selects RX0 yX0_checkCpu yX0_checkCpu ∈ lw_all := lw_mem (i := 23) (by decide +kernel) (by decide +kernel)
theorem se_X0_enterQueue : Cond.selects RX0 yX0_enterQueue yX0_enterQueue ∈ lw_all := lw_mem (i := 24) (by decide +kernel) (by decide +kernel)
theorem se_X0_checkTask : Cond.selects RX0 yX0_checkTask yX0_checkTask ∈ lw_all := lw_mem (i := 25) (by decide +kernel) (by decide +kernel)
theorem se_X0_stopTask : Cond.selects RX0 yX0_stopTask yX0_stopTask ∈ lw_all := lw_mem (i := 26) (by decide +kernel) (by decide +kernel)
theorem se_X0_checkNotExited : Cond.selects RX0 yX0_checkNotExited yX0_checkNotExited ∈ lw_all := lw_mem (i := 27) (by decide +kernel) (by decide +kernel)
theorem se_X0_checkCore : Cond.selects RX0 yX0_checkCore yX0_checkCore ∈ lw_all := lw_mem (i := 28) (by decide +kernel) (by decide +kernel)
theorem se_X0_positionOf : Cond.selects RX0 yX0_positionOf yX0_positionOf ∈ lw_all := lw_mem (i := 29) (by decide +kernel) (by decide +kernel)
theorem se_X1_begins : Cond.selects RX1 yX1_begins yX1_begins ∈ lw_all := lw_mem (i := 30) (by decide +kernel) (by decide +kernel)
theorem se_X1_isRefused : Cond.selects RX1 yX1_isRefused yX1_isRefused ∈ lw_all := lw_mem (i := 31) (by decide +kernel) (by decide +kernel)
theorem se_X1_tickOne : Cond.selects RX1 yX1_tickOne yX1_tickOne ∈ lw_all := lw_mem (i := 32) (by decide +kernel) (by decide +kernel)
theorem se_X1_picks : Cond.selects RX1 yX1_picks yX1_picks ∈ lw_all := lw_mem (i := 33) (by decide +kernel) (by decide +kernel)
theorem se_X1_leader : Cond.selects RX1 yX1_leader yX1_leader ∈ lw_all := lw_mem (i := 34) (by decide +kernel) (by decide +kernel)
theorem se_X1_isRunnable : Cond.selects RX1 yX1_isRunnable yX1_isRunnable ∈ lw_all := lw_mem (i := 35) (by decide +kernel) (by decide +kernel)
theorem se_X1_isAhead : Cond.selects RX1 yX1_isAhead yX1_isAhead ∈ lw_all := lw_mem (i := 36) (by decide +kernel) (by decide +kernel)
theorem se_X1_relative : Cond.selects RX1 yX1_relative yX1_relative ∈ lw_all := lw_mem (i := 37) (by decide +kernel) (by decide +kernel)
theorem se_X1_firstOf : Cond.selects RX1 yX1_firstOf yX1_firstOf ∈ lw_all := lw_mem (i := 38) (by decide +kernel) (by decide +kernel)
theorem se_X1_toSteal : Cond.selects RX1 yX1_toSteal yX1_toSteal ∈ lw_all := lw_mem (i := 39) (by decide +kernel) (by decide +kernel)
theorem se_X1_goesTo : Cond.selects RX1 yX1_goesTo yX1_goesTo ∈ lw_all := lw_mem (i := 40) (by decide +kernel) (by decide +kernel)
theorem se_X1_queued : Cond.selects RX1 yX1_queued yX1_queued ∈ lw_all := lw_mem (i := 41) (by decide +kernel) (by decide +kernel)
theorem se_X1_noCpu : Cond.selects RX1 yX1_noCpu yX1_noCpu ∈ lw_all := lw_mem (i := 42) (by decide +kernel) (by decide +kernel)
theorem se_X1_noTask : Cond.selects RX1 yX1_noTask yX1_noTask ∈ lw_all := lw_mem (i := 43) (by decide +kernel) (by decide +kernel)
theorem se_X1_becomes : Cond.selects RX1 yX1_becomes yX1_becomes ∈ lw_all := lw_mem (i := 44) (by decide +kernel) (by decide +kernel)
theorem se_X1_hasExited : Cond.selects RX1 yX1_hasExited yX1_hasExited ∈ lw_all := lw_mem (i := 45) (by decide +kernel) (by decide +kernel)
theorem se_X1_noCore : Cond.selects RX1 yX1_noCore yX1_noCore ∈ lw_all := lw_mem (i := 46) (by decide +kernel) (by decide +kernel)
theorem se_X0_setStealing : Cond.selects RX0 yX0_setStealing yX0_setStealing ∈ lw_all := lw_mem (i := 126) (by decide +kernel) (by decide +kernel)
theorem se_X0_taskCount : Cond.selects RX0 yX0_taskCount yX0_taskCount ∈ lw_all := lw_mem (i := 130) (by decide +kernel) (by decide +kernel)
theorem se_X0_stolenTasks : Cond.selects RX0 yX0_stolenTasks yX0_stolenTasks ∈ lw_all := lw_mem (i := 134) (by decide +kernel) (by decide +kernel)
theorem se_X0_reset : Cond.selects RX0 yX0_reset yX0_reset ∈ lw_all := lw_mem (i := 142) (by decide +kernel) (by decide +kernel)
theorem se_X0_tick : Cond.selects RX0 yX0_tick yX0_tick ∈ lw_all := lw_mem (i := 217) (by decide +kernel) (by decide +kernel)
theorem se_X0_createTask : Cond.selects RX0 yX0_createTask yX0_createTask ∈ lw_all := lw_mem (i := 319) (by decide +kernel) (by decide +kernel)
theorem se_X0_sleep : Cond.selects RX0 yX0_sleep yX0_sleep ∈ lw_all := lw_mem (i := 359) (by decide +kernel) (by decide +kernel)
theorem se_X0_wake : Cond.selects RX0 yX0_wake yX0_wake ∈ lw_all := lw_mem (i := 376) (by decide +kernel) (by decide +kernel)
theorem se_X0_exit : Cond.selects RX0 yX0_exit yX0_exit ∈ lw_all := lw_mem (i := 384) (by decide +kernel) (by decide +kernel)
theorem se_X0_setWeight : Cond.selects RX0 yX0_setWeight yX0_setWeight ∈ lw_all := lw_mem (i := 396) (by decide +kernel) (by decide +kernel)
theorem se_X0_setCookie : Cond.selects RX0 yX0_setCookie yX0_setCookie ∈ lw_all := lw_mem (i := 403) (by decide +kernel) (by decide +kernel)
theorem se_X0_moveTask : Cond.selects RX0 yX0_moveTask yX0_moveTask ∈ lw_all := lw_mem (i := 410) (by decide +kernel) (by decide +kernel)
theorem se_X0_stateOf : Cond.selects RX0 yX0_stateOf yX0_stateOf ∈ lw_all := lw_mem (i := 418) (by decide +kernel) (by decide +kernel)
theorem se_X0_cpuOf : Cond.selects RX0 yX0_cpuOf yX0_cpuOf ∈ lw_all := lw_mem (i := 425) (by decide +kernel) (by decide +kernel)
theorem se_X0_virtualTime : Cond.selects RX0 yX0_virtualTime yX0_virtualTime ∈ lw_all := lw_mem (i := 432) (by decide +kernel) (by decide +kernel)
theorem se_X0_runTicks : Cond.selects RX0 yX0_runTicks yX0_runTicks ∈ lw_all := lw_mem (i := 439) (by decide +kernel) (by decide +kernel)
theorem se_X0_waitTicks : Cond.selects RX0 yX0_waitTicks yX0_waitTicks ∈ lw_all := lw_mem (i := 446) (by decide +kernel) (by decide +kernel)
theorem se_X0_share : Cond.selects RX0 yX0_share yX0_share ∈ lw_all := lw_mem (i := 453) (by decide +kernel) (by decide +kernel)
theorem se_X0_runningTask : Cond.selects RX0 yX0_runningTask yX0_runningTask ∈ lw_all := lw_mem (i := 460) (by decide +kernel) (by decide +kernel)
theorem se_X0_coreCookie : Cond.selects RX0 yX0_coreCookie yX0_coreCookie ∈ lw_all := lw_mem (i := 467) (by decide +kernel) (by decide +kernel)
theorem se_X0_leaderOf : Cond.selects RX0 yX0_leaderOf yX0_leaderOf ∈ lw_all := lw_mem (i := 479) (by decide +kernel) (by decide +kernel)
theorem se_X0_queueLength : Cond.selects RX0 yX0_queueLength yX0_queueLength ∈ lw_all := lw_mem (i := 486) (by decide +kernel) (by decide +kernel)
theorem se_X0_queuedTask : Cond.selects RX0 yX0_queuedTask yX0_queuedTask ∈ lw_all := lw_mem (i := 494) (by decide +kernel) (by decide +kernel)
theorem se_X0_baseOf : Cond.selects RX0 yX0_baseOf yX0_baseOf ∈ lw_all := lw_mem (i := 521) (by decide +kernel) (by decide +kernel)
theorem se_X0_idleTicks : Cond.selects RX0 yX0_idleTicks yX0_idleTicks ∈ lw_all := lw_mem (i := 528) (by decide +kernel) (by decide +kernel)
theorem se_X0_forcedIdleTicks : Cond.selects RX0 yX0_forcedIdleTicks yX0_forcedIdleTicks ∈ lw_all := lw_mem (i := 535) (by decide +kernel) (by decide +kernel)
theorem se_X1_thrown : Cond.selects RX1 yX1_thrown yX1_thrown ∈ lw_all := lw_mem (i := 604) (by decide +kernel) (by decide +kernel)
theorem se_X1_reset : Cond.selects RX1 yX1_reset yX1_reset ∈ lw_all := lw_mem (i := 608) (by decide +kernel) (by decide +kernel)
theorem se_X1_setStealing : Cond.selects RX1 yX1_setStealing yX1_setStealing ∈ lw_all := lw_mem (i := 620) (by decide +kernel) (by decide +kernel)
theorem se_X1_tick : Cond.selects RX1 yX1_tick yX1_tick ∈ lw_all := lw_mem (i := 624) (by decide +kernel) (by decide +kernel)
theorem se_X1_createTask : Cond.selects RX1 yX1_createTask yX1_createTask ∈ lw_all := lw_mem (i := 669) (by decide +kernel) (by decide +kernel)
theorem se_X1_sleep : Cond.selects RX1 yX1_sleep yX1_sleep ∈ lw_all := lw_mem (i := 685) (by decide +kernel) (by decide +kernel)
theorem se_X1_wake : Cond.selects RX1 yX1_wake yX1_wake ∈ lw_all := lw_mem (i := 697) (by decide +kernel) (by decide +kernel)
theorem se_X1_exit : Cond.selects RX1 yX1_exit yX1_exit ∈ lw_all := lw_mem (i := 701) (by decide +kernel) (by decide +kernel)
theorem se_X1_setWeight : Cond.selects RX1 yX1_setWeight yX1_setWeight ∈ lw_all := lw_mem (i := 709) (by decide +kernel) (by decide +kernel)
theorem se_X1_setCookie : Cond.selects RX1 yX1_setCookie yX1_setCookie ∈ lw_all := lw_mem (i := 713) (by decide +kernel) (by decide +kernel)
theorem se_X1_moveTask : Cond.selects RX1 yX1_moveTask yX1_moveTask ∈ lw_all := lw_mem (i := 717) (by decide +kernel) (by decide +kernel)
theorem se_X1_taskCount : Cond.selects RX1 yX1_taskCount yX1_taskCount ∈ lw_all := lw_mem (i := 721) (by decide +kernel) (by decide +kernel)
theorem se_X1_stateOf : Cond.selects RX1 yX1_stateOf yX1_stateOf ∈ lw_all := lw_mem (i := 725) (by decide +kernel) (by decide +kernel)
theorem se_X1_cpuOf : Cond.selects RX1 yX1_cpuOf yX1_cpuOf ∈ lw_all := lw_mem (i := 729) (by decide +kernel) (by decide +kernel)
theorem se_X1_virtualTime : Cond.selects RX1 yX1_virtualTime yX1_virtualTime ∈ lw_all := lw_mem (i := 733) (by decide +kernel) (by decide +kernel)
theorem se_X1_runTicks : Cond.selects RX1 yX1_runTicks yX1_runTicks ∈ lw_all := lw_mem (i := 737) (by decide +kernel) (by decide +kernel)
theorem se_X1_waitTicks : Cond.selects RX1 yX1_waitTicks yX1_waitTicks ∈ lw_all := lw_mem (i := 741) (by decide +kernel) (by decide +kernel)
theorem se_X1_share : Cond.selects RX1 yX1_share yX1_share ∈ lw_all := lw_mem (i := 745) (by decide +kernel) (by decide +kernel)
theorem se_X1_runningTask : Cond.selects RX1 yX1_runningTask yX1_runningTask ∈ lw_all := lw_mem (i := 749) (by decide +kernel) (by decide +kernel)
theorem se_X1_coreCookie : Cond.selects RX1 yX1_coreCookie yX1_coreCookie ∈ lw_all := lw_mem (i := 753) (by decide +kernel) (by decide +kernel)
theorem se_X1_leaderOf : Cond.selects RX1 yX1_leaderOf yX1_leaderOf ∈ lw_all := lw_mem (i := 761) (by decide +kernel) (by decide +kernel)
theorem se_X1_queueLength : Cond.selects RX1 yX1_queueLength yX1_queueLength ∈ lw_all := lw_mem (i := 765) (by decide +kernel) (by decide +kernel)
theorem se_X1_queuedTask : Cond.selects RX1 yX1_queuedTask yX1_queuedTask ∈ lw_all := lw_mem (i := 769) (by decide +kernel) (by decide +kernel)
theorem se_X1_baseOf : Cond.selects RX1 yX1_baseOf yX1_baseOf ∈ lw_all := lw_mem (i := 773) (by decide +kernel) (by decide +kernel)
theorem se_X1_idleTicks : Cond.selects RX1 yX1_idleTicks yX1_idleTicks ∈ lw_all := lw_mem (i := 777) (by decide +kernel) (by decide +kernel)
theorem se_X1_forcedIdleTicks : Cond.selects RX1 yX1_forcedIdleTicks yX1_forcedIdleTicks ∈ lw_all := lw_mem (i := 781) (by decide +kernel) (by decide +kernel)
theorem se_X1_stolenTasks : Cond.selects RX1 yX1_stolenTasks yX1_stolenTasks ∈ lw_all := lw_mem (i := 785) (by decide +kernel) (by decide +kernel)
theorem ml_L_89 : Cond.methodLink RL 89 yX0_init ∈ lw_all := lw_mem (i := 59) (by decide +kernel) (by decide +kernel)
theorem ml_X0_51 : Cond.methodLink RX0 51 yX0_startAnew ∈ lw_all := lw_mem (i := 65) (by decide +kernel) (by decide +kernel)
theorem gw_X0_51 : GoodIn lw_all (wsV RX0 51 RX0 yX0_startAnew (ws_ yX0_startAnew cX0_startAnew 3 none)) := gw_V ml_X0_51 im_X0_startAnew se_X0_startAnew ini_X0 cd_X0_startAnew
theorem ml_L_103 : Cond.methodLink RL 103 yX0_setStealing ∈ lw_all := lw_mem (i := 124) (by decide +kernel) (by decide +kernel)
theorem gw_L_103 : GoodIn lw_all (wsV RL 103 RX0 yX0_setStealing (ws_ yX0_setStealing cX0_setStealing 3 (some .boolean))) := gw_V ml_L_103 im_X0_setStealing se_X0_setStealing ini_X0 cd_X0_setStealing
theorem ml_L_134 : Cond.methodLink RL 134 yX0_taskCount ∈ lw_all := lw_mem (i := 128) (by decide +kernel) (by decide +kernel)
theorem gw_L_134 : GoodIn lw_all (wsV RL 134 RX0 yX0_taskCount (ws_ yX0_taskCount cX0_taskCount 1 (some .int))) := gw_V ml_L_134 im_X0_taskCount se_X0_taskCount ini_X0 cd_X0_taskCount
theorem ml_L_181 : Cond.methodLink RL 181 yX0_stolenTasks ∈ lw_all := lw_mem (i := 132) (by decide +kernel) (by decide +kernel)
theorem gw_L_181 : GoodIn lw_all (wsV RL 181 RX0 yX0_stolenTasks (ws_ yX0_stolenTasks cX0_stolenTasks 1 (some .int))) := gw_V ml_L_181 im_X0_stolenTasks se_X0_stolenTasks ini_X0 cd_X0_stolenTasks
theorem ml_L_93 : Cond.methodLink RL 93 yL_reset ∈ lw_all := lw_mem (i := 136) (by decide +kernel) (by decide +kernel)
theorem ml_L_7 : Cond.methodLink RL 7 yX0_reset ∈ lw_all := lw_mem (i := 140) (by decide +kernel) (by decide +kernel)
theorem gw_L_7 : GoodIn lw_all (wsV RL 7 RX0 yX0_reset (ws_ yX0_reset cX0_reset 3 (some .int))) := gw_V ml_L_7 im_X0_reset se_X0_reset ini_X0 cd_X0_reset
theorem ml_L_108 : Cond.methodLink RL 108 yL_tick ∈ lw_all := lw_mem (i := 212) (by decide +kernel) (by decide +kernel)
theorem ml_L_15 : Cond.methodLink RL 15 yX0_tick ∈ lw_all := lw_mem (i := 215) (by decide +kernel) (by decide +kernel)
theorem gw_L_15 : GoodIn lw_all (wsV RL 15 RX0 yX0_tick (ws_ yX0_tick cX0_tick 4 (some .int))) := gw_V ml_L_15 im_X0_tick se_X0_tick ini_X0 cd_X0_tick
theorem ml_X0_72 : Cond.methodLink RX0 72 yX0_simulateTick ∈ lw_all := lw_mem (i := 220) (by decide +kernel) (by decide +kernel)
theorem gw_X0_72 : GoodIn lw_all (wsV RX0 72 RX0 yX0_simulateTick (ws_ yX0_simulateTick cX0_simulateTick 2 (some .int))) := gw_V ml_X0_72 im_X0_simulateTick se_X0_simulateTick ini_X0 cd_X0_simulateTick
theorem ml_X0_198 : Cond.methodLink RX0 198 yX0_pickForCore ∈ lw_all := lw_mem (i := 224) (by decide +kernel) (by decide +kernel)
theorem gw_X0_198 : GoodIn lw_all (wsV RX0 198 RX0 yX0_pickForCore (ws_ yX0_pickForCore cX0_pickForCore 7 none)) := gw_V ml_X0_198 im_X0_pickForCore se_X0_pickForCore ini_X0 cd_X0_pickForCore
theorem ml_X0_123 : Cond.methodLink RX0 123 yX0_findLeader ∈ lw_all := lw_mem (i := 228) (by decide +kernel) (by decide +kernel)
theorem gw_X0_123 : GoodIn lw_all (wsV RX0 123 RX0 yX0_findLeader (ws_ yX0_findLeader cX0_findLeader 4 (some .int))) := gw_V ml_X0_123 im_X0_findLeader se_X0_findLeader ini_X0 cd_X0_findLeader
theorem ml_X0_99 : Cond.methodLink RX0 99 yX0_isRunnable ∈ lw_all := lw_mem (i := 232) (by decide +kernel) (by decide +kernel)
theorem gw_X0_99 : GoodIn lw_all (wsV RX0 99 RX0 yX0_isRunnable (ws_ yX0_isRunnable cX0_isRunnable 2 (some .boolean))) := gw_V ml_X0_99 im_X0_isRunnable se_X0_isRunnable ini_X0 cd_X0_isRunnable
theorem ml_X0_185 : Cond.methodLink RX0 185 yX0_isOnCore ∈ lw_all := lw_mem (i := 236) (by decide +kernel) (by decide +kernel)
theorem gw_X0_185 : GoodIn lw_all (wsV RX0 185 RX0 yX0_isOnCore (ws_ yX0_isOnCore cX0_isOnCore 3 (some .boolean))) := gw_V ml_X0_185 im_X0_isOnCore se_X0_isOnCore ini_X0 cd_X0_isOnCore
theorem ml_X0_160 : Cond.methodLink RX0 160 yX0_coreOfCpu ∈ lw_all := lw_mem (i := 240) (by decide +kernel) (by decide +kernel)
theorem gw_X0_160 : GoodIn lw_all (va_wsS RX0 160 yX0_coreOfCpu (ws_ yX0_coreOfCpu cX0_coreOfCpu 1 (some .int))) := gw_S ml_X0_160 st_X0_coreOfCpu ini_X0 cd_X0_coreOfCpu
theorem ml_X0_167 : Cond.methodLink RX0 167 yX0_comesBefore ∈ lw_all := lw_mem (i := 243) (by decide +kernel) (by decide +kernel)
theorem gw_X0_167 : GoodIn lw_all (wsV RX0 167 RX0 yX0_comesBefore (ws_ yX0_comesBefore cX0_comesBefore 7 (some .boolean))) := gw_V ml_X0_167 im_X0_comesBefore se_X0_comesBefore ini_X0 cd_X0_comesBefore
theorem ml_X0_163 : Cond.methodLink RX0 163 yX0_relativeTime ∈ lw_all := lw_mem (i := 247) (by decide +kernel) (by decide +kernel)
theorem gw_X0_163 : GoodIn lw_all (wsV RX0 163 RX0 yX0_relativeTime (ws_ yX0_relativeTime cX0_relativeTime 2 (some .long))) := gw_V ml_X0_163 im_X0_relativeTime se_X0_relativeTime ini_X0 cd_X0_relativeTime
theorem ml_X0_176 : Cond.methodLink RX0 176 yX0_releaseTasks ∈ lw_all := lw_mem (i := 251) (by decide +kernel) (by decide +kernel)
theorem gw_X0_176 : GoodIn lw_all (wsV RX0 176 RX0 yX0_releaseTasks (ws_ yX0_releaseTasks cX0_releaseTasks 3 none)) := gw_V ml_X0_176 im_X0_releaseTasks se_X0_releaseTasks ini_X0 cd_X0_releaseTasks
theorem ml_X0_179 : Cond.methodLink RX0 179 yX0_takeTask ∈ lw_all := lw_mem (i := 255) (by decide +kernel) (by decide +kernel)
theorem gw_X0_179 : GoodIn lw_all (wsV RX0 179 RX0 yX0_takeTask (ws_ yX0_takeTask cX0_takeTask 5 (some .int))) := gw_V ml_X0_179 im_X0_takeTask se_X0_takeTask ini_X0 cd_X0_takeTask
theorem ml_X0_188 : Cond.methodLink RX0 188 yX0_findOwn ∈ lw_all := lw_mem (i := 259) (by decide +kernel) (by decide +kernel)
theorem gw_X0_188 : GoodIn lw_all (wsV RX0 188 RX0 yX0_findOwn (ws_ yX0_findOwn cX0_findOwn 5 (some .int))) := gw_V ml_X0_188 im_X0_findOwn se_X0_findOwn ini_X0 cd_X0_findOwn
theorem ml_X0_130 : Cond.methodLink RX0 130 yX0_isQueued ∈ lw_all := lw_mem (i := 263) (by decide +kernel) (by decide +kernel)
theorem gw_X0_130 : GoodIn lw_all (wsV RX0 130 RX0 yX0_isQueued (ws_ yX0_isQueued cX0_isQueued 3 (some .boolean))) := gw_V ml_X0_130 im_X0_isQueued se_X0_isQueued ini_X0 cd_X0_isQueued
theorem ml_X0_191 : Cond.methodLink RX0 191 yX0_findLoot ∈ lw_all := lw_mem (i := 267) (by decide +kernel) (by decide +kernel)
theorem gw_X0_191 : GoodIn lw_all (wsV RX0 191 RX0 yX0_findLoot (ws_ yX0_findLoot cX0_findLoot 5 (some .int))) := gw_V ml_X0_191 im_X0_findLoot se_X0_findLoot ini_X0 cd_X0_findLoot
theorem ml_X0_194 : Cond.methodLink RX0 194 yX0_isLoot ∈ lw_all := lw_mem (i := 271) (by decide +kernel) (by decide +kernel)
theorem gw_X0_194 : GoodIn lw_all (wsV RX0 194 RX0 yX0_isLoot (ws_ yX0_isLoot cX0_isLoot 4 (some .boolean))) := gw_V ml_X0_194 im_X0_isLoot se_X0_isLoot ini_X0 cd_X0_isLoot
theorem ml_X0_116 : Cond.methodLink RX0 116 yX0_moveRunnable ∈ lw_all := lw_mem (i := 275) (by decide +kernel) (by decide +kernel)
theorem gw_X0_116 : GoodIn lw_all (wsV RX0 116 RX0 yX0_moveRunnable (ws_ yX0_moveRunnable cX0_moveRunnable 3 none)) := gw_V ml_X0_116 im_X0_moveRunnable se_X0_moveRunnable ini_X0 cd_X0_moveRunnable
theorem ml_X0_182 : Cond.methodLink RX0 182 yX0_giveToCpu ∈ lw_all := lw_mem (i := 279) (by decide +kernel) (by decide +kernel)
theorem gw_X0_182 : GoodIn lw_all (wsV RX0 182 RX0 yX0_giveToCpu (ws_ yX0_giveToCpu cX0_giveToCpu 3 none)) := gw_V ml_X0_182 im_X0_giveToCpu se_X0_giveToCpu ini_X0 cd_X0_giveToCpu
theorem ml_X0_127 : Cond.methodLink RX0 127 yX0_countQueue ∈ lw_all := lw_mem (i := 283) (by decide +kernel) (by decide +kernel)
theorem gw_X0_127 : GoodIn lw_all (wsV RX0 127 RX0 yX0_countQueue (ws_ yX0_countQueue cX0_countQueue 4 (some .int))) := gw_V ml_X0_127 im_X0_countQueue se_X0_countQueue ini_X0 cd_X0_countQueue
theorem ml_X0_201 : Cond.methodLink RX0 201 yX0_chargeTasks ∈ lw_all := lw_mem (i := 287) (by decide +kernel) (by decide +kernel)
theorem gw_X0_201 : GoodIn lw_all (wsV RX0 201 RX0 yX0_chargeTasks (ws_ yX0_chargeTasks cX0_chargeTasks 3 (some .int))) := gw_V ml_X0_201 im_X0_chargeTasks se_X0_chargeTasks ini_X0 cd_X0_chargeTasks
theorem ml_X0_210 : Cond.methodLink RX0 210 yX0_costOfTick ∈ lw_all := lw_mem (i := 291) (by decide +kernel) (by decide +kernel)
theorem gw_X0_210 : GoodIn lw_all (va_wsS RX0 210 yX0_costOfTick (ws_ yX0_costOfTick cX0_costOfTick 1 (some .int))) := gw_S ml_X0_210 st_X0_costOfTick ini_X0 cd_X0_costOfTick
theorem ml_X0_204 : Cond.methodLink RX0 204 yX0_countIdleCpus ∈ lw_all := lw_mem (i := 294) (by decide +kernel) (by decide +kernel)
theorem gw_X0_204 : GoodIn lw_all (wsV RX0 204 RX0 yX0_countIdleCpus (ws_ yX0_countIdleCpus cX0_countIdleCpus 2 none)) := gw_V ml_X0_204 im_X0_countIdleCpus se_X0_countIdleCpus ini_X0 cd_X0_countIdleCpus
theorem ml_X0_147 : Cond.methodLink RX0 147 yX0_cpuTotal ∈ lw_all := lw_mem (i := 298) (by decide +kernel) (by decide +kernel)
theorem gw_X0_147 : GoodIn lw_all (wsV RX0 147 RX0 yX0_cpuTotal (ws_ yX0_cpuTotal cX0_cpuTotal 1 (some .int))) := gw_V ml_X0_147 im_X0_cpuTotal se_X0_cpuTotal ini_X0 cd_X0_cpuTotal
theorem ml_X0_207 : Cond.methodLink RX0 207 yX0_raiseBases ∈ lw_all := lw_mem (i := 302) (by decide +kernel) (by decide +kernel)
theorem gw_X0_207 : GoodIn lw_all (wsV RX0 207 RX0 yX0_raiseBases (ws_ yX0_raiseBases cX0_raiseBases 3 none)) := gw_V ml_X0_207 im_X0_raiseBases se_X0_raiseBases ini_X0 cd_X0_raiseBases
theorem ml_X0_213 : Cond.methodLink RX0 213 yX0_findLeastTime ∈ lw_all := lw_mem (i := 306) (by decide +kernel) (by decide +kernel)
theorem gw_X0_213 : GoodIn lw_all (wsV RX0 213 RX0 yX0_findLeastTime (ws_ yX0_findLeastTime cX0_findLeastTime 4 (some .int))) := gw_V ml_X0_213 im_X0_findLeastTime se_X0_findLeastTime ini_X0 cd_X0_findLeastTime
theorem ml_X0_170 : Cond.methodLink RX0 170 yJ9_max_f86c9 ∈ lw_all := lw_mem (i := 310) (by decide +kernel) (by decide +kernel)
theorem gw_X0_170 : GoodIn lw_all (va_wsS RX0 170 yJ9_max_f86c9 (ws_ yJ9_max_f86c9 cJ9_max_f86c9 4 (some .long))) := gw_S ml_X0_170 st_J9_max_f86c9 ini_J9 cd_J9_max_f86c9
theorem ml_L_111 : Cond.methodLink RL 111 yL_createTask ∈ lw_all := lw_mem (i := 313) (by decide +kernel) (by decide +kernel)
theorem ml_L_18 : Cond.methodLink RL 18 yX0_createTask ∈ lw_all := lw_mem (i := 317) (by decide +kernel) (by decide +kernel)
theorem gw_L_18 : GoodIn lw_all (wsV RL 18 RX0 yX0_createTask (ws_ yX0_createTask cX0_createTask 5 (some .int))) := gw_V ml_L_18 im_X0_createTask se_X0_createTask ini_X0 cd_X0_createTask
theorem ml_X0_76 : Cond.methodLink RX0 76 yX0_checkCpu ∈ lw_all := lw_mem (i := 321) (by decide +kernel) (by decide +kernel)
theorem gw_X0_76 : GoodIn lw_all (wsV RX0 76 RX0 yX0_checkCpu (ws_ yX0_checkCpu cX0_checkCpu 2 none)) := gw_V ml_X0_76 im_X0_checkCpu se_X0_checkCpu ini_X0 cd_X0_checkCpu
theorem ml_X0_79 : Cond.methodLink RX0 79 yX0_checkWeight ∈ lw_all := lw_mem (i := 326) (by decide +kernel) (by decide +kernel)
theorem gw_X0_79 : GoodIn lw_all (va_wsS RX0 79 yX0_checkWeight (ws_ yX0_checkWeight cX0_checkWeight 1 none)) := gw_S ml_X0_79 st_X0_checkWeight ini_X0 cd_X0_checkWeight
theorem ml_X0_82 : Cond.methodLink RX0 82 yX0_checkCookie ∈ lw_all := lw_mem (i := 330) (by decide +kernel) (by decide +kernel)
theorem gw_X0_82 : GoodIn lw_all (va_wsS RX0 82 yX0_checkCookie (ws_ yX0_checkCookie cX0_checkCookie 1 none)) := gw_S ml_X0_82 st_X0_checkCookie ini_X0 cd_X0_checkCookie
theorem ml_X0_93 : Cond.methodLink RX0 93 yX0_enterQueue ∈ lw_all := lw_mem (i := 350) (by decide +kernel) (by decide +kernel)
theorem gw_X0_93 : GoodIn lw_all (wsV RX0 93 RX0 yX0_enterQueue (ws_ yX0_enterQueue cX0_enterQueue 2 none)) := gw_V ml_X0_93 im_X0_enterQueue se_X0_enterQueue ini_X0 cd_X0_enterQueue
theorem ml_L_115 : Cond.methodLink RL 115 yL_sleep ∈ lw_all := lw_mem (i := 354) (by decide +kernel) (by decide +kernel)
theorem ml_L_24 : Cond.methodLink RL 24 yX0_sleep ∈ lw_all := lw_mem (i := 357) (by decide +kernel) (by decide +kernel)
theorem gw_L_24 : GoodIn lw_all (wsV RL 24 RX0 yX0_sleep (ws_ yX0_sleep cX0_sleep 2 (some .int))) := gw_V ml_L_24 im_X0_sleep se_X0_sleep ini_X0 cd_X0_sleep
theorem ml_X0_96 : Cond.methodLink RX0 96 yX0_checkTask ∈ lw_all := lw_mem (i := 361) (by decide +kernel) (by decide +kernel)
theorem gw_X0_96 : GoodIn lw_all (wsV RX0 96 RX0 yX0_checkTask (ws_ yX0_checkTask cX0_checkTask 2 none)) := gw_V ml_X0_96 im_X0_checkTask se_X0_checkTask ini_X0 cd_X0_checkTask
theorem ml_X0_105 : Cond.methodLink RX0 105 yX0_stopTask ∈ lw_all := lw_mem (i := 367) (by decide +kernel) (by decide +kernel)
theorem gw_X0_105 : GoodIn lw_all (wsV RX0 105 RX0 yX0_stopTask (ws_ yX0_stopTask cX0_stopTask 4 (some .int))) := gw_V ml_X0_105 im_X0_stopTask se_X0_stopTask ini_X0 cd_X0_stopTask
theorem ml_L_118 : Cond.methodLink RL 118 yL_wake ∈ lw_all := lw_mem (i := 371) (by decide +kernel) (by decide +kernel)
theorem ml_L_27 : Cond.methodLink RL 27 yX0_wake ∈ lw_all := lw_mem (i := 374) (by decide +kernel) (by decide +kernel)
theorem gw_L_27 : GoodIn lw_all (wsV RL 27 RX0 yX0_wake (ws_ yX0_wake cX0_wake 2 (some .long))) := gw_V ml_L_27 im_X0_wake se_X0_wake ini_X0 cd_X0_wake
theorem ml_L_121 : Cond.methodLink RL 121 yL_exit ∈ lw_all := lw_mem (i := 379) (by decide +kernel) (by decide +kernel)
theorem ml_L_31 : Cond.methodLink RL 31 yX0_exit ∈ lw_all := lw_mem (i := 382) (by decide +kernel) (by decide +kernel)
theorem gw_L_31 : GoodIn lw_all (wsV RL 31 RX0 yX0_exit (ws_ yX0_exit cX0_exit 2 (some .int))) := gw_V ml_L_31 im_X0_exit se_X0_exit ini_X0 cd_X0_exit
theorem ml_X0_111 : Cond.methodLink RX0 111 yX0_checkNotExited ∈ lw_all := lw_mem (i := 386) (by decide +kernel) (by decide +kernel)
theorem gw_X0_111 : GoodIn lw_all (wsV RX0 111 RX0 yX0_checkNotExited (ws_ yX0_checkNotExited cX0_checkNotExited 2 none)) := gw_V ml_X0_111 im_X0_checkNotExited se_X0_checkNotExited ini_X0 cd_X0_checkNotExited
theorem ml_L_124 : Cond.methodLink RL 124 yL_setWeight ∈ lw_all := lw_mem (i := 391) (by decide +kernel) (by decide +kernel)
theorem ml_L_34 : Cond.methodLink RL 34 yX0_setWeight ∈ lw_all := lw_mem (i := 394) (by decide +kernel) (by decide +kernel)
theorem gw_L_34 : GoodIn lw_all (wsV RL 34 RX0 yX0_setWeight (ws_ yX0_setWeight cX0_setWeight 4 (some .int))) := gw_V ml_L_34 im_X0_setWeight se_X0_setWeight ini_X0 cd_X0_setWeight
theorem ml_L_128 : Cond.methodLink RL 128 yL_setCookie ∈ lw_all := lw_mem (i := 398) (by decide +kernel) (by decide +kernel)
theorem ml_L_38 : Cond.methodLink RL 38 yX0_setCookie ∈ lw_all := lw_mem (i := 401) (by decide +kernel) (by decide +kernel)
theorem gw_L_38 : GoodIn lw_all (wsV RL 38 RX0 yX0_setCookie (ws_ yX0_setCookie cX0_setCookie 4 (some .int))) := gw_V ml_L_38 im_X0_setCookie se_X0_setCookie ini_X0 cd_X0_setCookie
theorem ml_L_131 : Cond.methodLink RL 131 yL_moveTask ∈ lw_all := lw_mem (i := 405) (by decide +kernel) (by decide +kernel)
theorem ml_L_41 : Cond.methodLink RL 41 yX0_moveTask ∈ lw_all := lw_mem (i := 408) (by decide +kernel) (by decide +kernel)
theorem gw_L_41 : GoodIn lw_all (wsV RL 41 RX0 yX0_moveTask (ws_ yX0_moveTask cX0_moveTask 4 (some .int))) := gw_V ml_L_41 im_X0_moveTask se_X0_moveTask ini_X0 cd_X0_moveTask
theorem ml_L_138 : Cond.methodLink RL 138 yL_stateOf ∈ lw_all := lw_mem (i := 413) (by decide +kernel) (by decide +kernel)
theorem ml_L_44 : Cond.methodLink RL 44 yX0_stateOf ∈ lw_all := lw_mem (i := 416) (by decide +kernel) (by decide +kernel)
theorem gw_L_44 : GoodIn lw_all (wsV RL 44 RX0 yX0_stateOf (ws_ yX0_stateOf cX0_stateOf 2 (some .int))) := gw_V ml_L_44 im_X0_stateOf se_X0_stateOf ini_X0 cd_X0_stateOf
theorem ml_L_141 : Cond.methodLink RL 141 yL_cpuOf ∈ lw_all := lw_mem (i := 420) (by decide +kernel) (by decide +kernel)
theorem ml_L_47 : Cond.methodLink RL 47 yX0_cpuOf ∈ lw_all := lw_mem (i := 423) (by decide +kernel) (by decide +kernel)
theorem gw_L_47 : GoodIn lw_all (wsV RL 47 RX0 yX0_cpuOf (ws_ yX0_cpuOf cX0_cpuOf 2 (some .int))) := gw_V ml_L_47 im_X0_cpuOf se_X0_cpuOf ini_X0 cd_X0_cpuOf
theorem ml_L_144 : Cond.methodLink RL 144 yL_virtualTime ∈ lw_all := lw_mem (i := 427) (by decide +kernel) (by decide +kernel)
theorem ml_L_50 : Cond.methodLink RL 50 yX0_virtualTime ∈ lw_all := lw_mem (i := 430) (by decide +kernel) (by decide +kernel)
theorem gw_L_50 : GoodIn lw_all (wsV RL 50 RX0 yX0_virtualTime (ws_ yX0_virtualTime cX0_virtualTime 2 (some .long))) := gw_V ml_L_50 im_X0_virtualTime se_X0_virtualTime ini_X0 cd_X0_virtualTime
theorem ml_L_147 : Cond.methodLink RL 147 yL_runTicks ∈ lw_all := lw_mem (i := 434) (by decide +kernel) (by decide +kernel)
theorem ml_L_53 : Cond.methodLink RL 53 yX0_runTicks ∈ lw_all := lw_mem (i := 437) (by decide +kernel) (by decide +kernel)
theorem gw_L_53 : GoodIn lw_all (wsV RL 53 RX0 yX0_runTicks (ws_ yX0_runTicks cX0_runTicks 2 (some .int))) := gw_V ml_L_53 im_X0_runTicks se_X0_runTicks ini_X0 cd_X0_runTicks
theorem ml_L_150 : Cond.methodLink RL 150 yL_waitTicks ∈ lw_all := lw_mem (i := 441) (by decide +kernel) (by decide +kernel)
theorem ml_L_56 : Cond.methodLink RL 56 yX0_waitTicks ∈ lw_all := lw_mem (i := 444) (by decide +kernel) (by decide +kernel)
theorem gw_L_56 : GoodIn lw_all (wsV RL 56 RX0 yX0_waitTicks (ws_ yX0_waitTicks cX0_waitTicks 2 (some .int))) := gw_V ml_L_56 im_X0_waitTicks se_X0_waitTicks ini_X0 cd_X0_waitTicks
theorem ml_L_153 : Cond.methodLink RL 153 yL_share ∈ lw_all := lw_mem (i := 448) (by decide +kernel) (by decide +kernel)
theorem ml_L_59 : Cond.methodLink RL 59 yX0_share ∈ lw_all := lw_mem (i := 451) (by decide +kernel) (by decide +kernel)
theorem gw_L_59 : GoodIn lw_all (wsV RL 59 RX0 yX0_share (ws_ yX0_share cX0_share 6 (some .double))) := gw_V ml_L_59 im_X0_share se_X0_share ini_X0 cd_X0_share
theorem ml_L_157 : Cond.methodLink RL 157 yL_runningTask ∈ lw_all := lw_mem (i := 455) (by decide +kernel) (by decide +kernel)
theorem ml_L_63 : Cond.methodLink RL 63 yX0_runningTask ∈ lw_all := lw_mem (i := 458) (by decide +kernel) (by decide +kernel)
theorem gw_L_63 : GoodIn lw_all (wsV RL 63 RX0 yX0_runningTask (ws_ yX0_runningTask cX0_runningTask 2 (some .int))) := gw_V ml_L_63 im_X0_runningTask se_X0_runningTask ini_X0 cd_X0_runningTask
theorem ml_L_160 : Cond.methodLink RL 160 yL_coreCookie ∈ lw_all := lw_mem (i := 462) (by decide +kernel) (by decide +kernel)
theorem ml_L_66 : Cond.methodLink RL 66 yX0_coreCookie ∈ lw_all := lw_mem (i := 465) (by decide +kernel) (by decide +kernel)
theorem gw_L_66 : GoodIn lw_all (wsV RL 66 RX0 yX0_coreCookie (ws_ yX0_coreCookie cX0_coreCookie 2 (some .int))) := gw_V ml_L_66 im_X0_coreCookie se_X0_coreCookie ini_X0 cd_X0_coreCookie
theorem ml_X0_120 : Cond.methodLink RX0 120 yX0_checkCore ∈ lw_all := lw_mem (i := 469) (by decide +kernel) (by decide +kernel)
theorem gw_X0_120 : GoodIn lw_all (wsV RX0 120 RX0 yX0_checkCore (ws_ yX0_checkCore cX0_checkCore 2 none)) := gw_V ml_X0_120 im_X0_checkCore se_X0_checkCore ini_X0 cd_X0_checkCore
theorem ml_L_163 : Cond.methodLink RL 163 yL_leaderOf ∈ lw_all := lw_mem (i := 474) (by decide +kernel) (by decide +kernel)
theorem ml_L_69 : Cond.methodLink RL 69 yX0_leaderOf ∈ lw_all := lw_mem (i := 477) (by decide +kernel) (by decide +kernel)
theorem gw_L_69 : GoodIn lw_all (wsV RL 69 RX0 yX0_leaderOf (ws_ yX0_leaderOf cX0_leaderOf 2 (some .int))) := gw_V ml_L_69 im_X0_leaderOf se_X0_leaderOf ini_X0 cd_X0_leaderOf
theorem ml_L_166 : Cond.methodLink RL 166 yL_queueLength ∈ lw_all := lw_mem (i := 481) (by decide +kernel) (by decide +kernel)
theorem ml_L_72 : Cond.methodLink RL 72 yX0_queueLength ∈ lw_all := lw_mem (i := 484) (by decide +kernel) (by decide +kernel)
theorem gw_L_72 : GoodIn lw_all (wsV RL 72 RX0 yX0_queueLength (ws_ yX0_queueLength cX0_queueLength 2 (some .int))) := gw_V ml_L_72 im_X0_queueLength se_X0_queueLength ini_X0 cd_X0_queueLength
theorem ml_L_169 : Cond.methodLink RL 169 yL_queuedTask ∈ lw_all := lw_mem (i := 488) (by decide +kernel) (by decide +kernel)
theorem ml_L_75 : Cond.methodLink RL 75 yX0_queuedTask ∈ lw_all := lw_mem (i := 492) (by decide +kernel) (by decide +kernel)
theorem gw_L_75 : GoodIn lw_all (wsV RL 75 RX0 yX0_queuedTask (ws_ yX0_queuedTask cX0_queuedTask 4 (some .int))) := gw_V ml_L_75 im_X0_queuedTask se_X0_queuedTask ini_X0 cd_X0_queuedTask
theorem ml_X0_134 : Cond.methodLink RX0 134 yX0_positionOf ∈ lw_all := lw_mem (i := 496) (by decide +kernel) (by decide +kernel)
theorem gw_X0_134 : GoodIn lw_all (wsV RX0 134 RX0 yX0_positionOf (ws_ yX0_positionOf cX0_positionOf 4 (some .int))) := gw_V ml_X0_134 im_X0_positionOf se_X0_positionOf ini_X0 cd_X0_positionOf
theorem ml_L_172 : Cond.methodLink RL 172 yL_baseOf ∈ lw_all := lw_mem (i := 516) (by decide +kernel) (by decide +kernel)
theorem ml_L_80 : Cond.methodLink RL 80 yX0_baseOf ∈ lw_all := lw_mem (i := 519) (by decide +kernel) (by decide +kernel)
theorem gw_L_80 : GoodIn lw_all (wsV RL 80 RX0 yX0_baseOf (ws_ yX0_baseOf cX0_baseOf 2 (some .long))) := gw_V ml_L_80 im_X0_baseOf se_X0_baseOf ini_X0 cd_X0_baseOf
theorem ml_L_175 : Cond.methodLink RL 175 yL_idleTicks ∈ lw_all := lw_mem (i := 523) (by decide +kernel) (by decide +kernel)
theorem ml_L_83 : Cond.methodLink RL 83 yX0_idleTicks ∈ lw_all := lw_mem (i := 526) (by decide +kernel) (by decide +kernel)
theorem gw_L_83 : GoodIn lw_all (wsV RL 83 RX0 yX0_idleTicks (ws_ yX0_idleTicks cX0_idleTicks 2 (some .int))) := gw_V ml_L_83 im_X0_idleTicks se_X0_idleTicks ini_X0 cd_X0_idleTicks
theorem ml_L_178 : Cond.methodLink RL 178 yL_forcedIdleTicks ∈ lw_all := lw_mem (i := 530) (by decide +kernel) (by decide +kernel)
theorem ml_L_86 : Cond.methodLink RL 86 yX0_forcedIdleTicks ∈ lw_all := lw_mem (i := 533) (by decide +kernel) (by decide +kernel)
theorem gw_L_86 : GoodIn lw_all (wsV RL 86 RX0 yX0_forcedIdleTicks (ws_ yX0_forcedIdleTicks cX0_forcedIdleTicks 2 (some .int))) := gw_V ml_L_86 im_X0_forcedIdleTicks se_X0_forcedIdleTicks ini_X0 cd_X0_forcedIdleTicks
theorem ml_L_92 : Cond.methodLink RL 92 yX1_init ∈ lw_all := lw_mem (i := 539) (by decide +kernel) (by decide +kernel)
theorem ml_X1_55 : Cond.methodLink RX1 55 yX1_begins ∈ lw_all := lw_mem (i := 543) (by decide +kernel) (by decide +kernel)
theorem gw_X1_55 : GoodIn lw_all (wsV RX1 55 RX1 yX1_begins (ws_ yX1_begins cX1_begins 3 none)) := gw_V ml_X1_55 im_X1_begins se_X1_begins ini_X1 cd_X1_begins
theorem ml_L_99 : Cond.methodLink RL 99 yX1_thrown ∈ lw_all := lw_mem (i := 602) (by decide +kernel) (by decide +kernel)
theorem gw_L_99 : GoodIn lw_all (wsV RL 99 RX1 yX1_thrown (ws_ yX1_thrown cX1_thrown 1 (some .int))) := gw_V ml_L_99 im_X1_thrown se_X1_thrown ini_X1 cd_X1_thrown
theorem ml_L_98 : Cond.methodLink RL 98 yX1_reset ∈ lw_all := lw_mem (i := 606) (by decide +kernel) (by decide +kernel)
theorem gw_L_98 : GoodIn lw_all (wsV RL 98 RX1 yX1_reset (ws_ yX1_reset cX1_reset 3 (some .int))) := gw_V ml_L_98 im_X1_reset se_X1_reset ini_X1 cd_X1_reset
theorem ml_X1_72 : Cond.methodLink RX1 72 yX1_in ∈ lw_all := lw_mem (i := 611) (by decide +kernel) (by decide +kernel)
theorem gw_X1_72 : GoodIn lw_all (va_wsS RX1 72 yX1_in (ws_ yX1_in cX1_in 6 (some .boolean))) := gw_S ml_X1_72 st_X1_in ini_X1 cd_X1_in
theorem ml_X1_78 : Cond.methodLink RX1 78 yX1_isRefused ∈ lw_all := lw_mem (i := 614) (by decide +kernel) (by decide +kernel)
theorem gw_X1_78 : GoodIn lw_all (wsV RX1 78 RX1 yX1_isRefused (ws_ yX1_isRefused cX1_isRefused 3 (some .boolean))) := gw_V ml_X1_78 im_X1_isRefused se_X1_isRefused ini_X1 cd_X1_isRefused
theorem ml_L_107 : Cond.methodLink RL 107 yX1_setStealing ∈ lw_all := lw_mem (i := 618) (by decide +kernel) (by decide +kernel)
theorem gw_L_107 : GoodIn lw_all (wsV RL 107 RX1 yX1_setStealing (ws_ yX1_setStealing cX1_setStealing 3 (some .boolean))) := gw_V ml_L_107 im_X1_setStealing se_X1_setStealing ini_X1 cd_X1_setStealing
theorem ml_L_110 : Cond.methodLink RL 110 yX1_tick ∈ lw_all := lw_mem (i := 622) (by decide +kernel) (by decide +kernel)
theorem gw_L_110 : GoodIn lw_all (wsV RL 110 RX1 yX1_tick (ws_ yX1_tick cX1_tick 4 (some .int))) := gw_V ml_L_110 im_X1_tick se_X1_tick ini_X1 cd_X1_tick
theorem ml_X1_117 : Cond.methodLink RX1 117 yX1_tickOne ∈ lw_all := lw_mem (i := 627) (by decide +kernel) (by decide +kernel)
theorem gw_X1_117 : GoodIn lw_all (wsV RX1 117 RX1 yX1_tickOne (ws_ yX1_tickOne cX1_tickOne 5 (some .int))) := gw_V ml_X1_117 im_X1_tickOne se_X1_tickOne ini_X1 cd_X1_tickOne
theorem ml_X1_112 : Cond.methodLink RX1 112 yX1_picks ∈ lw_all := lw_mem (i := 631) (by decide +kernel) (by decide +kernel)
theorem gw_X1_112 : GoodIn lw_all (wsV RX1 112 RX1 yX1_picks (ws_ yX1_picks cX1_picks 5 none)) := gw_V ml_X1_112 im_X1_picks se_X1_picks ini_X1 cd_X1_picks
theorem ml_X1_94 : Cond.methodLink RX1 94 yX1_leader ∈ lw_all := lw_mem (i := 635) (by decide +kernel) (by decide +kernel)
theorem gw_X1_94 : GoodIn lw_all (wsV RX1 94 RX1 yX1_leader (ws_ yX1_leader cX1_leader 4 (some .int))) := gw_V ml_X1_94 im_X1_leader se_X1_leader ini_X1 cd_X1_leader
theorem ml_X1_86 : Cond.methodLink RX1 86 yX1_isRunnable ∈ lw_all := lw_mem (i := 639) (by decide +kernel) (by decide +kernel)
theorem gw_X1_86 : GoodIn lw_all (wsV RX1 86 RX1 yX1_isRunnable (ws_ yX1_isRunnable cX1_isRunnable 2 (some .boolean))) := gw_V ml_X1_86 im_X1_isRunnable se_X1_isRunnable ini_X1 cd_X1_isRunnable
theorem ml_X1_90 : Cond.methodLink RX1 90 yX1_isAhead ∈ lw_all := lw_mem (i := 643) (by decide +kernel) (by decide +kernel)
theorem gw_X1_90 : GoodIn lw_all (wsV RX1 90 RX1 yX1_isAhead (ws_ yX1_isAhead cX1_isAhead 7 (some .boolean))) := gw_V ml_X1_90 im_X1_isAhead se_X1_isAhead ini_X1 cd_X1_isAhead
theorem ml_X1_82 : Cond.methodLink RX1 82 yX1_relative ∈ lw_all := lw_mem (i := 647) (by decide +kernel) (by decide +kernel)
theorem gw_X1_82 : GoodIn lw_all (wsV RX1 82 RX1 yX1_relative (ws_ yX1_relative cX1_relative 2 (some .long))) := gw_V ml_X1_82 im_X1_relative se_X1_relative ini_X1 cd_X1_relative
theorem ml_X1_98 : Cond.methodLink RX1 98 yX1_firstOf ∈ lw_all := lw_mem (i := 651) (by decide +kernel) (by decide +kernel)
theorem gw_X1_98 : GoodIn lw_all (wsV RX1 98 RX1 yX1_firstOf (ws_ yX1_firstOf cX1_firstOf 5 (some .int))) := gw_V ml_X1_98 im_X1_firstOf se_X1_firstOf ini_X1 cd_X1_firstOf
theorem ml_X1_102 : Cond.methodLink RX1 102 yX1_toSteal ∈ lw_all := lw_mem (i := 655) (by decide +kernel) (by decide +kernel)
theorem gw_X1_102 : GoodIn lw_all (wsV RX1 102 RX1 yX1_toSteal (ws_ yX1_toSteal cX1_toSteal 5 (some .int))) := gw_V ml_X1_102 im_X1_toSteal se_X1_toSteal ini_X1 cd_X1_toSteal
theorem ml_X1_105 : Cond.methodLink RX1 105 yX1_goesTo ∈ lw_all := lw_mem (i := 659) (by decide +kernel) (by decide +kernel)
theorem gw_X1_105 : GoodIn lw_all (wsV RX1 105 RX1 yX1_goesTo (ws_ yX1_goesTo cX1_goesTo 3 none)) := gw_V ml_X1_105 im_X1_goesTo se_X1_goesTo ini_X1 cd_X1_goesTo
theorem ml_X1_109 : Cond.methodLink RX1 109 yX1_queued ∈ lw_all := lw_mem (i := 663) (by decide +kernel) (by decide +kernel)
theorem gw_X1_109 : GoodIn lw_all (wsV RX1 109 RX1 yX1_queued (ws_ yX1_queued cX1_queued 4 (some .int))) := gw_V ml_X1_109 im_X1_queued se_X1_queued ini_X1 cd_X1_queued
theorem ml_L_114 : Cond.methodLink RL 114 yX1_createTask ∈ lw_all := lw_mem (i := 667) (by decide +kernel) (by decide +kernel)
theorem gw_L_114 : GoodIn lw_all (wsV RL 114 RX1 yX1_createTask (ws_ yX1_createTask cX1_createTask 5 (some .int))) := gw_V ml_L_114 im_X1_createTask se_X1_createTask ini_X1 cd_X1_createTask
theorem ml_X1_125 : Cond.methodLink RX1 125 yX1_noCpu ∈ lw_all := lw_mem (i := 671) (by decide +kernel) (by decide +kernel)
theorem gw_X1_125 : GoodIn lw_all (wsV RX1 125 RX1 yX1_noCpu (ws_ yX1_noCpu cX1_noCpu 2 (some .boolean))) := gw_V ml_X1_125 im_X1_noCpu se_X1_noCpu ini_X1 cd_X1_noCpu
theorem ml_X1_128 : Cond.methodLink RX1 128 yX1_noWeight ∈ lw_all := lw_mem (i := 675) (by decide +kernel) (by decide +kernel)
theorem gw_X1_128 : GoodIn lw_all (va_wsS RX1 128 yX1_noWeight (ws_ yX1_noWeight cX1_noWeight 1 (some .boolean))) := gw_S ml_X1_128 st_X1_noWeight ini_X1 cd_X1_noWeight
theorem ml_X1_131 : Cond.methodLink RX1 131 yX1_noCookie ∈ lw_all := lw_mem (i := 679) (by decide +kernel) (by decide +kernel)
theorem gw_X1_131 : GoodIn lw_all (va_wsS RX1 131 yX1_noCookie (ws_ yX1_noCookie cX1_noCookie 1 (some .boolean))) := gw_S ml_X1_131 st_X1_noCookie ini_X1 cd_X1_noCookie
theorem ml_L_117 : Cond.methodLink RL 117 yX1_sleep ∈ lw_all := lw_mem (i := 683) (by decide +kernel) (by decide +kernel)
theorem gw_L_117 : GoodIn lw_all (wsV RL 117 RX1 yX1_sleep (ws_ yX1_sleep cX1_sleep 2 (some .int))) := gw_V ml_L_117 im_X1_sleep se_X1_sleep ini_X1 cd_X1_sleep
theorem ml_X1_134 : Cond.methodLink RX1 134 yX1_noTask ∈ lw_all := lw_mem (i := 687) (by decide +kernel) (by decide +kernel)
theorem gw_X1_134 : GoodIn lw_all (wsV RX1 134 RX1 yX1_noTask (ws_ yX1_noTask cX1_noTask 2 (some .boolean))) := gw_V ml_X1_134 im_X1_noTask se_X1_noTask ini_X1 cd_X1_noTask
theorem ml_X1_137 : Cond.methodLink RX1 137 yX1_becomes ∈ lw_all := lw_mem (i := 691) (by decide +kernel) (by decide +kernel)
theorem gw_X1_137 : GoodIn lw_all (wsV RX1 137 RX1 yX1_becomes (ws_ yX1_becomes cX1_becomes 4 (some .int))) := gw_V ml_X1_137 im_X1_becomes se_X1_becomes ini_X1 cd_X1_becomes
theorem ml_L_120 : Cond.methodLink RL 120 yX1_wake ∈ lw_all := lw_mem (i := 695) (by decide +kernel) (by decide +kernel)
theorem gw_L_120 : GoodIn lw_all (wsV RL 120 RX1 yX1_wake (ws_ yX1_wake cX1_wake 2 (some .long))) := gw_V ml_L_120 im_X1_wake se_X1_wake ini_X1 cd_X1_wake
theorem ml_L_123 : Cond.methodLink RL 123 yX1_exit ∈ lw_all := lw_mem (i := 699) (by decide +kernel) (by decide +kernel)
theorem gw_L_123 : GoodIn lw_all (wsV RL 123 RX1 yX1_exit (ws_ yX1_exit cX1_exit 2 (some .int))) := gw_V ml_L_123 im_X1_exit se_X1_exit ini_X1 cd_X1_exit
theorem ml_X1_140 : Cond.methodLink RX1 140 yX1_hasExited ∈ lw_all := lw_mem (i := 703) (by decide +kernel) (by decide +kernel)
theorem gw_X1_140 : GoodIn lw_all (wsV RX1 140 RX1 yX1_hasExited (ws_ yX1_hasExited cX1_hasExited 2 (some .boolean))) := gw_V ml_X1_140 im_X1_hasExited se_X1_hasExited ini_X1 cd_X1_hasExited
theorem ml_L_127 : Cond.methodLink RL 127 yX1_setWeight ∈ lw_all := lw_mem (i := 707) (by decide +kernel) (by decide +kernel)
theorem gw_L_127 : GoodIn lw_all (wsV RL 127 RX1 yX1_setWeight (ws_ yX1_setWeight cX1_setWeight 4 (some .int))) := gw_V ml_L_127 im_X1_setWeight se_X1_setWeight ini_X1 cd_X1_setWeight
theorem ml_L_130 : Cond.methodLink RL 130 yX1_setCookie ∈ lw_all := lw_mem (i := 711) (by decide +kernel) (by decide +kernel)
theorem gw_L_130 : GoodIn lw_all (wsV RL 130 RX1 yX1_setCookie (ws_ yX1_setCookie cX1_setCookie 4 (some .int))) := gw_V ml_L_130 im_X1_setCookie se_X1_setCookie ini_X1 cd_X1_setCookie
theorem ml_L_133 : Cond.methodLink RL 133 yX1_moveTask ∈ lw_all := lw_mem (i := 715) (by decide +kernel) (by decide +kernel)
theorem gw_L_133 : GoodIn lw_all (wsV RL 133 RX1 yX1_moveTask (ws_ yX1_moveTask cX1_moveTask 5 (some .int))) := gw_V ml_L_133 im_X1_moveTask se_X1_moveTask ini_X1 cd_X1_moveTask
theorem ml_L_137 : Cond.methodLink RL 137 yX1_taskCount ∈ lw_all := lw_mem (i := 719) (by decide +kernel) (by decide +kernel)
theorem gw_L_137 : GoodIn lw_all (wsV RL 137 RX1 yX1_taskCount (ws_ yX1_taskCount cX1_taskCount 1 (some .int))) := gw_V ml_L_137 im_X1_taskCount se_X1_taskCount ini_X1 cd_X1_taskCount
theorem ml_L_140 : Cond.methodLink RL 140 yX1_stateOf ∈ lw_all := lw_mem (i := 723) (by decide +kernel) (by decide +kernel)
theorem gw_L_140 : GoodIn lw_all (wsV RL 140 RX1 yX1_stateOf (ws_ yX1_stateOf cX1_stateOf 2 (some .int))) := gw_V ml_L_140 im_X1_stateOf se_X1_stateOf ini_X1 cd_X1_stateOf
theorem ml_L_143 : Cond.methodLink RL 143 yX1_cpuOf ∈ lw_all := lw_mem (i := 727) (by decide +kernel) (by decide +kernel)
theorem gw_L_143 : GoodIn lw_all (wsV RL 143 RX1 yX1_cpuOf (ws_ yX1_cpuOf cX1_cpuOf 2 (some .int))) := gw_V ml_L_143 im_X1_cpuOf se_X1_cpuOf ini_X1 cd_X1_cpuOf
theorem ml_L_146 : Cond.methodLink RL 146 yX1_virtualTime ∈ lw_all := lw_mem (i := 731) (by decide +kernel) (by decide +kernel)
theorem gw_L_146 : GoodIn lw_all (wsV RL 146 RX1 yX1_virtualTime (ws_ yX1_virtualTime cX1_virtualTime 2 (some .long))) := gw_V ml_L_146 im_X1_virtualTime se_X1_virtualTime ini_X1 cd_X1_virtualTime
theorem ml_L_149 : Cond.methodLink RL 149 yX1_runTicks ∈ lw_all := lw_mem (i := 735) (by decide +kernel) (by decide +kernel)
theorem gw_L_149 : GoodIn lw_all (wsV RL 149 RX1 yX1_runTicks (ws_ yX1_runTicks cX1_runTicks 2 (some .int))) := gw_V ml_L_149 im_X1_runTicks se_X1_runTicks ini_X1 cd_X1_runTicks
theorem ml_L_152 : Cond.methodLink RL 152 yX1_waitTicks ∈ lw_all := lw_mem (i := 739) (by decide +kernel) (by decide +kernel)
theorem gw_L_152 : GoodIn lw_all (wsV RL 152 RX1 yX1_waitTicks (ws_ yX1_waitTicks cX1_waitTicks 2 (some .int))) := gw_V ml_L_152 im_X1_waitTicks se_X1_waitTicks ini_X1 cd_X1_waitTicks
theorem ml_L_156 : Cond.methodLink RL 156 yX1_share ∈ lw_all := lw_mem (i := 743) (by decide +kernel) (by decide +kernel)
theorem gw_L_156 : GoodIn lw_all (wsV RL 156 RX1 yX1_share (ws_ yX1_share cX1_share 2 (some .double))) := gw_V ml_L_156 im_X1_share se_X1_share ini_X1 cd_X1_share
theorem ml_L_159 : Cond.methodLink RL 159 yX1_runningTask ∈ lw_all := lw_mem (i := 747) (by decide +kernel) (by decide +kernel)
theorem gw_L_159 : GoodIn lw_all (wsV RL 159 RX1 yX1_runningTask (ws_ yX1_runningTask cX1_runningTask 2 (some .int))) := gw_V ml_L_159 im_X1_runningTask se_X1_runningTask ini_X1 cd_X1_runningTask
theorem ml_L_162 : Cond.methodLink RL 162 yX1_coreCookie ∈ lw_all := lw_mem (i := 751) (by decide +kernel) (by decide +kernel)
theorem gw_L_162 : GoodIn lw_all (wsV RL 162 RX1 yX1_coreCookie (ws_ yX1_coreCookie cX1_coreCookie 2 (some .int))) := gw_V ml_L_162 im_X1_coreCookie se_X1_coreCookie ini_X1 cd_X1_coreCookie
theorem ml_X1_143 : Cond.methodLink RX1 143 yX1_noCore ∈ lw_all := lw_mem (i := 755) (by decide +kernel) (by decide +kernel)
theorem gw_X1_143 : GoodIn lw_all (wsV RX1 143 RX1 yX1_noCore (ws_ yX1_noCore cX1_noCore 2 (some .boolean))) := gw_V ml_X1_143 im_X1_noCore se_X1_noCore ini_X1 cd_X1_noCore
theorem ml_L_165 : Cond.methodLink RL 165 yX1_leaderOf ∈ lw_all := lw_mem (i := 759) (by decide +kernel) (by decide +kernel)
theorem gw_L_165 : GoodIn lw_all (wsV RL 165 RX1 yX1_leaderOf (ws_ yX1_leaderOf cX1_leaderOf 2 (some .int))) := gw_V ml_L_165 im_X1_leaderOf se_X1_leaderOf ini_X1 cd_X1_leaderOf
theorem ml_L_168 : Cond.methodLink RL 168 yX1_queueLength ∈ lw_all := lw_mem (i := 763) (by decide +kernel) (by decide +kernel)
theorem gw_L_168 : GoodIn lw_all (wsV RL 168 RX1 yX1_queueLength (ws_ yX1_queueLength cX1_queueLength 2 (some .int))) := gw_V ml_L_168 im_X1_queueLength se_X1_queueLength ini_X1 cd_X1_queueLength
theorem ml_L_171 : Cond.methodLink RL 171 yX1_queuedTask ∈ lw_all := lw_mem (i := 767) (by decide +kernel) (by decide +kernel)
theorem gw_L_171 : GoodIn lw_all (wsV RL 171 RX1 yX1_queuedTask (ws_ yX1_queuedTask cX1_queuedTask 7 (some .int))) := gw_V ml_L_171 im_X1_queuedTask se_X1_queuedTask ini_X1 cd_X1_queuedTask
theorem ml_L_174 : Cond.methodLink RL 174 yX1_baseOf ∈ lw_all := lw_mem (i := 771) (by decide +kernel) (by decide +kernel)
theorem gw_L_174 : GoodIn lw_all (wsV RL 174 RX1 yX1_baseOf (ws_ yX1_baseOf cX1_baseOf 2 (some .long))) := gw_V ml_L_174 im_X1_baseOf se_X1_baseOf ini_X1 cd_X1_baseOf
theorem ml_L_177 : Cond.methodLink RL 177 yX1_idleTicks ∈ lw_all := lw_mem (i := 775) (by decide +kernel) (by decide +kernel)
theorem gw_L_177 : GoodIn lw_all (wsV RL 177 RX1 yX1_idleTicks (ws_ yX1_idleTicks cX1_idleTicks 2 (some .int))) := gw_V ml_L_177 im_X1_idleTicks se_X1_idleTicks ini_X1 cd_X1_idleTicks
theorem ml_L_180 : Cond.methodLink RL 180 yX1_forcedIdleTicks ∈ lw_all := lw_mem (i := 779) (by decide +kernel) (by decide +kernel)
theorem gw_L_180 : GoodIn lw_all (wsV RL 180 RX1 yX1_forcedIdleTicks (ws_ yX1_forcedIdleTicks cX1_forcedIdleTicks 2 (some .int))) := gw_V ml_L_180 im_X1_forcedIdleTicks se_X1_forcedIdleTicks ini_X1 cd_X1_forcedIdleTicks
theorem ml_L_184 : Cond.methodLink RL 184 yX1_stolenTasks ∈ lw_all := lw_mem (i := 783) (by decide +kernel) (by decide +kernel)
theorem gw_L_184 : GoodIn lw_all (wsV RL 184 RX1 yX1_stolenTasks (ws_ yX1_stolenTasks cX1_stolenTasks 1 (some .int))) := gw_V ml_L_184 im_X1_stolenTasks se_X1_stolenTasks ini_X1 cd_X1_stolenTasks
theorem hd_X0_init : yX0_init.cls = RX0 ∧ yX0_init.cls ≠ "java/lang/invoke/MethodHandle" ∧ yX0_init.cls ≠ "java/lang/invoke/VarHandle" ∧ (parseMethodDescriptor yX0_init.desc).map (fun d => d.parameters.length) = some 0 := by decide +kernel
theorem hd_X0_startAnew : yX0_startAnew.cls = RX0 ∧ yX0_startAnew.cls ≠ "java/lang/invoke/MethodHandle" ∧ yX0_startAnew.cls ≠ "java/lang/invoke/VarHandle" ∧ (parseMethodDescriptor yX0_startAnew.desc).map (fun d => d.parameters.length) = some 1 := by decide +kernel
theorem hd_X0_setStealing : yX0_setStealing.cls = RX0 ∧ yX0_setStealing.cls ≠ "java/lang/invoke/MethodHandle" ∧ yX0_setStealing.cls ≠ "java/lang/invoke/VarHandle" ∧ (parseMethodDescriptor yX0_setStealing.desc).map (fun d => d.parameters.length) = some 1 := by decide +kernel
theorem hd_X0_taskCount : yX0_taskCount.cls = RX0 ∧ yX0_taskCount.cls ≠ "java/lang/invoke/MethodHandle" ∧ yX0_taskCount.cls ≠ "java/lang/invoke/VarHandle" ∧ (parseMethodDescriptor yX0_taskCount.desc).map (fun d => d.parameters.length) = some 0 := by decide +kernel
theorem hd_X0_stolenTasks : yX0_stolenTasks.cls = RX0 ∧ yX0_stolenTasks.cls ≠ "java/lang/invoke/MethodHandle" ∧ yX0_stolenTasks.cls ≠ "java/lang/invoke/VarHandle" ∧ (parseMethodDescriptor yX0_stolenTasks.desc).map (fun d => d.parameters.length) = some 0 := by decide +kernel
theorem hd_X0_reset : yX0_reset.cls = RX0 ∧ yX0_reset.cls ≠ "java/lang/invoke/MethodHandle" ∧ yX0_reset.cls ≠ "java/lang/invoke/VarHandle" ∧ (parseMethodDescriptor yX0_reset.desc).map (fun d => d.parameters.length) = some 1 := by decide +kernel
theorem hd_X0_tick : yX0_tick.cls = RX0 ∧ yX0_tick.cls ≠ "java/lang/invoke/MethodHandle" ∧ yX0_tick.cls ≠ "java/lang/invoke/VarHandle" ∧ (parseMethodDescriptor yX0_tick.desc).map (fun d => d.parameters.length) = some 1 := by decide +kernel
theorem hd_X0_simulateTick : yX0_simulateTick.cls = RX0 ∧ yX0_simulateTick.cls ≠ "java/lang/invoke/MethodHandle" ∧ yX0_simulateTick.cls ≠ "java/lang/invoke/VarHandle" ∧ (parseMethodDescriptor yX0_simulateTick.desc).map (fun d => d.parameters.length) = some 0 := by decide +kernel
theorem hd_X0_pickForCore : yX0_pickForCore.cls = RX0 ∧ yX0_pickForCore.cls ≠ "java/lang/invoke/MethodHandle" ∧ yX0_pickForCore.cls ≠ "java/lang/invoke/VarHandle" ∧ (parseMethodDescriptor yX0_pickForCore.desc).map (fun d => d.parameters.length) = some 1 := by decide +kernel
theorem hd_X0_findLeader : yX0_findLeader.cls = RX0 ∧ yX0_findLeader.cls ≠ "java/lang/invoke/MethodHandle" ∧ yX0_findLeader.cls ≠ "java/lang/invoke/VarHandle" ∧ (parseMethodDescriptor yX0_findLeader.desc).map (fun d => d.parameters.length) = some 1 := by decide +kernel
theorem hd_X0_isRunnable : yX0_isRunnable.cls = RX0 ∧ yX0_isRunnable.cls ≠ "java/lang/invoke/MethodHandle" ∧ yX0_isRunnable.cls ≠ "java/lang/invoke/VarHandle" ∧ (parseMethodDescriptor yX0_isRunnable.desc).map (fun d => d.parameters.length) = some 1 := by decide +kernel
theorem hd_X0_isOnCore : yX0_isOnCore.cls = RX0 ∧ yX0_isOnCore.cls ≠ "java/lang/invoke/MethodHandle" ∧ yX0_isOnCore.cls ≠ "java/lang/invoke/VarHandle" ∧ (parseMethodDescriptor yX0_isOnCore.desc).map (fun d => d.parameters.length) = some 2 := by decide +kernel
theorem hd_X0_coreOfCpu : yX0_coreOfCpu.cls = RX0 ∧ yX0_coreOfCpu.cls ≠ "java/lang/invoke/MethodHandle" ∧ yX0_coreOfCpu.cls ≠ "java/lang/invoke/VarHandle" ∧ (parseMethodDescriptor yX0_coreOfCpu.desc).map (fun d => d.parameters.length) = some 1 := by decide +kernel
theorem hd_X0_comesBefore : yX0_comesBefore.cls = RX0 ∧ yX0_comesBefore.cls ≠ "java/lang/invoke/MethodHandle" ∧ yX0_comesBefore.cls ≠ "java/lang/invoke/VarHandle" ∧ (parseMethodDescriptor yX0_comesBefore.desc).map (fun d => d.parameters.length) = some 2 := by decide +kernel
theorem hd_X0_relativeTime : yX0_relativeTime.cls = RX0 ∧ yX0_relativeTime.cls ≠ "java/lang/invoke/MethodHandle" ∧ yX0_relativeTime.cls ≠ "java/lang/invoke/VarHandle" ∧ (parseMethodDescriptor yX0_relativeTime.desc).map (fun d => d.parameters.length) = some 1 := by decide +kernel
theorem hd_X0_releaseTasks : yX0_releaseTasks.cls = RX0 ∧ yX0_releaseTasks.cls ≠ "java/lang/invoke/MethodHandle" ∧ yX0_releaseTasks.cls ≠ "java/lang/invoke/VarHandle" ∧ (parseMethodDescriptor yX0_releaseTasks.desc).map (fun d => d.parameters.length) = some 1 := by decide +kernel
theorem hd_X0_takeTask : yX0_takeTask.cls = RX0 ∧ yX0_takeTask.cls ≠ "java/lang/invoke/MethodHandle" ∧ yX0_takeTask.cls ≠ "java/lang/invoke/VarHandle" ∧ (parseMethodDescriptor yX0_takeTask.desc).map (fun d => d.parameters.length) = some 2 := by decide +kernel
theorem hd_X0_findOwn : yX0_findOwn.cls = RX0 ∧ yX0_findOwn.cls ≠ "java/lang/invoke/MethodHandle" ∧ yX0_findOwn.cls ≠ "java/lang/invoke/VarHandle" ∧ (parseMethodDescriptor yX0_findOwn.desc).map (fun d => d.parameters.length) = some 2 := by decide +kernel
theorem hd_X0_isQueued : yX0_isQueued.cls = RX0 ∧ yX0_isQueued.cls ≠ "java/lang/invoke/MethodHandle" ∧ yX0_isQueued.cls ≠ "java/lang/invoke/VarHandle" ∧ (parseMethodDescriptor yX0_isQueued.desc).map (fun d => d.parameters.length) = some 2 := by decide +kernel
theorem hd_X0_findLoot : yX0_findLoot.cls = RX0 ∧ yX0_findLoot.cls ≠ "java/lang/invoke/MethodHandle" ∧ yX0_findLoot.cls ≠ "java/lang/invoke/VarHandle" ∧ (parseMethodDescriptor yX0_findLoot.desc).map (fun d => d.parameters.length) = some 2 := by decide +kernel
theorem hd_X0_isLoot : yX0_isLoot.cls = RX0 ∧ yX0_isLoot.cls ≠ "java/lang/invoke/MethodHandle" ∧ yX0_isLoot.cls ≠ "java/lang/invoke/VarHandle" ∧ (parseMethodDescriptor yX0_isLoot.desc).map (fun d => d.parameters.length) = some 3 := by decide +kernel
theorem hd_X0_moveRunnable : yX0_moveRunnable.cls = RX0 ∧ yX0_moveRunnable.cls ≠ "java/lang/invoke/MethodHandle" ∧ yX0_moveRunnable.cls ≠ "java/lang/invoke/VarHandle" ∧ (parseMethodDescriptor yX0_moveRunnable.desc).map (fun d => d.parameters.length) = some 2 := by decide +kernel
theorem hd_X0_giveToCpu : yX0_giveToCpu.cls = RX0 ∧ yX0_giveToCpu.cls ≠ "java/lang/invoke/MethodHandle" ∧ yX0_giveToCpu.cls ≠ "java/lang/invoke/VarHandle" ∧ (parseMethodDescriptor yX0_giveToCpu.desc).map (fun d => d.parameters.length) = some 2 := by decide +kernel
theorem hd_X0_countQueue : yX0_countQueue.cls = RX0 ∧ yX0_countQueue.cls ≠ "java/lang/invoke/MethodHandle" ∧ yX0_countQueue.cls ≠ "java/lang/invoke/VarHandle" ∧ (parseMethodDescriptor yX0_countQueue.desc).map (fun d => d.parameters.length) = some 1 := by decide +kernel
theorem hd_X0_chargeTasks : yX0_chargeTasks.cls = RX0 ∧ yX0_chargeTasks.cls ≠ "java/lang/invoke/MethodHandle" ∧ yX0_chargeTasks.cls ≠ "java/lang/invoke/VarHandle" ∧ (parseMethodDescriptor yX0_chargeTasks.desc).map (fun d => d.parameters.length) = some 0 := by decide +kernel
theorem hd_X0_costOfTick : yX0_costOfTick.cls = RX0 ∧ yX0_costOfTick.cls ≠ "java/lang/invoke/MethodHandle" ∧ yX0_costOfTick.cls ≠ "java/lang/invoke/VarHandle" ∧ (parseMethodDescriptor yX0_costOfTick.desc).map (fun d => d.parameters.length) = some 1 := by decide +kernel
theorem hd_X0_countIdleCpus : yX0_countIdleCpus.cls = RX0 ∧ yX0_countIdleCpus.cls ≠ "java/lang/invoke/MethodHandle" ∧ yX0_countIdleCpus.cls ≠ "java/lang/invoke/VarHandle" ∧ (parseMethodDescriptor yX0_countIdleCpus.desc).map (fun d => d.parameters.length) = some 0 := by decide +kernel
theorem hd_X0_cpuTotal : yX0_cpuTotal.cls = RX0 ∧ yX0_cpuTotal.cls ≠ "java/lang/invoke/MethodHandle" ∧ yX0_cpuTotal.cls ≠ "java/lang/invoke/VarHandle" ∧ (parseMethodDescriptor yX0_cpuTotal.desc).map (fun d => d.parameters.length) = some 0 := by decide +kernel
theorem hd_X0_raiseBases : yX0_raiseBases.cls = RX0 ∧ yX0_raiseBases.cls ≠ "java/lang/invoke/MethodHandle" ∧ yX0_raiseBases.cls ≠ "java/lang/invoke/VarHandle" ∧ (parseMethodDescriptor yX0_raiseBases.desc).map (fun d => d.parameters.length) = some 0 := by decide +kernel
theorem hd_X0_findLeastTime : yX0_findLeastTime.cls = RX0 ∧ yX0_findLeastTime.cls ≠ "java/lang/invoke/MethodHandle" ∧ yX0_findLeastTime.cls ≠ "java/lang/invoke/VarHandle" ∧ (parseMethodDescriptor yX0_findLeastTime.desc).map (fun d => d.parameters.length) = some 1 := by decide +kernel
theorem hd_J9_max_f86c9 : yJ9_max_f86c9.cls = "java/lang/Math" ∧ yJ9_max_f86c9.cls ≠ "java/lang/invoke/MethodHandle" ∧ yJ9_max_f86c9.cls ≠ "java/lang/invoke/VarHandle" ∧ (parseMethodDescriptor yJ9_max_f86c9.desc).map (fun d => d.parameters.length) = some 2 := by decide +kernel
theorem hd_X0_createTask : yX0_createTask.cls = RX0 ∧ yX0_createTask.cls ≠ "java/lang/invoke/MethodHandle" ∧ yX0_createTask.cls ≠ "java/lang/invoke/VarHandle" ∧ (parseMethodDescriptor yX0_createTask.desc).map (fun d => d.parameters.length) = some 3 := by decide +kernel
theorem hd_X0_checkCpu : yX0_checkCpu.cls = RX0 ∧ yX0_checkCpu.cls ≠ "java/lang/invoke/MethodHandle" ∧ yX0_checkCpu.cls ≠ "java/lang/invoke/VarHandle" ∧ (parseMethodDescriptor yX0_checkCpu.desc).map (fun d => d.parameters.length) = some 1 := by decide +kernel
theorem hd_X0_checkWeight : yX0_checkWeight.cls = RX0 ∧ yX0_checkWeight.cls ≠ "java/lang/invoke/MethodHandle" ∧ yX0_checkWeight.cls ≠ "java/lang/invoke/VarHandle" ∧ (parseMethodDescriptor yX0_checkWeight.desc).map (fun d => d.parameters.length) = some 1 := by decide +kernel
theorem hd_X0_checkCookie : yX0_checkCookie.cls = RX0 ∧ yX0_checkCookie.cls ≠ "java/lang/invoke/MethodHandle" ∧ yX0_checkCookie.cls ≠ "java/lang/invoke/VarHandle" ∧ (parseMethodDescriptor yX0_checkCookie.desc).map (fun d => d.parameters.length) = some 1 := by decide +kernel
theorem hd_X0_enterQueue : yX0_enterQueue.cls = RX0 ∧ yX0_enterQueue.cls ≠ "java/lang/invoke/MethodHandle" ∧ yX0_enterQueue.cls ≠ "java/lang/invoke/VarHandle" ∧ (parseMethodDescriptor yX0_enterQueue.desc).map (fun d => d.parameters.length) = some 1 := by decide +kernel
theorem hd_X0_sleep : yX0_sleep.cls = RX0 ∧ yX0_sleep.cls ≠ "java/lang/invoke/MethodHandle" ∧ yX0_sleep.cls ≠ "java/lang/invoke/VarHandle" ∧ (parseMethodDescriptor yX0_sleep.desc).map (fun d => d.parameters.length) = some 1 := by decide +kernel
theorem hd_X0_checkTask : yX0_checkTask.cls = RX0 ∧ yX0_checkTask.cls ≠ "java/lang/invoke/MethodHandle" ∧ yX0_checkTask.cls ≠ "java/lang/invoke/VarHandle" ∧ (parseMethodDescriptor yX0_checkTask.desc).map (fun d => d.parameters.length) = some 1 := by decide +kernel
theorem hd_X0_stopTask : yX0_stopTask.cls = RX0 ∧ yX0_stopTask.cls ≠ "java/lang/invoke/MethodHandle" ∧ yX0_stopTask.cls ≠ "java/lang/invoke/VarHandle" ∧ (parseMethodDescriptor yX0_stopTask.desc).map (fun d => d.parameters.length) = some 2 := by decide +kernel
theorem hd_X0_wake : yX0_wake.cls = RX0 ∧ yX0_wake.cls ≠ "java/lang/invoke/MethodHandle" ∧ yX0_wake.cls ≠ "java/lang/invoke/VarHandle" ∧ (parseMethodDescriptor yX0_wake.desc).map (fun d => d.parameters.length) = some 1 := by decide +kernel
theorem hd_X0_exit : yX0_exit.cls = RX0 ∧ yX0_exit.cls ≠ "java/lang/invoke/MethodHandle" ∧ yX0_exit.cls ≠ "java/lang/invoke/VarHandle" ∧ (parseMethodDescriptor yX0_exit.desc).map (fun d => d.parameters.length) = some 1 := by decide +kernel
theorem hd_X0_checkNotExited : yX0_checkNotExited.cls = RX0 ∧ yX0_checkNotExited.cls ≠ "java/lang/invoke/MethodHandle" ∧ yX0_checkNotExited.cls ≠ "java/lang/invoke/VarHandle" ∧ (parseMethodDescriptor yX0_checkNotExited.desc).map (fun d => d.parameters.length) = some 1 := by decide +kernel
theorem hd_X0_setWeight : yX0_setWeight.cls = RX0 ∧ yX0_setWeight.cls ≠ "java/lang/invoke/MethodHandle" ∧ yX0_setWeight.cls ≠ "java/lang/invoke/VarHandle" ∧ (parseMethodDescriptor yX0_setWeight.desc).map (fun d => d.parameters.length) = some 2 := by decide +kernel
theorem hd_X0_setCookie : yX0_setCookie.cls = RX0 ∧ yX0_setCookie.cls ≠ "java/lang/invoke/MethodHandle" ∧ yX0_setCookie.cls ≠ "java/lang/invoke/VarHandle" ∧ (parseMethodDescriptor yX0_setCookie.desc).map (fun d => d.parameters.length) = some 2 := by decide +kernel
theorem hd_X0_moveTask : yX0_moveTask.cls = RX0 ∧ yX0_moveTask.cls ≠ "java/lang/invoke/MethodHandle" ∧ yX0_moveTask.cls ≠ "java/lang/invoke/VarHandle" ∧ (parseMethodDescriptor yX0_moveTask.desc).map (fun d => d.parameters.length) = some 2 := by decide +kernel
theorem hd_X0_stateOf : yX0_stateOf.cls = RX0 ∧ yX0_stateOf.cls ≠ "java/lang/invoke/MethodHandle" ∧ yX0_stateOf.cls ≠ "java/lang/invoke/VarHandle" ∧ (parseMethodDescriptor yX0_stateOf.desc).map (fun d => d.parameters.length) = some 1 := by decide +kernel
theorem hd_X0_cpuOf : yX0_cpuOf.cls = RX0 ∧ yX0_cpuOf.cls ≠ "java/lang/invoke/MethodHandle" ∧ yX0_cpuOf.cls ≠ "java/lang/invoke/VarHandle" ∧ (parseMethodDescriptor yX0_cpuOf.desc).map (fun d => d.parameters.length) = some 1 := by decide +kernel
theorem hd_X0_virtualTime : yX0_virtualTime.cls = RX0 ∧ yX0_virtualTime.cls ≠ "java/lang/invoke/MethodHandle" ∧ yX0_virtualTime.cls ≠ "java/lang/invoke/VarHandle" ∧ (parseMethodDescriptor yX0_virtualTime.desc).map (fun d => d.parameters.length) = some 1 := by decide +kernel
theorem hd_X0_runTicks : yX0_runTicks.cls = RX0 ∧ yX0_runTicks.cls ≠ "java/lang/invoke/MethodHandle" ∧ yX0_runTicks.cls ≠ "java/lang/invoke/VarHandle" ∧ (parseMethodDescriptor yX0_runTicks.desc).map (fun d => d.parameters.length) = some 1 := by decide +kernel
theorem hd_X0_waitTicks : yX0_waitTicks.cls = RX0 ∧ yX0_waitTicks.cls ≠ "java/lang/invoke/MethodHandle" ∧ yX0_waitTicks.cls ≠ "java/lang/invoke/VarHandle" ∧ (parseMethodDescriptor yX0_waitTicks.desc).map (fun d => d.parameters.length) = some 1 := by decide +kernel
theorem hd_X0_share : yX0_share.cls = RX0 ∧ yX0_share.cls ≠ "java/lang/invoke/MethodHandle" ∧ yX0_share.cls ≠ "java/lang/invoke/VarHandle" ∧ (parseMethodDescriptor yX0_share.desc).map (fun d => d.parameters.length) = some 1 := by decide +kernel
theorem hd_X0_runningTask : yX0_runningTask.cls = RX0 ∧ yX0_runningTask.cls ≠ "java/lang/invoke/MethodHandle" ∧ yX0_runningTask.cls ≠ "java/lang/invoke/VarHandle" ∧ (parseMethodDescriptor yX0_runningTask.desc).map (fun d => d.parameters.length) = some 1 := by decide +kernel
theorem hd_X0_coreCookie : yX0_coreCookie.cls = RX0 ∧ yX0_coreCookie.cls ≠ "java/lang/invoke/MethodHandle" ∧ yX0_coreCookie.cls ≠ "java/lang/invoke/VarHandle" ∧ (parseMethodDescriptor yX0_coreCookie.desc).map (fun d => d.parameters.length) = some 1 := by decide +kernel
theorem hd_X0_checkCore : yX0_checkCore.cls = RX0 ∧ yX0_checkCore.cls ≠ "java/lang/invoke/MethodHandle" ∧ yX0_checkCore.cls ≠ "java/lang/invoke/VarHandle" ∧ (parseMethodDescriptor yX0_checkCore.desc).map (fun d => d.parameters.length) = some 1 := by decide +kernel
theorem hd_X0_leaderOf : yX0_leaderOf.cls = RX0 ∧ yX0_leaderOf.cls ≠ "java/lang/invoke/MethodHandle" ∧ yX0_leaderOf.cls ≠ "java/lang/invoke/VarHandle" ∧ (parseMethodDescriptor yX0_leaderOf.desc).map (fun d => d.parameters.length) = some 1 := by decide +kernel
theorem hd_X0_queueLength : yX0_queueLength.cls = RX0 ∧ yX0_queueLength.cls ≠ "java/lang/invoke/MethodHandle" ∧ yX0_queueLength.cls ≠ "java/lang/invoke/VarHandle" ∧ (parseMethodDescriptor yX0_queueLength.desc).map (fun d => d.parameters.length) = some 1 := by decide +kernel
theorem hd_X0_queuedTask : yX0_queuedTask.cls = RX0 ∧ yX0_queuedTask.cls ≠ "java/lang/invoke/MethodHandle" ∧ yX0_queuedTask.cls ≠ "java/lang/invoke/VarHandle" ∧ (parseMethodDescriptor yX0_queuedTask.desc).map (fun d => d.parameters.length) = some 2 := by decide +kernel
theorem hd_X0_positionOf : yX0_positionOf.cls = RX0 ∧ yX0_positionOf.cls ≠ "java/lang/invoke/MethodHandle" ∧ yX0_positionOf.cls ≠ "java/lang/invoke/VarHandle" ∧ (parseMethodDescriptor yX0_positionOf.desc).map (fun d => d.parameters.length) = some 1 := by decide +kernel
theorem hd_X0_baseOf : yX0_baseOf.cls = RX0 ∧ yX0_baseOf.cls ≠ "java/lang/invoke/MethodHandle" ∧ yX0_baseOf.cls ≠ "java/lang/invoke/VarHandle" ∧ (parseMethodDescriptor yX0_baseOf.desc).map (fun d => d.parameters.length) = some 1 := by decide +kernel
theorem hd_X0_idleTicks : yX0_idleTicks.cls = RX0 ∧ yX0_idleTicks.cls ≠ "java/lang/invoke/MethodHandle" ∧ yX0_idleTicks.cls ≠ "java/lang/invoke/VarHandle" ∧ (parseMethodDescriptor yX0_idleTicks.desc).map (fun d => d.parameters.length) = some 1 := by decide +kernel
theorem hd_X0_forcedIdleTicks : yX0_forcedIdleTicks.cls = RX0 ∧ yX0_forcedIdleTicks.cls ≠ "java/lang/invoke/MethodHandle" ∧ yX0_forcedIdleTicks.cls ≠ "java/lang/invoke/VarHandle" ∧ (parseMethodDescriptor yX0_forcedIdleTicks.desc).map (fun d => d.parameters.length) = some 1 := by decide +kernel
theorem hd_X1_init : yX1_init.cls = RX1 ∧ yX1_init.cls ≠ "java/lang/invoke/MethodHandle" ∧ yX1_init.cls ≠ "java/lang/invoke/VarHandle" ∧ (parseMethodDescriptor yX1_init.desc).map (fun d => d.parameters.length) = some 0 := by decide +kernel
theorem hd_X1_begins : yX1_begins.cls = RX1 ∧ yX1_begins.cls ≠ "java/lang/invoke/MethodHandle" ∧ yX1_begins.cls ≠ "java/lang/invoke/VarHandle" ∧ (parseMethodDescriptor yX1_begins.desc).map (fun d => d.parameters.length) = some 1 := by decide +kernel
theorem hd_X1_thrown : yX1_thrown.cls = RX1 ∧ yX1_thrown.cls ≠ "java/lang/invoke/MethodHandle" ∧ yX1_thrown.cls ≠ "java/lang/invoke/VarHandle" ∧ (parseMethodDescriptor yX1_thrown.desc).map (fun d => d.parameters.length) = some 0 := by decide +kernel
theorem hd_X1_reset : yX1_reset.cls = RX1 ∧ yX1_reset.cls ≠ "java/lang/invoke/MethodHandle" ∧ yX1_reset.cls ≠ "java/lang/invoke/VarHandle" ∧ (parseMethodDescriptor yX1_reset.desc).map (fun d => d.parameters.length) = some 1 := by decide +kernel
theorem hd_X1_in : yX1_in.cls = RX1 ∧ yX1_in.cls ≠ "java/lang/invoke/MethodHandle" ∧ yX1_in.cls ≠ "java/lang/invoke/VarHandle" ∧ (parseMethodDescriptor yX1_in.desc).map (fun d => d.parameters.length) = some 3 := by decide +kernel
theorem hd_X1_isRefused : yX1_isRefused.cls = RX1 ∧ yX1_isRefused.cls ≠ "java/lang/invoke/MethodHandle" ∧ yX1_isRefused.cls ≠ "java/lang/invoke/VarHandle" ∧ (parseMethodDescriptor yX1_isRefused.desc).map (fun d => d.parameters.length) = some 2 := by decide +kernel
theorem hd_X1_setStealing : yX1_setStealing.cls = RX1 ∧ yX1_setStealing.cls ≠ "java/lang/invoke/MethodHandle" ∧ yX1_setStealing.cls ≠ "java/lang/invoke/VarHandle" ∧ (parseMethodDescriptor yX1_setStealing.desc).map (fun d => d.parameters.length) = some 1 := by decide +kernel
theorem hd_X1_tick : yX1_tick.cls = RX1 ∧ yX1_tick.cls ≠ "java/lang/invoke/MethodHandle" ∧ yX1_tick.cls ≠ "java/lang/invoke/VarHandle" ∧ (parseMethodDescriptor yX1_tick.desc).map (fun d => d.parameters.length) = some 1 := by decide +kernel
theorem hd_X1_tickOne : yX1_tickOne.cls = RX1 ∧ yX1_tickOne.cls ≠ "java/lang/invoke/MethodHandle" ∧ yX1_tickOne.cls ≠ "java/lang/invoke/VarHandle" ∧ (parseMethodDescriptor yX1_tickOne.desc).map (fun d => d.parameters.length) = some 0 := by decide +kernel
theorem hd_X1_picks : yX1_picks.cls = RX1 ∧ yX1_picks.cls ≠ "java/lang/invoke/MethodHandle" ∧ yX1_picks.cls ≠ "java/lang/invoke/VarHandle" ∧ (parseMethodDescriptor yX1_picks.desc).map (fun d => d.parameters.length) = some 1 := by decide +kernel
theorem hd_X1_leader : yX1_leader.cls = RX1 ∧ yX1_leader.cls ≠ "java/lang/invoke/MethodHandle" ∧ yX1_leader.cls ≠ "java/lang/invoke/VarHandle" ∧ (parseMethodDescriptor yX1_leader.desc).map (fun d => d.parameters.length) = some 1 := by decide +kernel
theorem hd_X1_isRunnable : yX1_isRunnable.cls = RX1 ∧ yX1_isRunnable.cls ≠ "java/lang/invoke/MethodHandle" ∧ yX1_isRunnable.cls ≠ "java/lang/invoke/VarHandle" ∧ (parseMethodDescriptor yX1_isRunnable.desc).map (fun d => d.parameters.length) = some 1 := by decide +kernel
theorem hd_X1_isAhead : yX1_isAhead.cls = RX1 ∧ yX1_isAhead.cls ≠ "java/lang/invoke/MethodHandle" ∧ yX1_isAhead.cls ≠ "java/lang/invoke/VarHandle" ∧ (parseMethodDescriptor yX1_isAhead.desc).map (fun d => d.parameters.length) = some 2 := by decide +kernel
theorem hd_X1_relative : yX1_relative.cls = RX1 ∧ yX1_relative.cls ≠ "java/lang/invoke/MethodHandle" ∧ yX1_relative.cls ≠ "java/lang/invoke/VarHandle" ∧ (parseMethodDescriptor yX1_relative.desc).map (fun d => d.parameters.length) = some 1 := by decide +kernel
theorem hd_X1_firstOf : yX1_firstOf.cls = RX1 ∧ yX1_firstOf.cls ≠ "java/lang/invoke/MethodHandle" ∧ yX1_firstOf.cls ≠ "java/lang/invoke/VarHandle" ∧ (parseMethodDescriptor yX1_firstOf.desc).map (fun d => d.parameters.length) = some 2 := by decide +kernel
theorem hd_X1_toSteal : yX1_toSteal.cls = RX1 ∧ yX1_toSteal.cls ≠ "java/lang/invoke/MethodHandle" ∧ yX1_toSteal.cls ≠ "java/lang/invoke/VarHandle" ∧ (parseMethodDescriptor yX1_toSteal.desc).map (fun d => d.parameters.length) = some 2 := by decide +kernel
theorem hd_X1_goesTo : yX1_goesTo.cls = RX1 ∧ yX1_goesTo.cls ≠ "java/lang/invoke/MethodHandle" ∧ yX1_goesTo.cls ≠ "java/lang/invoke/VarHandle" ∧ (parseMethodDescriptor yX1_goesTo.desc).map (fun d => d.parameters.length) = some 2 := by decide +kernel
theorem hd_X1_queued : yX1_queued.cls = RX1 ∧ yX1_queued.cls ≠ "java/lang/invoke/MethodHandle" ∧ yX1_queued.cls ≠ "java/lang/invoke/VarHandle" ∧ (parseMethodDescriptor yX1_queued.desc).map (fun d => d.parameters.length) = some 1 := by decide +kernel
theorem hd_X1_createTask : yX1_createTask.cls = RX1 ∧ yX1_createTask.cls ≠ "java/lang/invoke/MethodHandle" ∧ yX1_createTask.cls ≠ "java/lang/invoke/VarHandle" ∧ (parseMethodDescriptor yX1_createTask.desc).map (fun d => d.parameters.length) = some 3 := by decide +kernel
theorem hd_X1_noCpu : yX1_noCpu.cls = RX1 ∧ yX1_noCpu.cls ≠ "java/lang/invoke/MethodHandle" ∧ yX1_noCpu.cls ≠ "java/lang/invoke/VarHandle" ∧ (parseMethodDescriptor yX1_noCpu.desc).map (fun d => d.parameters.length) = some 1 := by decide +kernel
theorem hd_X1_noWeight : yX1_noWeight.cls = RX1 ∧ yX1_noWeight.cls ≠ "java/lang/invoke/MethodHandle" ∧ yX1_noWeight.cls ≠ "java/lang/invoke/VarHandle" ∧ (parseMethodDescriptor yX1_noWeight.desc).map (fun d => d.parameters.length) = some 1 := by decide +kernel
theorem hd_X1_noCookie : yX1_noCookie.cls = RX1 ∧ yX1_noCookie.cls ≠ "java/lang/invoke/MethodHandle" ∧ yX1_noCookie.cls ≠ "java/lang/invoke/VarHandle" ∧ (parseMethodDescriptor yX1_noCookie.desc).map (fun d => d.parameters.length) = some 1 := by decide +kernel
theorem hd_X1_sleep : yX1_sleep.cls = RX1 ∧ yX1_sleep.cls ≠ "java/lang/invoke/MethodHandle" ∧ yX1_sleep.cls ≠ "java/lang/invoke/VarHandle" ∧ (parseMethodDescriptor yX1_sleep.desc).map (fun d => d.parameters.length) = some 1 := by decide +kernel
theorem hd_X1_noTask : yX1_noTask.cls = RX1 ∧ yX1_noTask.cls ≠ "java/lang/invoke/MethodHandle" ∧ yX1_noTask.cls ≠ "java/lang/invoke/VarHandle" ∧ (parseMethodDescriptor yX1_noTask.desc).map (fun d => d.parameters.length) = some 1 := by decide +kernel
theorem hd_X1_becomes : yX1_becomes.cls = RX1 ∧ yX1_becomes.cls ≠ "java/lang/invoke/MethodHandle" ∧ yX1_becomes.cls ≠ "java/lang/invoke/VarHandle" ∧ (parseMethodDescriptor yX1_becomes.desc).map (fun d => d.parameters.length) = some 2 := by decide +kernel
theorem hd_X1_wake : yX1_wake.cls = RX1 ∧ yX1_wake.cls ≠ "java/lang/invoke/MethodHandle" ∧ yX1_wake.cls ≠ "java/lang/invoke/VarHandle" ∧ (parseMethodDescriptor yX1_wake.desc).map (fun d => d.parameters.length) = some 1 := by decide +kernel
theorem hd_X1_exit : yX1_exit.cls = RX1 ∧ yX1_exit.cls ≠ "java/lang/invoke/MethodHandle" ∧ yX1_exit.cls ≠ "java/lang/invoke/VarHandle" ∧ (parseMethodDescriptor yX1_exit.desc).map (fun d => d.parameters.length) = some 1 := by decide +kernel
theorem hd_X1_hasExited : yX1_hasExited.cls = RX1 ∧ yX1_hasExited.cls ≠ "java/lang/invoke/MethodHandle" ∧ yX1_hasExited.cls ≠ "java/lang/invoke/VarHandle" ∧ (parseMethodDescriptor yX1_hasExited.desc).map (fun d => d.parameters.length) = some 1 := by decide +kernel
theorem hd_X1_setWeight : yX1_setWeight.cls = RX1 ∧ yX1_setWeight.cls ≠ "java/lang/invoke/MethodHandle" ∧ yX1_setWeight.cls ≠ "java/lang/invoke/VarHandle" ∧ (parseMethodDescriptor yX1_setWeight.desc).map (fun d => d.parameters.length) = some 2 := by decide +kernel
theorem hd_X1_setCookie : yX1_setCookie.cls = RX1 ∧ yX1_setCookie.cls ≠ "java/lang/invoke/MethodHandle" ∧ yX1_setCookie.cls ≠ "java/lang/invoke/VarHandle" ∧ (parseMethodDescriptor yX1_setCookie.desc).map (fun d => d.parameters.length) = some 2 := by decide +kernel
theorem hd_X1_moveTask : yX1_moveTask.cls = RX1 ∧ yX1_moveTask.cls ≠ "java/lang/invoke/MethodHandle" ∧ yX1_moveTask.cls ≠ "java/lang/invoke/VarHandle" ∧ (parseMethodDescriptor yX1_moveTask.desc).map (fun d => d.parameters.length) = some 2 := by decide +kernel
theorem hd_X1_taskCount : yX1_taskCount.cls = RX1 ∧ yX1_taskCount.cls ≠ "java/lang/invoke/MethodHandle" ∧ yX1_taskCount.cls ≠ "java/lang/invoke/VarHandle" ∧ (parseMethodDescriptor yX1_taskCount.desc).map (fun d => d.parameters.length) = some 0 := by decide +kernel
theorem hd_X1_stateOf : yX1_stateOf.cls = RX1 ∧ yX1_stateOf.cls ≠ "java/lang/invoke/MethodHandle" ∧ yX1_stateOf.cls ≠ "java/lang/invoke/VarHandle" ∧ (parseMethodDescriptor yX1_stateOf.desc).map (fun d => d.parameters.length) = some 1 := by decide +kernel
theorem hd_X1_cpuOf : yX1_cpuOf.cls = RX1 ∧ yX1_cpuOf.cls ≠ "java/lang/invoke/MethodHandle" ∧ yX1_cpuOf.cls ≠ "java/lang/invoke/VarHandle" ∧ (parseMethodDescriptor yX1_cpuOf.desc).map (fun d => d.parameters.length) = some 1 := by decide +kernel
theorem hd_X1_virtualTime : yX1_virtualTime.cls = RX1 ∧ yX1_virtualTime.cls ≠ "java/lang/invoke/MethodHandle" ∧ yX1_virtualTime.cls ≠ "java/lang/invoke/VarHandle" ∧ (parseMethodDescriptor yX1_virtualTime.desc).map (fun d => d.parameters.length) = some 1 := by decide +kernel
theorem hd_X1_runTicks : yX1_runTicks.cls = RX1 ∧ yX1_runTicks.cls ≠ "java/lang/invoke/MethodHandle" ∧ yX1_runTicks.cls ≠ "java/lang/invoke/VarHandle" ∧ (parseMethodDescriptor yX1_runTicks.desc).map (fun d => d.parameters.length) = some 1 := by decide +kernel
theorem hd_X1_waitTicks : yX1_waitTicks.cls = RX1 ∧ yX1_waitTicks.cls ≠ "java/lang/invoke/MethodHandle" ∧ yX1_waitTicks.cls ≠ "java/lang/invoke/VarHandle" ∧ (parseMethodDescriptor yX1_waitTicks.desc).map (fun d => d.parameters.length) = some 1 := by decide +kernel
theorem hd_X1_share : yX1_share.cls = RX1 ∧ yX1_share.cls ≠ "java/lang/invoke/MethodHandle" ∧ yX1_share.cls ≠ "java/lang/invoke/VarHandle" ∧ (parseMethodDescriptor yX1_share.desc).map (fun d => d.parameters.length) = some 1 := by decide +kernel
theorem hd_X1_runningTask : yX1_runningTask.cls = RX1 ∧ yX1_runningTask.cls ≠ "java/lang/invoke/MethodHandle" ∧ yX1_runningTask.cls ≠ "java/lang/invoke/VarHandle" ∧ (parseMethodDescriptor yX1_runningTask.desc).map (fun d => d.parameters.length) = some 1 := by decide +kernel
theorem hd_X1_coreCookie : yX1_coreCookie.cls = RX1 ∧ yX1_coreCookie.cls ≠ "java/lang/invoke/MethodHandle" ∧ yX1_coreCookie.cls ≠ "java/lang/invoke/VarHandle" ∧ (parseMethodDescriptor yX1_coreCookie.desc).map (fun d => d.parameters.length) = some 1 := by decide +kernel
theorem hd_X1_noCore : yX1_noCore.cls = RX1 ∧ yX1_noCore.cls ≠ "java/lang/invoke/MethodHandle" ∧ yX1_noCore.cls ≠ "java/lang/invoke/VarHandle" ∧ (parseMethodDescriptor yX1_noCore.desc).map (fun d => d.parameters.length) = some 1 := by decide +kernel
theorem hd_X1_leaderOf : yX1_leaderOf.cls = RX1 ∧ yX1_leaderOf.cls ≠ "java/lang/invoke/MethodHandle" ∧ yX1_leaderOf.cls ≠ "java/lang/invoke/VarHandle" ∧ (parseMethodDescriptor yX1_leaderOf.desc).map (fun d => d.parameters.length) = some 1 := by decide +kernel
theorem hd_X1_queueLength : yX1_queueLength.cls = RX1 ∧ yX1_queueLength.cls ≠ "java/lang/invoke/MethodHandle" ∧ yX1_queueLength.cls ≠ "java/lang/invoke/VarHandle" ∧ (parseMethodDescriptor yX1_queueLength.desc).map (fun d => d.parameters.length) = some 1 := by decide +kernel
theorem hd_X1_queuedTask : yX1_queuedTask.cls = RX1 ∧ yX1_queuedTask.cls ≠ "java/lang/invoke/MethodHandle" ∧ yX1_queuedTask.cls ≠ "java/lang/invoke/VarHandle" ∧ (parseMethodDescriptor yX1_queuedTask.desc).map (fun d => d.parameters.length) = some 2 := by decide +kernel
theorem hd_X1_baseOf : yX1_baseOf.cls = RX1 ∧ yX1_baseOf.cls ≠ "java/lang/invoke/MethodHandle" ∧ yX1_baseOf.cls ≠ "java/lang/invoke/VarHandle" ∧ (parseMethodDescriptor yX1_baseOf.desc).map (fun d => d.parameters.length) = some 1 := by decide +kernel
theorem hd_X1_idleTicks : yX1_idleTicks.cls = RX1 ∧ yX1_idleTicks.cls ≠ "java/lang/invoke/MethodHandle" ∧ yX1_idleTicks.cls ≠ "java/lang/invoke/VarHandle" ∧ (parseMethodDescriptor yX1_idleTicks.desc).map (fun d => d.parameters.length) = some 1 := by decide +kernel
theorem hd_X1_forcedIdleTicks : yX1_forcedIdleTicks.cls = RX1 ∧ yX1_forcedIdleTicks.cls ≠ "java/lang/invoke/MethodHandle" ∧ yX1_forcedIdleTicks.cls ≠ "java/lang/invoke/VarHandle" ∧ (parseMethodDescriptor yX1_forcedIdleTicks.desc).map (fun d => d.parameters.length) = some 1 := by decide +kernel
theorem hd_X1_stolenTasks : yX1_stolenTasks.cls = RX1 ∧ yX1_stolenTasks.cls ≠ "java/lang/invoke/MethodHandle" ∧ yX1_stolenTasks.cls ≠ "java/lang/invoke/VarHandle" ∧ (parseMethodDescriptor yX1_stolenTasks.desc).map (fun d => d.parameters.length) = some 0 := by decide +kernel
theorem hd_L_reset : yL_reset.cls = RL ∧ yL_reset.cls ≠ "java/lang/invoke/MethodHandle" ∧ yL_reset.cls ≠ "java/lang/invoke/VarHandle" ∧ (parseMethodDescriptor yL_reset.desc).map (fun d => d.parameters.length) = some 3 := by decide +kernel
theorem hd_L_tick : yL_tick.cls = RL ∧ yL_tick.cls ≠ "java/lang/invoke/MethodHandle" ∧ yL_tick.cls ≠ "java/lang/invoke/VarHandle" ∧ (parseMethodDescriptor yL_tick.desc).map (fun d => d.parameters.length) = some 3 := by decide +kernel
theorem hd_L_createTask : yL_createTask.cls = RL ∧ yL_createTask.cls ≠ "java/lang/invoke/MethodHandle" ∧ yL_createTask.cls ≠ "java/lang/invoke/VarHandle" ∧ (parseMethodDescriptor yL_createTask.desc).map (fun d => d.parameters.length) = some 5 := by decide +kernel
theorem hd_L_sleep : yL_sleep.cls = RL ∧ yL_sleep.cls ≠ "java/lang/invoke/MethodHandle" ∧ yL_sleep.cls ≠ "java/lang/invoke/VarHandle" ∧ (parseMethodDescriptor yL_sleep.desc).map (fun d => d.parameters.length) = some 3 := by decide +kernel
theorem hd_L_wake : yL_wake.cls = RL ∧ yL_wake.cls ≠ "java/lang/invoke/MethodHandle" ∧ yL_wake.cls ≠ "java/lang/invoke/VarHandle" ∧ (parseMethodDescriptor yL_wake.desc).map (fun d => d.parameters.length) = some 3 := by decide +kernel
theorem hd_L_exit : yL_exit.cls = RL ∧ yL_exit.cls ≠ "java/lang/invoke/MethodHandle" ∧ yL_exit.cls ≠ "java/lang/invoke/VarHandle" ∧ (parseMethodDescriptor yL_exit.desc).map (fun d => d.parameters.length) = some 3 := by decide +kernel
theorem hd_L_setWeight : yL_setWeight.cls = RL ∧ yL_setWeight.cls ≠ "java/lang/invoke/MethodHandle" ∧ yL_setWeight.cls ≠ "java/lang/invoke/VarHandle" ∧ (parseMethodDescriptor yL_setWeight.desc).map (fun d => d.parameters.length) = some 4 := by decide +kernel
theorem hd_L_setCookie : yL_setCookie.cls = RL ∧ yL_setCookie.cls ≠ "java/lang/invoke/MethodHandle" ∧ yL_setCookie.cls ≠ "java/lang/invoke/VarHandle" ∧ (parseMethodDescriptor yL_setCookie.desc).map (fun d => d.parameters.length) = some 4 := by decide +kernel
theorem hd_L_moveTask : yL_moveTask.cls = RL ∧ yL_moveTask.cls ≠ "java/lang/invoke/MethodHandle" ∧ yL_moveTask.cls ≠ "java/lang/invoke/VarHandle" ∧ (parseMethodDescriptor yL_moveTask.desc).map (fun d => d.parameters.length) = some 4 := by decide +kernel
theorem hd_L_stateOf : yL_stateOf.cls = RL ∧ yL_stateOf.cls ≠ "java/lang/invoke/MethodHandle" ∧ yL_stateOf.cls ≠ "java/lang/invoke/VarHandle" ∧ (parseMethodDescriptor yL_stateOf.desc).map (fun d => d.parameters.length) = some 3 := by decide +kernel
theorem hd_L_cpuOf : yL_cpuOf.cls = RL ∧ yL_cpuOf.cls ≠ "java/lang/invoke/MethodHandle" ∧ yL_cpuOf.cls ≠ "java/lang/invoke/VarHandle" ∧ (parseMethodDescriptor yL_cpuOf.desc).map (fun d => d.parameters.length) = some 3 := by decide +kernel
theorem hd_L_virtualTime : yL_virtualTime.cls = RL ∧ yL_virtualTime.cls ≠ "java/lang/invoke/MethodHandle" ∧ yL_virtualTime.cls ≠ "java/lang/invoke/VarHandle" ∧ (parseMethodDescriptor yL_virtualTime.desc).map (fun d => d.parameters.length) = some 3 := by decide +kernel
theorem hd_L_runTicks : yL_runTicks.cls = RL ∧ yL_runTicks.cls ≠ "java/lang/invoke/MethodHandle" ∧ yL_runTicks.cls ≠ "java/lang/invoke/VarHandle" ∧ (parseMethodDescriptor yL_runTicks.desc).map (fun d => d.parameters.length) = some 3 := by decide +kernel
theorem hd_L_waitTicks : yL_waitTicks.cls = RL ∧ yL_waitTicks.cls ≠ "java/lang/invoke/MethodHandle" ∧ yL_waitTicks.cls ≠ "java/lang/invoke/VarHandle" ∧ (parseMethodDescriptor yL_waitTicks.desc).map (fun d => d.parameters.length) = some 3 := by decide +kernel
theorem hd_L_share : yL_share.cls = RL ∧ yL_share.cls ≠ "java/lang/invoke/MethodHandle" ∧ yL_share.cls ≠ "java/lang/invoke/VarHandle" ∧ (parseMethodDescriptor yL_share.desc).map (fun d => d.parameters.length) = some 3 := by decide +kernel
theorem hd_L_runningTask : yL_runningTask.cls = RL ∧ yL_runningTask.cls ≠ "java/lang/invoke/MethodHandle" ∧ yL_runningTask.cls ≠ "java/lang/invoke/VarHandle" ∧ (parseMethodDescriptor yL_runningTask.desc).map (fun d => d.parameters.length) = some 3 := by decide +kernel
theorem hd_L_coreCookie : yL_coreCookie.cls = RL ∧ yL_coreCookie.cls ≠ "java/lang/invoke/MethodHandle" ∧ yL_coreCookie.cls ≠ "java/lang/invoke/VarHandle" ∧ (parseMethodDescriptor yL_coreCookie.desc).map (fun d => d.parameters.length) = some 3 := by decide +kernel
theorem hd_L_leaderOf : yL_leaderOf.cls = RL ∧ yL_leaderOf.cls ≠ "java/lang/invoke/MethodHandle" ∧ yL_leaderOf.cls ≠ "java/lang/invoke/VarHandle" ∧ (parseMethodDescriptor yL_leaderOf.desc).map (fun d => d.parameters.length) = some 3 := by decide +kernel
theorem hd_L_queueLength : yL_queueLength.cls = RL ∧ yL_queueLength.cls ≠ "java/lang/invoke/MethodHandle" ∧ yL_queueLength.cls ≠ "java/lang/invoke/VarHandle" ∧ (parseMethodDescriptor yL_queueLength.desc).map (fun d => d.parameters.length) = some 3 := by decide +kernel
theorem hd_L_queuedTask : yL_queuedTask.cls = RL ∧ yL_queuedTask.cls ≠ "java/lang/invoke/MethodHandle" ∧ yL_queuedTask.cls ≠ "java/lang/invoke/VarHandle" ∧ (parseMethodDescriptor yL_queuedTask.desc).map (fun d => d.parameters.length) = some 4 := by decide +kernel
theorem hd_L_baseOf : yL_baseOf.cls = RL ∧ yL_baseOf.cls ≠ "java/lang/invoke/MethodHandle" ∧ yL_baseOf.cls ≠ "java/lang/invoke/VarHandle" ∧ (parseMethodDescriptor yL_baseOf.desc).map (fun d => d.parameters.length) = some 3 := by decide +kernel
theorem hd_L_idleTicks : yL_idleTicks.cls = RL ∧ yL_idleTicks.cls ≠ "java/lang/invoke/MethodHandle" ∧ yL_idleTicks.cls ≠ "java/lang/invoke/VarHandle" ∧ (parseMethodDescriptor yL_idleTicks.desc).map (fun d => d.parameters.length) = some 3 := by decide +kernel
theorem hd_L_forcedIdleTicks : yL_forcedIdleTicks.cls = RL ∧ yL_forcedIdleTicks.cls ≠ "java/lang/invoke/MethodHandle" ∧ yL_forcedIdleTicks.cls ≠ "java/lang/invoke/VarHandle" ∧ (parseMethodDescriptor yL_forcedIdleTicks.desc).map (fun d => d.parameters.length) = some 3 := by decide +kernel
theorem in_X0 : ∀ w ∈ u_ws RX0 TX0 17, w ∈ lw_all := by decide +kernel
theorem in_X1 : ∀ w ∈ u_ws RX1 TX1 18, w ∈ lw_all := by decide +kernel
